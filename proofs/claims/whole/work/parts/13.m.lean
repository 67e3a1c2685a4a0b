theorem flX6_182 : FL RX6 182 0 4 := ⟨_, rfl, Nat.le_of_ble_eq_true rfl, tw 164 (by decide +kernel) rfl, rfl⟩
theorem dX6_highest_0 : decode cX6_highest 0 = .ok (.iconst 0, 1) := by decide +kernel
theorem dX6_highest_1 : decode cX6_highest 1 = .ok (.istore_n 1, 1) := by decide +kernel
theorem dX6_highest_2 : decode cX6_highest 2 = .ok (.iconst 0, 1) := by decide +kernel
theorem dX6_highest_3 : decode cX6_highest 3 = .ok (.istore_n 2, 1) := by decide +kernel
theorem dX6_highest_4 : decode cX6_highest 4 = .ok (.iload_n 2, 1) := by decide +kernel
theorem dX6_highest_5 : decode cX6_highest 5 = .ok (.aload_n 0, 1) := by decide +kernel
theorem dX6_highest_6 : decode cX6_highest 6 = .ok (.getfield 9, 3) := by decide +kernel
theorem dX6_highest_9 : decode cX6_highest 9 = .ok (.getfield 81, 3) := by decide +kernel
theorem dX6_highest_12 : decode cX6_highest 12 = .ok (.if_icmp .ge 60, 3) := by decide +kernel
theorem dX6_highest_15 : decode cX6_highest 15 = .ok (.iconst 0, 1) := by decide +kernel
theorem dX6_highest_16 : decode cX6_highest 16 = .ok (.istore_n 3, 1) := by decide +kernel
theorem dX6_highest_17 : decode cX6_highest 17 = .ok (.iload_n 2, 1) := by decide +kernel
theorem dX6_highest_18 : decode cX6_highest 18 = .ok (.istore 4, 2) := by decide +kernel
theorem dX6_highest_20 : decode cX6_highest 20 = .ok (.iconst 0, 1) := by decide +kernel
theorem dX6_highest_21 : decode cX6_highest 21 = .ok (.istore 5, 2) := by decide +kernel
theorem dX6_highest_23 : decode cX6_highest 23 = .ok (.iload 5, 2) := by decide +kernel
theorem dX6_highest_25 : decode cX6_highest 25 = .ok (.bipush 8, 2) := by decide +kernel
theorem dX6_highest_27 : decode cX6_highest 27 = .ok (.if_icmp .ge 33, 3) := by decide +kernel
theorem dX6_highest_30 : decode cX6_highest 30 = .ok (.aload_n 0, 1) := by decide +kernel
theorem dX6_highest_31 : decode cX6_highest 31 = .ok (.iload 4, 2) := by decide +kernel
theorem dX6_highest_33 : decode cX6_highest 33 = .ok (.invokevirtual 128, 3) := by decide +kernel
theorem dX6_highest_36 : decode cX6_highest 36 = .ok (.ifCond .eq 24, 3) := by decide +kernel
theorem dX6_highest_39 : decode cX6_highest 39 = .ok (.iinc 3 1, 3) := by decide +kernel
theorem dX6_highest_42 : decode cX6_highest 42 = .ok (.aload_n 0, 1) := by decide +kernel
theorem dX6_highest_43 : decode cX6_highest 43 = .ok (.getfield 9, 3) := by decide +kernel
theorem dX6_highest_46 : decode cX6_highest 46 = .ok (.getfield 182, 3) := by decide +kernel
theorem dX6_highest_49 : decode cX6_highest 49 = .ok (.iload 4, 2) := by decide +kernel
theorem dX6_highest_51 : decode cX6_highest 51 = .ok (.iaload, 1) := by decide +kernel
theorem dX6_highest_52 : decode cX6_highest 52 = .ok (.istore 4, 2) := by decide +kernel
theorem dX6_highest_54 : decode cX6_highest 54 = .ok (.iinc 5 1, 3) := by decide +kernel
theorem dX6_highest_57 : decode cX6_highest 57 = .ok (.goto (-34), 3) := by decide +kernel
theorem dX6_highest_60 : decode cX6_highest 60 = .ok (.iload_n 1, 1) := by decide +kernel
theorem dX6_highest_61 : decode cX6_highest 61 = .ok (.iload_n 3, 1) := by decide +kernel
theorem dX6_highest_62 : decode cX6_highest 62 = .ok (.invokestatic 146, 3) := by decide +kernel
theorem dX6_highest_65 : decode cX6_highest 65 = .ok (.istore_n 1, 1) := by decide +kernel
theorem dX6_highest_66 : decode cX6_highest 66 = .ok (.iinc 2 1, 3) := by decide +kernel
theorem dX6_highest_69 : decode cX6_highest 69 = .ok (.goto (-65), 3) := by decide +kernel
theorem dX6_highest_72 : decode cX6_highest 72 = .ok (.iload_n 1, 1) := by decide +kernel
theorem dX6_highest_73 : decode cX6_highest 73 = .ok (.ireturn, 1) := by decide +kernel
abbrev rmX6_highest : Room := { frames := 2, cells := 0, slots := 0, locals := 42 }
def bX6_highest_60 (k4 : Nat → Int32 → Int32 → Option (Int32)) (a0 : Nat) (l1 : Int32) (l2 : Int32) (l3 : Int32) (z : AH) : Option (Int32) :=
  nm (imax l1 l3) fun v65 =>
  nm (l2 + (1 : Int32)) fun v66 =>
  k4 a0 v65 v66
set_option maxHeartbeats 4000000 in
set_option maxRecDepth 100000 in
theorem kbX6_highest_60 {p : Program} {l : Launch} {e : Env} {s : State} {m : MethodId} {args : Array Value} {below : List Frame} {meth : Method} {c : Code} {G : GW} {r : Int32} (C : Cx p m c cX6_highest 6 s args RX6 G) (hlk : meth.locks = false) (hr : meth.sig.returnType = (some .int)) {z : AH} (k4 : Nat → Int32 → Int32 → Option (Int32)) (hk4 : ∀ (a0 : Nat) (l1 : Int32) (l2 : Int32) (H : Heap) (locs : List Loc) (ls : Array Slot), k4 a0 l1 l2 = some r → Wb G z s H locs → lv_has ls 6 [(0, .ref (gB G + a0)), (1, .int l1), (2, .int l2)] → W p l e rmX6_highest s m args below meth c H locs 0 0 (MQ below (Qi G r z) args s 0 0 (AA G)) (F0 m 4 ls [])) (a0 : Nat) (l1 : Int32) (l2 : Int32) (l3 : Int32) {H : Heap} {locs : List Loc} {ls : Array Slot} (h : bX6_highest_60 k4 a0 l1 l2 l3 z = some r) (hW : Wb G z s H locs) (hl : lv_has ls 6 [(0, .ref (gB G + a0)), (1, .int l1), (2, .int l2), (3, .int l3)]) : W p l e rmX6_highest s m args below meth c H locs 0 0 (MQ below (Qi G r z) args s 0 0 (AA G)) (F0 m 60 ls []) := by
  have hx := C.1
  have hb := C.2.1
  unfold bX6_highest_60 at h
  refine lv_iload_n hx hb dX6_highest_60 rfl (lv_at hl 1 rfl) ?_
  refine lv_iload_n hx hb dX6_highest_61 rfl (lv_at hl 3 rfl) ?_
  refine wz_max ⟨tw 883 (by decide +kernel) rfl, tw 733 (by decide +kernel) rfl, tw 129 (by decide +kernel) rfl, tw 734 (by decide +kernel) rfl⟩ C hl.1 ⟨⟨Nat.le_of_ble_eq_true rfl, Nat.le_of_ble_eq_true rfl⟩, Nat.le_of_ble_eq_true rfl, Nat.le_of_ble_eq_true rfl⟩ (Nat.le_of_ble_eq_true rfl) dX6_highest_62 ?_
  refine lv_topi (fun v65 ev65 => ?_)
  have h := nm_to h ev65
  refine lv_istore_n (lv' := [(1, .int v65), (0, .ref (gB G + a0)), (2, .int l2), (3, .int l3)]) hx hb dX6_highest_65 rfl hl (by decide) rfl (fun ls hl => ?_)
  obtain ⟨v66, ev66⟩ : ∃ y : Int32, y = (l2 + (1 : Int32)) := ⟨_, rfl⟩
  have h := nm_to h ev66
  refine lv_iinc (v := v66) (lv' := [(2, .int v66), (1, .int v65), (0, .ref (gB G + a0)), (3, .int l3)]) hx hb dX6_highest_66 hl (k := 2) rfl (by rw [ev66]; rfl) (by decide) rfl (fun ls hl => ?_)
  refine lv_goto (tgt := 4) hx hb dX6_highest_69 (by decide) ?_
  exact hk4 a0 v65 v66 _ _ _ h hW (lv_sub hl [2, 1, 0] rfl)
def bX6_highest_23 (k4 : Nat → Int32 → Int32 → Option (Int32)) (k23 : Nat → Int32 → Int32 → Int32 → Int32 → Int32 → Option (Int32)) (a0 : Nat) (l1 : Int32) (l2 : Int32) (l3 : Int32) (l4 : Int32) (l5 : Int32) (z : AH) : Option (Int32) :=
  if (8 : Int32) ≤ l5 then (
    bX6_highest_60 k4 a0 l1 l2 l3 z
  ) else (
    (fX6_isThere a0 l4 z).bind fun x33 =>
    if x33 = (0 : Int32) then (
      bX6_highest_60 k4 a0 l1 l2 l3 z
    ) else (
      nm (l3 + (1 : Int32)) fun v39 =>
      (gN 5 0 z a0).bind fun b43 =>
      (gN 0 4 z b43).bind fun b46 =>
      (ixI 0 z b46 l4).bind fun x51 =>
      nm (l5 + (1 : Int32)) fun v54 =>
      k23 a0 l1 l2 v39 x51 v54
    )
  )
set_option maxHeartbeats 4000000 in
set_option maxRecDepth 100000 in
theorem kbX6_highest_23 {p : Program} {l : Launch} {e : Env} {s : State} {m : MethodId} {args : Array Value} {below : List Frame} {meth : Method} {c : Code} {G : GW} {r : Int32} (C : Cx p m c cX6_highest 6 s args RX6 G) (hlk : meth.locks = false) (hr : meth.sig.returnType = (some .int)) {z : AH} (k4 : Nat → Int32 → Int32 → Option (Int32)) (k23 : Nat → Int32 → Int32 → Int32 → Int32 → Int32 → Option (Int32)) (hk4 : ∀ (a0 : Nat) (l1 : Int32) (l2 : Int32) (H : Heap) (locs : List Loc) (ls : Array Slot), k4 a0 l1 l2 = some r → Wb G z s H locs → lv_has ls 6 [(0, .ref (gB G + a0)), (1, .int l1), (2, .int l2)] → W p l e rmX6_highest s m args below meth c H locs 0 0 (MQ below (Qi G r z) args s 0 0 (AA G)) (F0 m 4 ls [])) (hk23 : ∀ (a0 : Nat) (l1 : Int32) (l2 : Int32) (l3 : Int32) (l4 : Int32) (l5 : Int32) (H : Heap) (locs : List Loc) (ls : Array Slot), k23 a0 l1 l2 l3 l4 l5 = some r → Wb G z s H locs → lv_has ls 6 [(0, .ref (gB G + a0)), (1, .int l1), (2, .int l2), (3, .int l3), (4, .int l4), (5, .int l5)] → W p l e rmX6_highest s m args below meth c H locs 0 0 (MQ below (Qi G r z) args s 0 0 (AA G)) (F0 m 23 ls [])) (a0 : Nat) (l1 : Int32) (l2 : Int32) (l3 : Int32) (l4 : Int32) (l5 : Int32) {H : Heap} {locs : List Loc} {ls : Array Slot} (h : bX6_highest_23 k4 k23 a0 l1 l2 l3 l4 l5 z = some r) (hW : Wb G z s H locs) (hl : lv_has ls 6 [(0, .ref (gB G + a0)), (1, .int l1), (2, .int l2), (3, .int l3), (4, .int l4), (5, .int l5)]) : W p l e rmX6_highest s m args below meth c H locs 0 0 (MQ below (Qi G r z) args s 0 0 (AA G)) (F0 m 23 ls []) := by
  have hx := C.1
  have hb := C.2.1
  unfold bX6_highest_23 at h
  refine lv_iload hx hb dX6_highest_23 (lv_at hl 5 rfl) ?_
  refine lv_bipush (v := 8) hx hb dX6_highest_25 (by decide) ?_
  refine lv_icmp_ge (tgt := 60) hx hb dX6_highest_27 (by decide) (fun c27 => ?_) (fun c27 => ?_)
  · have h := ite_t c27 h
    exact kbX6_highest_60 C hlk hr k4 hk4 a0 l1 l2 l3 h hW (lv_sub hl [0, 1, 2, 3] rfl)
  · have h := ite_f c27 h
    refine lv_aload_n hx hb dX6_highest_30 rfl (lv_at hl 0 rfl) ?_
    refine lv_iload hx hb dX6_highest_31 (lv_at hl 4 rfl) ?_
    obtain ⟨x33, hq, h⟩ := ob h
    refine wz_rI (c' := 0) (s' := 0) hW (wz_runV (rest := []) C hW lVX6_128 (ck hq).1 rfl (ctX6_isThere l G a0 l4 z hq) ⟨⟨rfl, rfl⟩, Nat.le_of_ble_eq_true rfl, Nat.le_of_ble_eq_true rfl⟩ rfl hl.1 rfl (Nat.le_of_ble_eq_true rfl) dX6_highest_33 ⟨Nat.le_of_ble_eq_true rfl, Nat.le_of_ble_eq_true rfl⟩) rfl rfl (fun H locs hW => ?_)
    refine lv_if_eq (tgt := 60) hx hb dX6_highest_36 (by decide) (fun c36 => ?_) (fun c36 => ?_)
    · have h := ite_t c36 h
      exact kbX6_highest_60 C hlk hr k4 hk4 a0 l1 l2 l3 h hW (lv_sub hl [0, 1, 2, 3] rfl)
    · have h := ite_f c36 h
      obtain ⟨v39, ev39⟩ : ∃ y : Int32, y = (l3 + (1 : Int32)) := ⟨_, rfl⟩
      have h := nm_to h ev39
      refine lv_iinc (v := v39) (lv' := [(3, .int v39), (0, .ref (gB G + a0)), (1, .int l1), (2, .int l2), (4, .int l4), (5, .int l5)]) hx hb dX6_highest_39 hl (k := 3) rfl (by rw [ev39]; rfl) (by decide) rfl (fun ls hl => ?_)
      refine lv_aload_n hx hb dX6_highest_42 rfl (lv_at hl 1 rfl) ?_
      obtain ⟨b43, hg, h⟩ := ob h
      refine wz_gN C hW flX6_9 hg dX6_highest_43 ?_
      obtain ⟨b46, hg, h⟩ := ob h
      refine wz_gN C hW flX6_182 hg dX6_highest_46 ?_
      refine lv_iload hx hb dX6_highest_49 (lv_at hl 4 rfl) ?_
      obtain ⟨x51, hg, h⟩ := ob h
      refine wz_ald C hW hg dX6_highest_51 ?_
      refine lv_istore (lv' := [(4, .int x51), (3, .int v39), (0, .ref (gB G + a0)), (1, .int l1), (2, .int l2), (5, .int l5)]) hx hb dX6_highest_52 hl (by decide) rfl (fun ls hl => ?_)
      obtain ⟨v54, ev54⟩ : ∃ y : Int32, y = (l5 + (1 : Int32)) := ⟨_, rfl⟩
      have h := nm_to h ev54
      refine lv_iinc (v := v54) (lv' := [(5, .int v54), (4, .int x51), (3, .int v39), (0, .ref (gB G + a0)), (1, .int l1), (2, .int l2)]) hx hb dX6_highest_54 hl (k := 5) rfl (by rw [ev54]; rfl) (by decide) rfl (fun ls hl => ?_)
      refine lv_goto (tgt := 23) hx hb dX6_highest_57 (by decide) ?_
      exact hk23 a0 l1 l2 v39 x51 v54 _ _ _ h hW (lv_sub hl [3, 4, 5, 2, 1, 0] rfl)
def fX6_highest_23 (k4 : Nat → Int32 → Int32 → Option (Int32)) (z : AH) : Nat → Nat → Int32 → Int32 → Int32 → Int32 → Int32 → Option (Int32)
  | 0, _, _, _, _, _, _ => none
  | n + 1, a0, l1, l2, l3, l4, l5 => bX6_highest_23 k4 (fX6_highest_23 k4 z n) a0 l1 l2 l3 l4 l5 z
theorem klX6_highest_23 {p : Program} {l : Launch} {e : Env} {s : State} {m : MethodId} {args : Array Value} {below : List Frame} {meth : Method} {c : Code} {G : GW} {r : Int32} (C : Cx p m c cX6_highest 6 s args RX6 G) (hlk : meth.locks = false) (hr : meth.sig.returnType = (some .int)) {z : AH} (k4 : Nat → Int32 → Int32 → Option (Int32)) (hk4 : ∀ (a0 : Nat) (l1 : Int32) (l2 : Int32) (H : Heap) (locs : List Loc) (ls : Array Slot), k4 a0 l1 l2 = some r → Wb G z s H locs → lv_has ls 6 [(0, .ref (gB G + a0)), (1, .int l1), (2, .int l2)] → W p l e rmX6_highest s m args below meth c H locs 0 0 (MQ below (Qi G r z) args s 0 0 (AA G)) (F0 m 4 ls [])) : ∀ (n : Nat) (a0 : Nat) (l1 : Int32) (l2 : Int32) (l3 : Int32) (l4 : Int32) (l5 : Int32) (H : Heap) (locs : List Loc) (ls : Array Slot), fX6_highest_23 k4 z n a0 l1 l2 l3 l4 l5 = some r → Wb G z s H locs → lv_has ls 6 [(0, .ref (gB G + a0)), (1, .int l1), (2, .int l2), (3, .int l3), (4, .int l4), (5, .int l5)] → W p l e rmX6_highest s m args below meth c H locs 0 0 (MQ below (Qi G r z) args s 0 0 (AA G)) (F0 m 23 ls []) := by
  intro n
  induction n with
  | zero => intro a0 l1 l2 l3 l4 l5 H locs ls h; have h : (none : Option (Int32)) = some r := h; cases h
  | succ n ih => intro a0 l1 l2 l3 l4 l5 H locs ls h hW hl; exact kbX6_highest_23 C hlk hr k4 (fX6_highest_23 k4 z n) hk4 (fun a0 l1 l2 l3 l4 l5 H locs ls h hW hl => ih a0 l1 l2 l3 l4 l5 H locs ls h hW hl) a0 l1 l2 l3 l4 l5 h hW hl
def bX6_highest_4 (k4 : Nat → Int32 → Int32 → Option (Int32)) (a0 : Nat) (l1 : Int32) (l2 : Int32) (z : AH) : Option (Int32) :=
  (gN 5 0 z a0).bind fun b6 =>
  (gI 0 0 z b6).bind fun x9 =>
  if x9 ≤ l2 then (
    some l1
  ) else (
    fX6_highest_23 k4 z FU a0 l1 l2 (0 : Int32) l2 (0 : Int32)
  )
set_option maxHeartbeats 4000000 in
set_option maxRecDepth 100000 in
theorem kbX6_highest_4 {p : Program} {l : Launch} {e : Env} {s : State} {m : MethodId} {args : Array Value} {below : List Frame} {meth : Method} {c : Code} {G : GW} {r : Int32} (C : Cx p m c cX6_highest 6 s args RX6 G) (hlk : meth.locks = false) (hr : meth.sig.returnType = (some .int)) {z : AH} (k4 : Nat → Int32 → Int32 → Option (Int32)) (hk4 : ∀ (a0 : Nat) (l1 : Int32) (l2 : Int32) (H : Heap) (locs : List Loc) (ls : Array Slot), k4 a0 l1 l2 = some r → Wb G z s H locs → lv_has ls 6 [(0, .ref (gB G + a0)), (1, .int l1), (2, .int l2)] → W p l e rmX6_highest s m args below meth c H locs 0 0 (MQ below (Qi G r z) args s 0 0 (AA G)) (F0 m 4 ls [])) (a0 : Nat) (l1 : Int32) (l2 : Int32) {H : Heap} {locs : List Loc} {ls : Array Slot} (h : bX6_highest_4 k4 a0 l1 l2 z = some r) (hW : Wb G z s H locs) (hl : lv_has ls 6 [(0, .ref (gB G + a0)), (1, .int l1), (2, .int l2)]) : W p l e rmX6_highest s m args below meth c H locs 0 0 (MQ below (Qi G r z) args s 0 0 (AA G)) (F0 m 4 ls []) := by
  have hx := C.1
  have hb := C.2.1
  unfold bX6_highest_4 at h
  refine lv_iload_n hx hb dX6_highest_4 rfl (lv_at hl 2 rfl) ?_
  refine lv_aload_n hx hb dX6_highest_5 rfl (lv_at hl 0 rfl) ?_
  obtain ⟨b6, hg, h⟩ := ob h
  refine wz_gN C hW flX6_9 hg dX6_highest_6 ?_
  obtain ⟨x9, hg, h⟩ := ob h
  refine wz_gI C hW flX6_81 hg dX6_highest_9 ?_
  refine lv_icmp_ge (tgt := 72) hx hb dX6_highest_12 (by decide) (fun c12 => ?_) (fun c12 => ?_)
  · have h := ite_t c12 h
    refine lv_iload_n hx hb dX6_highest_72 rfl (lv_at hl 1 rfl) ?_
    exact wz_iretE C hlk hr (Option.some.inj h) rfl hW dX6_highest_73
  · have h := ite_f c12 h
    refine lv_iconst (v := 0) hx hb dX6_highest_15 (by decide) ?_
    refine lv_istore_n (lv' := [(3, .int (0 : Int32)), (0, .ref (gB G + a0)), (1, .int l1), (2, .int l2)]) hx hb dX6_highest_16 rfl hl (by decide) rfl (fun ls hl => ?_)
    refine lv_iload_n hx hb dX6_highest_17 rfl (lv_at hl 3 rfl) ?_
    refine lv_istore (lv' := [(4, .int l2), (3, .int (0 : Int32)), (0, .ref (gB G + a0)), (1, .int l1), (2, .int l2)]) hx hb dX6_highest_18 hl (by decide) rfl (fun ls hl => ?_)
    refine lv_iconst (v := 0) hx hb dX6_highest_20 (by decide) ?_
    refine lv_istore (lv' := [(5, .int (0 : Int32)), (4, .int l2), (3, .int (0 : Int32)), (0, .ref (gB G + a0)), (1, .int l1), (2, .int l2)]) hx hb dX6_highest_21 hl (by decide) rfl (fun ls hl => ?_)
    exact klX6_highest_23 C hlk hr k4 hk4 FU a0 l1 l2 (0 : Int32) l2 (0 : Int32) _ _ _ h hW (lv_sub hl [3, 4, 5, 2, 1, 0] rfl)
def fX6_highest_4 (z : AH) : Nat → Nat → Int32 → Int32 → Option (Int32)
  | 0, _, _, _ => none
  | n + 1, a0, l1, l2 => bX6_highest_4 (fX6_highest_4 z n) a0 l1 l2 z
theorem klX6_highest_4 {p : Program} {l : Launch} {e : Env} {s : State} {m : MethodId} {args : Array Value} {below : List Frame} {meth : Method} {c : Code} {G : GW} {r : Int32} (C : Cx p m c cX6_highest 6 s args RX6 G) (hlk : meth.locks = false) (hr : meth.sig.returnType = (some .int)) {z : AH} : ∀ (n : Nat) (a0 : Nat) (l1 : Int32) (l2 : Int32) (H : Heap) (locs : List Loc) (ls : Array Slot), fX6_highest_4 z n a0 l1 l2 = some r → Wb G z s H locs → lv_has ls 6 [(0, .ref (gB G + a0)), (1, .int l1), (2, .int l2)] → W p l e rmX6_highest s m args below meth c H locs 0 0 (MQ below (Qi G r z) args s 0 0 (AA G)) (F0 m 4 ls []) := by
  intro n
  induction n with
  | zero => intro a0 l1 l2 H locs ls h; have h : (none : Option (Int32)) = some r := h; cases h
  | succ n ih => intro a0 l1 l2 H locs ls h hW hl; exact kbX6_highest_4 C hlk hr (fX6_highest_4 z n) (fun a0 l1 l2 H locs ls h hW hl => ih a0 l1 l2 H locs ls h hW hl) a0 l1 l2 h hW hl
def fX6_highest (a0 : Nat) (z : AH) : Option (Int32) :=
  if isO 5 z a0 = true then
    fX6_highest_4 z FU a0 (0 : Int32) (0 : Int32)
  else none
set_option maxHeartbeats 4000000 in
set_option maxRecDepth 100000 in
theorem ctX6_highest (l : Launch) (G : GW) (a0 : Nat) (z : AH) {r : Int32} (h : fX6_highest a0 z = some r) : Met l yX6_highest (wy yX6_highest cX6_highest 6 (some .int)) rmX6_highest (Pz G [.ref (gB G + a0)] z) (Qi G r z) 0 0 (AA G) := by
  refine wz_ent (own := RX6) (by decide +kernel) rfl (fun p e s m below meth c ls C hlk hr hin hW hl => ?_) (Nat.le_of_ble_eq_true rfl)
  have hl : lv_has ls 6 [(0, .ref (gB G + a0))] := hl
  have hx := C.1
  have hb := C.2.1
  unfold fX6_highest at h
  obtain ⟨-, h⟩ := ck h
  refine lv_iconst (v := 0) hx hb dX6_highest_0 (by decide) ?_
  refine lv_istore_n (lv' := [(1, .int (0 : Int32)), (0, .ref (gB G + a0))]) hx hb dX6_highest_1 rfl hl (by decide) rfl (fun ls hl => ?_)
  refine lv_iconst (v := 0) hx hb dX6_highest_2 (by decide) ?_
  refine lv_istore_n (lv' := [(2, .int (0 : Int32)), (1, .int (0 : Int32)), (0, .ref (gB G + a0))]) hx hb dX6_highest_3 rfl hl (by decide) rfl (fun ls hl => ?_)
  exact klX6_highest_4 C hlk hr FU a0 (0 : Int32) (0 : Int32) _ _ _ h hW (lv_sub hl [2, 1, 0] rfl)
theorem dX6_partOf_0 : decode cX6_partOf 0 = .ok (.iconst 1, 1) := by decide +kernel
theorem dX6_partOf_1 : decode cX6_partOf 1 = .ok (.iload_n 1, 1) := by decide +kernel
theorem dX6_partOf_2 : decode cX6_partOf 2 = .ok (.ishl, 1) := by decide +kernel
theorem dX6_partOf_3 : decode cX6_partOf 3 = .ok (.aload_n 0, 1) := by decide +kernel
theorem dX6_partOf_4 : decode cX6_partOf 4 = .ok (.invokevirtual 162, 3) := by decide +kernel
theorem dX6_partOf_7 : decode cX6_partOf 7 = .ok (.iand, 1) := by decide +kernel
theorem dX6_partOf_8 : decode cX6_partOf 8 = .ok (.istore_n 2, 1) := by decide +kernel
theorem dX6_partOf_9 : decode cX6_partOf 9 = .ok (.iconst 0, 1) := by decide +kernel
theorem dX6_partOf_10 : decode cX6_partOf 10 = .ok (.istore_n 3, 1) := by decide +kernel
theorem dX6_partOf_11 : decode cX6_partOf 11 = .ok (.iload_n 3, 1) := by decide +kernel
theorem dX6_partOf_12 : decode cX6_partOf 12 = .ok (.bipush 8, 2) := by decide +kernel
theorem dX6_partOf_14 : decode cX6_partOf 14 = .ok (.if_icmp .ge 20, 3) := by decide +kernel
theorem dX6_partOf_17 : decode cX6_partOf 17 = .ok (.aload_n 0, 1) := by decide +kernel
theorem dX6_partOf_18 : decode cX6_partOf 18 = .ok (.iload_n 2, 1) := by decide +kernel
theorem dX6_partOf_19 : decode cX6_partOf 19 = .ok (.invokevirtual 166, 3) := by decide +kernel
theorem dX6_partOf_22 : decode cX6_partOf 22 = .ok (.aload_n 0, 1) := by decide +kernel
theorem dX6_partOf_23 : decode cX6_partOf 23 = .ok (.invokevirtual 162, 3) := by decide +kernel
theorem dX6_partOf_26 : decode cX6_partOf 26 = .ok (.iand, 1) := by decide +kernel
theorem dX6_partOf_27 : decode cX6_partOf 27 = .ok (.istore_n 2, 1) := by decide +kernel
theorem dX6_partOf_28 : decode cX6_partOf 28 = .ok (.iinc 3 1, 3) := by decide +kernel
theorem dX6_partOf_31 : decode cX6_partOf 31 = .ok (.goto (-20), 3) := by decide +kernel
theorem dX6_partOf_34 : decode cX6_partOf 34 = .ok (.iload_n 2, 1) := by decide +kernel
theorem dX6_partOf_35 : decode cX6_partOf 35 = .ok (.ireturn, 1) := by decide +kernel
abbrev rmX6_partOf : Room := { frames := 2, cells := 0, slots := 0, locals := 44 }
def bX6_partOf_11 (k11 : Nat → Int32 → Int32 → Option (Int32)) (a0 : Nat) (l2 : Int32) (l3 : Int32) (z : AH) : Option (Int32) :=
  if (8 : Int32) ≤ l3 then (
    some l2
  ) else (
    (fX6_spread a0 l2 z).bind fun x19 =>
    (fX6_there a0 z).bind fun x23 =>
    nm (x19 &&& x23) fun v27 =>
    nm (l3 + (1 : Int32)) fun v28 =>
    k11 a0 v27 v28
  )
set_option maxHeartbeats 4000000 in
set_option maxRecDepth 100000 in
theorem kbX6_partOf_11 {p : Program} {l : Launch} {e : Env} {s : State} {m : MethodId} {args : Array Value} {below : List Frame} {meth : Method} {c : Code} {G : GW} {r : Int32} (C : Cx p m c cX6_partOf 4 s args RX6 G) (hlk : meth.locks = false) (hr : meth.sig.returnType = (some .int)) {z : AH} (k11 : Nat → Int32 → Int32 → Option (Int32)) (hk11 : ∀ (a0 : Nat) (l2 : Int32) (l3 : Int32) (H : Heap) (locs : List Loc) (ls : Array Slot), k11 a0 l2 l3 = some r → Wb G z s H locs → lv_has ls 4 [(0, .ref (gB G + a0)), (2, .int l2), (3, .int l3)] → W p l e rmX6_partOf s m args below meth c H locs 0 0 (MQ below (Qi G r z) args s 0 0 (AA G)) (F0 m 11 ls [])) (a0 : Nat) (l2 : Int32) (l3 : Int32) {H : Heap} {locs : List Loc} {ls : Array Slot} (h : bX6_partOf_11 k11 a0 l2 l3 z = some r) (hW : Wb G z s H locs) (hl : lv_has ls 4 [(0, .ref (gB G + a0)), (2, .int l2), (3, .int l3)]) : W p l e rmX6_partOf s m args below meth c H locs 0 0 (MQ below (Qi G r z) args s 0 0 (AA G)) (F0 m 11 ls []) := by
  have hx := C.1
  have hb := C.2.1
  unfold bX6_partOf_11 at h
  refine lv_iload_n hx hb dX6_partOf_11 rfl (lv_at hl 2 rfl) ?_
  refine lv_bipush (v := 8) hx hb dX6_partOf_12 (by decide) ?_
  refine lv_icmp_ge (tgt := 34) hx hb dX6_partOf_14 (by decide) (fun c14 => ?_) (fun c14 => ?_)
  · have h := ite_t c14 h
    refine lv_iload_n hx hb dX6_partOf_34 rfl (lv_at hl 1 rfl) ?_
    exact wz_iretE C hlk hr (Option.some.inj h) rfl hW dX6_partOf_35
  · have h := ite_f c14 h
    refine lv_aload_n hx hb dX6_partOf_17 rfl (lv_at hl 0 rfl) ?_
    refine lv_iload_n hx hb dX6_partOf_18 rfl (lv_at hl 1 rfl) ?_
    obtain ⟨x19, hq, h⟩ := ob h
    refine wz_rI (c' := 0) (s' := 0) hW (wz_runV (rest := []) C hW lVX6_166 (ck hq).1 rfl (ctX6_spread l G a0 l2 z hq) ⟨⟨rfl, rfl⟩, Nat.le_of_ble_eq_true rfl, Nat.le_of_ble_eq_true rfl⟩ rfl hl.1 rfl (Nat.le_of_ble_eq_true rfl) dX6_partOf_19 ⟨Nat.le_of_ble_eq_true rfl, Nat.le_of_ble_eq_true rfl⟩) rfl rfl (fun H locs hW => ?_)
    refine lv_aload_n hx hb dX6_partOf_22 rfl (lv_at hl 0 rfl) ?_
    obtain ⟨x23, hq, h⟩ := ob h
    refine wz_rI (c' := 0) (s' := 0) hW (wz_runV (rest := [.int x19]) C hW lVX6_162 (ck hq).1 rfl (ctX6_there l G a0 z hq) ⟨⟨rfl, rfl⟩, Nat.le_of_ble_eq_true rfl, Nat.le_of_ble_eq_true rfl⟩ rfl hl.1 rfl (Nat.le_of_ble_eq_true rfl) dX6_partOf_23 ⟨Nat.le_of_ble_eq_true rfl, Nat.le_of_ble_eq_true rfl⟩) rfl rfl (fun H locs hW => ?_)
    refine lv_iand hx hb dX6_partOf_26 ?_
    refine lv_topi (fun v27 ev27 => ?_)
    have h := nm_to h ev27
    refine lv_istore_n (lv' := [(2, .int v27), (0, .ref (gB G + a0)), (3, .int l3)]) hx hb dX6_partOf_27 rfl hl (by decide) rfl (fun ls hl => ?_)
    obtain ⟨v28, ev28⟩ : ∃ y : Int32, y = (l3 + (1 : Int32)) := ⟨_, rfl⟩
    have h := nm_to h ev28
    refine lv_iinc (v := v28) (lv' := [(3, .int v28), (2, .int v27), (0, .ref (gB G + a0))]) hx hb dX6_partOf_28 hl (k := 2) rfl (by rw [ev28]; rfl) (by decide) rfl (fun ls hl => ?_)
    refine lv_goto (tgt := 11) hx hb dX6_partOf_31 (by decide) ?_
    exact hk11 a0 v27 v28 _ _ _ h hW (lv_sub hl [2, 1, 0] rfl)
def fX6_partOf_11 (z : AH) : Nat → Nat → Int32 → Int32 → Option (Int32)
  | 0, _, _, _ => none
  | n + 1, a0, l2, l3 => bX6_partOf_11 (fX6_partOf_11 z n) a0 l2 l3 z
theorem klX6_partOf_11 {p : Program} {l : Launch} {e : Env} {s : State} {m : MethodId} {args : Array Value} {below : List Frame} {meth : Method} {c : Code} {G : GW} {r : Int32} (C : Cx p m c cX6_partOf 4 s args RX6 G) (hlk : meth.locks = false) (hr : meth.sig.returnType = (some .int)) {z : AH} : ∀ (n : Nat) (a0 : Nat) (l2 : Int32) (l3 : Int32) (H : Heap) (locs : List Loc) (ls : Array Slot), fX6_partOf_11 z n a0 l2 l3 = some r → Wb G z s H locs → lv_has ls 4 [(0, .ref (gB G + a0)), (2, .int l2), (3, .int l3)] → W p l e rmX6_partOf s m args below meth c H locs 0 0 (MQ below (Qi G r z) args s 0 0 (AA G)) (F0 m 11 ls []) := by
  intro n
  induction n with
  | zero => intro a0 l2 l3 H locs ls h; have h : (none : Option (Int32)) = some r := h; cases h
  | succ n ih => intro a0 l2 l3 H locs ls h hW hl; exact kbX6_partOf_11 C hlk hr (fX6_partOf_11 z n) (fun a0 l2 l3 H locs ls h hW hl => ih a0 l2 l3 H locs ls h hW hl) a0 l2 l3 h hW hl
def fX6_partOf (a0 : Nat) (l1 : Int32) (z : AH) : Option (Int32) :=
  if isO 5 z a0 = true then
    (fX6_there a0 z).bind fun x4 =>
    nm ((shl (1 : Int32) l1) &&& x4) fun v8 =>
    fX6_partOf_11 z FU a0 v8 (0 : Int32)
  else none
set_option maxHeartbeats 4000000 in
set_option maxRecDepth 100000 in
theorem ctX6_partOf (l : Launch) (G : GW) (a0 : Nat) (l1 : Int32) (z : AH) {r : Int32} (h : fX6_partOf a0 l1 z = some r) : Met l yX6_partOf (wy yX6_partOf cX6_partOf 4 (some .int)) rmX6_partOf (Pz G [.ref (gB G + a0), .int l1] z) (Qi G r z) 0 0 (AA G) := by
  refine wz_ent (own := RX6) (by decide +kernel) rfl (fun p e s m below meth c ls C hlk hr hin hW hl => ?_) (Nat.le_of_ble_eq_true rfl)
  have hl : lv_has ls 4 [(0, .ref (gB G + a0)), (1, .int l1)] := hl
  have hx := C.1
  have hb := C.2.1
  unfold fX6_partOf at h
  obtain ⟨-, h⟩ := ck h
  refine lv_iconst (v := 1) hx hb dX6_partOf_0 (by decide) ?_
  refine lv_iload_n hx hb dX6_partOf_1 rfl (lv_at hl 1 rfl) ?_
  refine wz_shl hx hb dX6_partOf_2 ?_
  refine lv_aload_n hx hb dX6_partOf_3 rfl (lv_at hl 0 rfl) ?_
  obtain ⟨x4, hq, h⟩ := ob h
  refine wz_rI (c' := 0) (s' := 0) hW (wz_runV (rest := [.int (shl (1 : Int32) l1)]) C hW lVX6_162 (ck hq).1 rfl (ctX6_there l G a0 z hq) ⟨⟨rfl, rfl⟩, Nat.le_of_ble_eq_true rfl, Nat.le_of_ble_eq_true rfl⟩ rfl hl.1 rfl (Nat.le_of_ble_eq_true rfl) dX6_partOf_4 ⟨Nat.le_of_ble_eq_true rfl, Nat.le_of_ble_eq_true rfl⟩) rfl rfl (fun H locs hW => ?_)
  refine lv_iand hx hb dX6_partOf_7 ?_
  refine lv_topi (fun v8 ev8 => ?_)
  have h := nm_to h ev8
  refine lv_istore_n (lv' := [(2, .int v8), (0, .ref (gB G + a0)), (1, .int l1)]) hx hb dX6_partOf_8 rfl hl (by decide) rfl (fun ls hl => ?_)
  refine lv_iconst (v := 0) hx hb dX6_partOf_9 (by decide) ?_
  refine lv_istore_n (lv' := [(3, .int (0 : Int32)), (2, .int v8), (0, .ref (gB G + a0)), (1, .int l1)]) hx hb dX6_partOf_10 rfl hl (by decide) rfl (fun ls hl => ?_)
  exact klX6_partOf_11 C hlk hr FU a0 v8 (0 : Int32) _ _ _ h hW (lv_sub hl [2, 1, 0] rfl)
theorem lVX6_185 : LV RX6 185 yX6_partOf cX6_partOf 4 (some .int) 1 := ⟨tw 1128 (by decide +kernel) rfl, tw 1130 (by decide +kernel) rfl, tw 34 (by decide +kernel) rfl, tw 124 (by decide +kernel) rfl, tw 1131 (by decide +kernel) rfl, ⟨by decide +kernel, by decide +kernel, by decide +kernel⟩⟩
theorem dX6_countParts_0 : decode cX6_countParts 0 = .ok (.iconst 0, 1) := by decide +kernel
theorem dX6_countParts_1 : decode cX6_countParts 1 = .ok (.istore_n 1, 1) := by decide +kernel
theorem dX6_countParts_2 : decode cX6_countParts 2 = .ok (.iconst 0, 1) := by decide +kernel
theorem dX6_countParts_3 : decode cX6_countParts 3 = .ok (.istore_n 2, 1) := by decide +kernel
theorem dX6_countParts_4 : decode cX6_countParts 4 = .ok (.iconst 0, 1) := by decide +kernel
theorem dX6_countParts_5 : decode cX6_countParts 5 = .ok (.istore_n 3, 1) := by decide +kernel
theorem dX6_countParts_6 : decode cX6_countParts 6 = .ok (.iload_n 3, 1) := by decide +kernel
theorem dX6_countParts_7 : decode cX6_countParts 7 = .ok (.aload_n 0, 1) := by decide +kernel
theorem dX6_countParts_8 : decode cX6_countParts 8 = .ok (.getfield 9, 3) := by decide +kernel
theorem dX6_countParts_11 : decode cX6_countParts 11 = .ok (.getfield 81, 3) := by decide +kernel
theorem dX6_countParts_14 : decode cX6_countParts 14 = .ok (.if_icmp .ge 36, 3) := by decide +kernel
theorem dX6_countParts_17 : decode cX6_countParts 17 = .ok (.aload_n 0, 1) := by decide +kernel
theorem dX6_countParts_18 : decode cX6_countParts 18 = .ok (.iload_n 3, 1) := by decide +kernel
theorem dX6_countParts_19 : decode cX6_countParts 19 = .ok (.invokevirtual 128, 3) := by decide +kernel
theorem dX6_countParts_22 : decode cX6_countParts 22 = .ok (.ifCond .eq 22, 3) := by decide +kernel
theorem dX6_countParts_25 : decode cX6_countParts 25 = .ok (.iload_n 2, 1) := by decide +kernel
theorem dX6_countParts_26 : decode cX6_countParts 26 = .ok (.iload_n 3, 1) := by decide +kernel
theorem dX6_countParts_27 : decode cX6_countParts 27 = .ok (.invokestatic 77, 3) := by decide +kernel
theorem dX6_countParts_30 : decode cX6_countParts 30 = .ok (.ifCond .ne 14, 3) := by decide +kernel
theorem dX6_countParts_33 : decode cX6_countParts 33 = .ok (.iload_n 2, 1) := by decide +kernel
theorem dX6_countParts_34 : decode cX6_countParts 34 = .ok (.aload_n 0, 1) := by decide +kernel
theorem dX6_countParts_35 : decode cX6_countParts 35 = .ok (.iload_n 3, 1) := by decide +kernel
theorem dX6_countParts_36 : decode cX6_countParts 36 = .ok (.invokevirtual 185, 3) := by decide +kernel
theorem dX6_countParts_39 : decode cX6_countParts 39 = .ok (.ior, 1) := by decide +kernel
theorem dX6_countParts_40 : decode cX6_countParts 40 = .ok (.istore_n 2, 1) := by decide +kernel
theorem dX6_countParts_41 : decode cX6_countParts 41 = .ok (.iinc 1 1, 3) := by decide +kernel
theorem dX6_countParts_44 : decode cX6_countParts 44 = .ok (.iinc 3 1, 3) := by decide +kernel
theorem dX6_countParts_47 : decode cX6_countParts 47 = .ok (.goto (-41), 3) := by decide +kernel
theorem dX6_countParts_50 : decode cX6_countParts 50 = .ok (.iload_n 1, 1) := by decide +kernel
theorem dX6_countParts_51 : decode cX6_countParts 51 = .ok (.ireturn, 1) := by decide +kernel
abbrev rmX6_countParts : Room := { frames := 3, cells := 0, slots := 0, locals := 67 }
def bX6_countParts_6 (k6 : Nat → Int32 → Int32 → Int32 → Option (Int32)) (a0 : Nat) (l1 : Int32) (l2 : Int32) (l3 : Int32) (z : AH) : Option (Int32) :=
  (gN 5 0 z a0).bind fun b8 =>
  (gI 0 0 z b8).bind fun x11 =>
  if x11 ≤ l3 then (
    some l1
  ) else (
    (fX6_isThere a0 l3 z).bind fun x19 =>
    if x19 = (0 : Int32) then (
      nm (l3 + (1 : Int32)) fun v44 =>
      k6 a0 l1 l2 v44
    ) else (
      if (fX9_hasBit l2 l3) = (0 : Int32) then (
        (fX6_partOf a0 l3 z).bind fun x36 =>
        nm (l2 ||| x36) fun v40 =>
        nm (l1 + (1 : Int32)) fun v41 =>
        nm (l3 + (1 : Int32)) fun v44 =>
        k6 a0 v41 v40 v44
      ) else (
        nm (l3 + (1 : Int32)) fun v44 =>
        k6 a0 l1 l2 v44
      )
    )
  )
set_option maxHeartbeats 4000000 in
set_option maxRecDepth 100000 in
theorem kbX6_countParts_6 {p : Program} {l : Launch} {e : Env} {s : State} {m : MethodId} {args : Array Value} {below : List Frame} {meth : Method} {c : Code} {G : GW} {r : Int32} (C : Cx p m c cX6_countParts 4 s args RX6 G) (hlk : meth.locks = false) (hr : meth.sig.returnType = (some .int)) {z : AH} (k6 : Nat → Int32 → Int32 → Int32 → Option (Int32)) (hk6 : ∀ (a0 : Nat) (l1 : Int32) (l2 : Int32) (l3 : Int32) (H : Heap) (locs : List Loc) (ls : Array Slot), k6 a0 l1 l2 l3 = some r → Wb G z s H locs → lv_has ls 4 [(0, .ref (gB G + a0)), (1, .int l1), (2, .int l2), (3, .int l3)] → W p l e rmX6_countParts s m args below meth c H locs 0 0 (MQ below (Qi G r z) args s 0 0 (AA G)) (F0 m 6 ls [])) (a0 : Nat) (l1 : Int32) (l2 : Int32) (l3 : Int32) {H : Heap} {locs : List Loc} {ls : Array Slot} (h : bX6_countParts_6 k6 a0 l1 l2 l3 z = some r) (hW : Wb G z s H locs) (hl : lv_has ls 4 [(0, .ref (gB G + a0)), (1, .int l1), (2, .int l2), (3, .int l3)]) : W p l e rmX6_countParts s m args below meth c H locs 0 0 (MQ below (Qi G r z) args s 0 0 (AA G)) (F0 m 6 ls []) := by
  have hx := C.1
  have hb := C.2.1
  unfold bX6_countParts_6 at h
  refine lv_iload_n hx hb dX6_countParts_6 rfl (lv_at hl 3 rfl) ?_
  refine lv_aload_n hx hb dX6_countParts_7 rfl (lv_at hl 0 rfl) ?_
  obtain ⟨b8, hg, h⟩ := ob h
  refine wz_gN C hW flX6_9 hg dX6_countParts_8 ?_
  obtain ⟨x11, hg, h⟩ := ob h
  refine wz_gI C hW flX6_81 hg dX6_countParts_11 ?_
  refine lv_icmp_ge (tgt := 50) hx hb dX6_countParts_14 (by decide) (fun c14 => ?_) (fun c14 => ?_)
  · have h := ite_t c14 h
    refine lv_iload_n hx hb dX6_countParts_50 rfl (lv_at hl 1 rfl) ?_
    exact wz_iretE C hlk hr (Option.some.inj h) rfl hW dX6_countParts_51
  · have h := ite_f c14 h
    refine lv_aload_n hx hb dX6_countParts_17 rfl (lv_at hl 0 rfl) ?_
    refine lv_iload_n hx hb dX6_countParts_18 rfl (lv_at hl 3 rfl) ?_
    obtain ⟨x19, hq, h⟩ := ob h
    refine wz_rI (c' := 0) (s' := 0) hW (wz_runV (rest := []) C hW lVX6_128 (ck hq).1 rfl (ctX6_isThere l G a0 l3 z hq) ⟨⟨rfl, rfl⟩, Nat.le_of_ble_eq_true rfl, Nat.le_of_ble_eq_true rfl⟩ rfl hl.1 rfl (Nat.le_of_ble_eq_true rfl) dX6_countParts_19 ⟨Nat.le_of_ble_eq_true rfl, Nat.le_of_ble_eq_true rfl⟩) rfl rfl (fun H locs hW => ?_)
    refine lv_if_eq (tgt := 44) hx hb dX6_countParts_22 (by decide) (fun c22 => ?_) (fun c22 => ?_)
    · have h := ite_t c22 h
      obtain ⟨v44, ev44⟩ : ∃ y : Int32, y = (l3 + (1 : Int32)) := ⟨_, rfl⟩
      have h := nm_to h ev44
      refine lv_iinc (v := v44) (lv' := [(3, .int v44), (0, .ref (gB G + a0)), (1, .int l1), (2, .int l2)]) hx hb dX6_countParts_44 hl (k := 3) rfl (by rw [ev44]; rfl) (by decide) rfl (fun ls hl => ?_)
      refine lv_goto (tgt := 6) hx hb dX6_countParts_47 (by decide) ?_
      exact hk6 a0 l1 l2 v44 _ _ _ h hW (lv_sub hl [1, 2, 3, 0] rfl)
    · have h := ite_f c22 h
      refine lv_iload_n hx hb dX6_countParts_25 rfl (lv_at hl 2 rfl) ?_
      refine lv_iload_n hx hb dX6_countParts_26 rfl (lv_at hl 3 rfl) ?_
      refine wz_rI (c' := 0) (s' := 0) hW (wz_runN (rest := []) C hW lNX6_77 (ctX9_hasBit l G l2 l3 z rfl) ⟨⟨rfl, rfl⟩, Nat.le_of_ble_eq_true rfl, Nat.le_of_ble_eq_true rfl⟩ rfl hl.1 rfl (Nat.le_of_ble_eq_true rfl) dX6_countParts_27 ⟨Nat.le_of_ble_eq_true rfl, Nat.le_of_ble_eq_true rfl⟩) rfl rfl (fun H locs hW => ?_)
      refine lv_if_ne (tgt := 44) hx hb dX6_countParts_30 (by decide) (fun c30 => ?_) (fun c30 => ?_)
      · have h := ite_f c30 h
        obtain ⟨v44, ev44⟩ : ∃ y : Int32, y = (l3 + (1 : Int32)) := ⟨_, rfl⟩
        have h := nm_to h ev44
        refine lv_iinc (v := v44) (lv' := [(3, .int v44), (0, .ref (gB G + a0)), (1, .int l1), (2, .int l2)]) hx hb dX6_countParts_44 hl (k := 3) rfl (by rw [ev44]; rfl) (by decide) rfl (fun ls hl => ?_)
        refine lv_goto (tgt := 6) hx hb dX6_countParts_47 (by decide) ?_
        exact hk6 a0 l1 l2 v44 _ _ _ h hW (lv_sub hl [1, 2, 3, 0] rfl)
      · have h := ite_t c30 h
        refine lv_iload_n hx hb dX6_countParts_33 rfl (lv_at hl 2 rfl) ?_
        refine lv_aload_n hx hb dX6_countParts_34 rfl (lv_at hl 0 rfl) ?_
        refine lv_iload_n hx hb dX6_countParts_35 rfl (lv_at hl 3 rfl) ?_
        obtain ⟨x36, hq, h⟩ := ob h
        refine wz_rI (c' := 0) (s' := 0) hW (wz_runV (rest := [.int l2]) C hW lVX6_185 (ck hq).1 rfl (ctX6_partOf l G a0 l3 z hq) ⟨⟨rfl, rfl⟩, Nat.le_of_ble_eq_true rfl, Nat.le_of_ble_eq_true rfl⟩ rfl hl.1 rfl (Nat.le_of_ble_eq_true rfl) dX6_countParts_36 ⟨Nat.le_of_ble_eq_true rfl, Nat.le_of_ble_eq_true rfl⟩) rfl rfl (fun H locs hW => ?_)
        refine lv_ior hx hb dX6_countParts_39 ?_
        refine lv_topi (fun v40 ev40 => ?_)
        have h := nm_to h ev40
        refine lv_istore_n (lv' := [(2, .int v40), (0, .ref (gB G + a0)), (1, .int l1), (3, .int l3)]) hx hb dX6_countParts_40 rfl hl (by decide) rfl (fun ls hl => ?_)
        obtain ⟨v41, ev41⟩ : ∃ y : Int32, y = (l1 + (1 : Int32)) := ⟨_, rfl⟩
        have h := nm_to h ev41
        refine lv_iinc (v := v41) (lv' := [(1, .int v41), (2, .int v40), (0, .ref (gB G + a0)), (3, .int l3)]) hx hb dX6_countParts_41 hl (k := 2) rfl (by rw [ev41]; rfl) (by decide) rfl (fun ls hl => ?_)
        obtain ⟨v44, ev44⟩ : ∃ y : Int32, y = (l3 + (1 : Int32)) := ⟨_, rfl⟩
        have h := nm_to h ev44
        refine lv_iinc (v := v44) (lv' := [(3, .int v44), (1, .int v41), (2, .int v40), (0, .ref (gB G + a0))]) hx hb dX6_countParts_44 hl (k := 3) rfl (by rw [ev44]; rfl) (by decide) rfl (fun ls hl => ?_)
        refine lv_goto (tgt := 6) hx hb dX6_countParts_47 (by decide) ?_
        exact hk6 a0 v41 v40 v44 _ _ _ h hW (lv_sub hl [3, 1, 2, 0] rfl)
def fX6_countParts_6 (z : AH) : Nat → Nat → Int32 → Int32 → Int32 → Option (Int32)
  | 0, _, _, _, _ => none
  | n + 1, a0, l1, l2, l3 => bX6_countParts_6 (fX6_countParts_6 z n) a0 l1 l2 l3 z
theorem klX6_countParts_6 {p : Program} {l : Launch} {e : Env} {s : State} {m : MethodId} {args : Array Value} {below : List Frame} {meth : Method} {c : Code} {G : GW} {r : Int32} (C : Cx p m c cX6_countParts 4 s args RX6 G) (hlk : meth.locks = false) (hr : meth.sig.returnType = (some .int)) {z : AH} : ∀ (n : Nat) (a0 : Nat) (l1 : Int32) (l2 : Int32) (l3 : Int32) (H : Heap) (locs : List Loc) (ls : Array Slot), fX6_countParts_6 z n a0 l1 l2 l3 = some r → Wb G z s H locs → lv_has ls 4 [(0, .ref (gB G + a0)), (1, .int l1), (2, .int l2), (3, .int l3)] → W p l e rmX6_countParts s m args below meth c H locs 0 0 (MQ below (Qi G r z) args s 0 0 (AA G)) (F0 m 6 ls []) := by
  intro n
  induction n with
  | zero => intro a0 l1 l2 l3 H locs ls h; have h : (none : Option (Int32)) = some r := h; cases h
  | succ n ih => intro a0 l1 l2 l3 H locs ls h hW hl; exact kbX6_countParts_6 C hlk hr (fX6_countParts_6 z n) (fun a0 l1 l2 l3 H locs ls h hW hl => ih a0 l1 l2 l3 H locs ls h hW hl) a0 l1 l2 l3 h hW hl
def fX6_countParts (a0 : Nat) (z : AH) : Option (Int32) :=
  if isO 5 z a0 = true then
    fX6_countParts_6 z FU a0 (0 : Int32) (0 : Int32) (0 : Int32)
  else none
set_option maxHeartbeats 4000000 in
set_option maxRecDepth 100000 in
theorem ctX6_countParts (l : Launch) (G : GW) (a0 : Nat) (z : AH) {r : Int32} (h : fX6_countParts a0 z = some r) : Met l yX6_countParts (wy yX6_countParts cX6_countParts 4 (some .int)) rmX6_countParts (Pz G [.ref (gB G + a0)] z) (Qi G r z) 0 0 (AA G) := by
  refine wz_ent (own := RX6) (by decide +kernel) rfl (fun p e s m below meth c ls C hlk hr hin hW hl => ?_) (Nat.le_of_ble_eq_true rfl)
  have hl : lv_has ls 4 [(0, .ref (gB G + a0))] := hl
  have hx := C.1
  have hb := C.2.1
  unfold fX6_countParts at h
  obtain ⟨-, h⟩ := ck h
  refine lv_iconst (v := 0) hx hb dX6_countParts_0 (by decide) ?_
  refine lv_istore_n (lv' := [(1, .int (0 : Int32)), (0, .ref (gB G + a0))]) hx hb dX6_countParts_1 rfl hl (by decide) rfl (fun ls hl => ?_)
  refine lv_iconst (v := 0) hx hb dX6_countParts_2 (by decide) ?_
  refine lv_istore_n (lv' := [(2, .int (0 : Int32)), (1, .int (0 : Int32)), (0, .ref (gB G + a0))]) hx hb dX6_countParts_3 rfl hl (by decide) rfl (fun ls hl => ?_)
  refine lv_iconst (v := 0) hx hb dX6_countParts_4 (by decide) ?_
  refine lv_istore_n (lv' := [(3, .int (0 : Int32)), (2, .int (0 : Int32)), (1, .int (0 : Int32)), (0, .ref (gB G + a0))]) hx hb dX6_countParts_5 rfl hl (by decide) rfl (fun ls hl => ?_)
  exact klX6_countParts_6 C hlk hr FU a0 (0 : Int32) (0 : Int32) (0 : Int32) _ _ _ h hW (lv_sub hl [3, 2, 1, 0] rfl)
theorem lTX6_188 : LT RX6 188 yJ6_bitCount_0f7a4 cJ6_bitCount_0f7a4 1 (some .int) 1 := ⟨tw 1136 (by decide +kernel) rfl, tw 929 (by decide +kernel) rfl, tw 136 (by decide +kernel) rfl, tw 930 (by decide +kernel) rfl, ⟨by decide +kernel, by decide +kernel, by decide +kernel⟩⟩
theorem dX6_largestPart_0 : decode cX6_largestPart 0 = .ok (.iconst 0, 1) := by decide +kernel
theorem dX6_largestPart_1 : decode cX6_largestPart 1 = .ok (.istore_n 1, 1) := by decide +kernel
theorem dX6_largestPart_2 : decode cX6_largestPart 2 = .ok (.iconst 0, 1) := by decide +kernel
theorem dX6_largestPart_3 : decode cX6_largestPart 3 = .ok (.istore_n 2, 1) := by decide +kernel
theorem dX6_largestPart_4 : decode cX6_largestPart 4 = .ok (.iload_n 2, 1) := by decide +kernel
theorem dX6_largestPart_5 : decode cX6_largestPart 5 = .ok (.aload_n 0, 1) := by decide +kernel
theorem dX6_largestPart_6 : decode cX6_largestPart 6 = .ok (.getfield 9, 3) := by decide +kernel
theorem dX6_largestPart_9 : decode cX6_largestPart 9 = .ok (.getfield 81, 3) := by decide +kernel
theorem dX6_largestPart_12 : decode cX6_largestPart 12 = .ok (.if_icmp .ge 22, 3) := by decide +kernel
theorem dX6_largestPart_15 : decode cX6_largestPart 15 = .ok (.iload_n 1, 1) := by decide +kernel
theorem dX6_largestPart_16 : decode cX6_largestPart 16 = .ok (.aload_n 0, 1) := by decide +kernel
theorem dX6_largestPart_17 : decode cX6_largestPart 17 = .ok (.iload_n 2, 1) := by decide +kernel
theorem dX6_largestPart_18 : decode cX6_largestPart 18 = .ok (.invokevirtual 185, 3) := by decide +kernel
theorem dX6_largestPart_21 : decode cX6_largestPart 21 = .ok (.invokestatic 188, 3) := by decide +kernel
theorem dX6_largestPart_24 : decode cX6_largestPart 24 = .ok (.invokestatic 146, 3) := by decide +kernel
theorem dX6_largestPart_27 : decode cX6_largestPart 27 = .ok (.istore_n 1, 1) := by decide +kernel
theorem dX6_largestPart_28 : decode cX6_largestPart 28 = .ok (.iinc 2 1, 3) := by decide +kernel
theorem dX6_largestPart_31 : decode cX6_largestPart 31 = .ok (.goto (-27), 3) := by decide +kernel
theorem dX6_largestPart_34 : decode cX6_largestPart 34 = .ok (.iload_n 1, 1) := by decide +kernel
theorem dX6_largestPart_35 : decode cX6_largestPart 35 = .ok (.ireturn, 1) := by decide +kernel
abbrev rmX6_largestPart : Room := { frames := 3, cells := 0, slots := 0, locals := 67 }
def bX6_largestPart_4 (k4 : Nat → Int32 → Int32 → Option (Int32)) (a0 : Nat) (l1 : Int32) (l2 : Int32) (z : AH) : Option (Int32) :=
  (gN 5 0 z a0).bind fun b6 =>
  (gI 0 0 z b6).bind fun x9 =>
  if x9 ≤ l2 then (
    some l1
  ) else (
    (fX6_partOf a0 l2 z).bind fun x18 =>
    nm (imax l1 (fJ6_bitCount_0f7a4 x18)) fun v27 =>
    nm (l2 + (1 : Int32)) fun v28 =>
    k4 a0 v27 v28
  )
set_option maxHeartbeats 4000000 in
set_option maxRecDepth 100000 in
theorem kbX6_largestPart_4 {p : Program} {l : Launch} {e : Env} {s : State} {m : MethodId} {args : Array Value} {below : List Frame} {meth : Method} {c : Code} {G : GW} {r : Int32} (C : Cx p m c cX6_largestPart 3 s args RX6 G) (hlk : meth.locks = false) (hr : meth.sig.returnType = (some .int)) {z : AH} (k4 : Nat → Int32 → Int32 → Option (Int32)) (hk4 : ∀ (a0 : Nat) (l1 : Int32) (l2 : Int32) (H : Heap) (locs : List Loc) (ls : Array Slot), k4 a0 l1 l2 = some r → Wb G z s H locs → lv_has ls 3 [(0, .ref (gB G + a0)), (1, .int l1), (2, .int l2)] → W p l e rmX6_largestPart s m args below meth c H locs 0 0 (MQ below (Qi G r z) args s 0 0 (AA G)) (F0 m 4 ls [])) (a0 : Nat) (l1 : Int32) (l2 : Int32) {H : Heap} {locs : List Loc} {ls : Array Slot} (h : bX6_largestPart_4 k4 a0 l1 l2 z = some r) (hW : Wb G z s H locs) (hl : lv_has ls 3 [(0, .ref (gB G + a0)), (1, .int l1), (2, .int l2)]) : W p l e rmX6_largestPart s m args below meth c H locs 0 0 (MQ below (Qi G r z) args s 0 0 (AA G)) (F0 m 4 ls []) := by
  have hx := C.1
  have hb := C.2.1
  unfold bX6_largestPart_4 at h
  refine lv_iload_n hx hb dX6_largestPart_4 rfl (lv_at hl 2 rfl) ?_
  refine lv_aload_n hx hb dX6_largestPart_5 rfl (lv_at hl 0 rfl) ?_
  obtain ⟨b6, hg, h⟩ := ob h
  refine wz_gN C hW flX6_9 hg dX6_largestPart_6 ?_
  obtain ⟨x9, hg, h⟩ := ob h
  refine wz_gI C hW flX6_81 hg dX6_largestPart_9 ?_
  refine lv_icmp_ge (tgt := 34) hx hb dX6_largestPart_12 (by decide) (fun c12 => ?_) (fun c12 => ?_)
  · have h := ite_t c12 h
    refine lv_iload_n hx hb dX6_largestPart_34 rfl (lv_at hl 1 rfl) ?_
    exact wz_iretE C hlk hr (Option.some.inj h) rfl hW dX6_largestPart_35
  · have h := ite_f c12 h
    refine lv_iload_n hx hb dX6_largestPart_15 rfl (lv_at hl 1 rfl) ?_
    refine lv_aload_n hx hb dX6_largestPart_16 rfl (lv_at hl 0 rfl) ?_
    refine lv_iload_n hx hb dX6_largestPart_17 rfl (lv_at hl 2 rfl) ?_
    obtain ⟨x18, hq, h⟩ := ob h
    refine wz_rI (c' := 0) (s' := 0) hW (wz_runV (rest := [.int l1]) C hW lVX6_185 (ck hq).1 rfl (ctX6_partOf l G a0 l2 z hq) ⟨⟨rfl, rfl⟩, Nat.le_of_ble_eq_true rfl, Nat.le_of_ble_eq_true rfl⟩ rfl hl.1 rfl (Nat.le_of_ble_eq_true rfl) dX6_largestPart_18 ⟨Nat.le_of_ble_eq_true rfl, Nat.le_of_ble_eq_true rfl⟩) rfl rfl (fun H locs hW => ?_)
    refine wz_rI (c' := 0) (s' := 0) hW (wz_runS (rest := [.int l1]) C hW lTX6_188 (ctJ6_bitCount_0f7a4 l G x18 z rfl) ⟨⟨rfl, rfl⟩, Nat.le_of_ble_eq_true rfl, Nat.le_of_ble_eq_true rfl⟩ rfl hl.1 rfl (Nat.le_of_ble_eq_true rfl) dX6_largestPart_21 ⟨Nat.le_of_ble_eq_true rfl, Nat.le_of_ble_eq_true rfl⟩) rfl rfl (fun H locs hW => ?_)
    refine wz_max ⟨tw 883 (by decide +kernel) rfl, tw 733 (by decide +kernel) rfl, tw 129 (by decide +kernel) rfl, tw 734 (by decide +kernel) rfl⟩ C hl.1 ⟨⟨Nat.le_of_ble_eq_true rfl, Nat.le_of_ble_eq_true rfl⟩, Nat.le_of_ble_eq_true rfl, Nat.le_of_ble_eq_true rfl⟩ (Nat.le_of_ble_eq_true rfl) dX6_largestPart_24 ?_
    refine lv_topi (fun v27 ev27 => ?_)
    have h := nm_to h ev27
    refine lv_istore_n (lv' := [(1, .int v27), (0, .ref (gB G + a0)), (2, .int l2)]) hx hb dX6_largestPart_27 rfl hl (by decide) rfl (fun ls hl => ?_)
    obtain ⟨v28, ev28⟩ : ∃ y : Int32, y = (l2 + (1 : Int32)) := ⟨_, rfl⟩
    have h := nm_to h ev28
    refine lv_iinc (v := v28) (lv' := [(2, .int v28), (1, .int v27), (0, .ref (gB G + a0))]) hx hb dX6_largestPart_28 hl (k := 2) rfl (by rw [ev28]; rfl) (by decide) rfl (fun ls hl => ?_)
    refine lv_goto (tgt := 4) hx hb dX6_largestPart_31 (by decide) ?_
    exact hk4 a0 v27 v28 _ _ _ h hW (lv_sub hl [2, 1, 0] rfl)
def fX6_largestPart_4 (z : AH) : Nat → Nat → Int32 → Int32 → Option (Int32)
  | 0, _, _, _ => none
  | n + 1, a0, l1, l2 => bX6_largestPart_4 (fX6_largestPart_4 z n) a0 l1 l2 z
theorem klX6_largestPart_4 {p : Program} {l : Launch} {e : Env} {s : State} {m : MethodId} {args : Array Value} {below : List Frame} {meth : Method} {c : Code} {G : GW} {r : Int32} (C : Cx p m c cX6_largestPart 3 s args RX6 G) (hlk : meth.locks = false) (hr : meth.sig.returnType = (some .int)) {z : AH} : ∀ (n : Nat) (a0 : Nat) (l1 : Int32) (l2 : Int32) (H : Heap) (locs : List Loc) (ls : Array Slot), fX6_largestPart_4 z n a0 l1 l2 = some r → Wb G z s H locs → lv_has ls 3 [(0, .ref (gB G + a0)), (1, .int l1), (2, .int l2)] → W p l e rmX6_largestPart s m args below meth c H locs 0 0 (MQ below (Qi G r z) args s 0 0 (AA G)) (F0 m 4 ls []) := by
  intro n
  induction n with
  | zero => intro a0 l1 l2 H locs ls h; have h : (none : Option (Int32)) = some r := h; cases h
  | succ n ih => intro a0 l1 l2 H locs ls h hW hl; exact kbX6_largestPart_4 C hlk hr (fX6_largestPart_4 z n) (fun a0 l1 l2 H locs ls h hW hl => ih a0 l1 l2 H locs ls h hW hl) a0 l1 l2 h hW hl
def fX6_largestPart (a0 : Nat) (z : AH) : Option (Int32) :=
  if isO 5 z a0 = true then
    fX6_largestPart_4 z FU a0 (0 : Int32) (0 : Int32)
  else none
set_option maxHeartbeats 4000000 in
set_option maxRecDepth 100000 in
theorem ctX6_largestPart (l : Launch) (G : GW) (a0 : Nat) (z : AH) {r : Int32} (h : fX6_largestPart a0 z = some r) : Met l yX6_largestPart (wy yX6_largestPart cX6_largestPart 3 (some .int)) rmX6_largestPart (Pz G [.ref (gB G + a0)] z) (Qi G r z) 0 0 (AA G) := by
  refine wz_ent (own := RX6) (by decide +kernel) rfl (fun p e s m below meth c ls C hlk hr hin hW hl => ?_) (Nat.le_of_ble_eq_true rfl)
  have hl : lv_has ls 3 [(0, .ref (gB G + a0))] := hl
  have hx := C.1
  have hb := C.2.1
  unfold fX6_largestPart at h
  obtain ⟨-, h⟩ := ck h
  refine lv_iconst (v := 0) hx hb dX6_largestPart_0 (by decide) ?_
  refine lv_istore_n (lv' := [(1, .int (0 : Int32)), (0, .ref (gB G + a0))]) hx hb dX6_largestPart_1 rfl hl (by decide) rfl (fun ls hl => ?_)
  refine lv_iconst (v := 0) hx hb dX6_largestPart_2 (by decide) ?_
  refine lv_istore_n (lv' := [(2, .int (0 : Int32)), (1, .int (0 : Int32)), (0, .ref (gB G + a0))]) hx hb dX6_largestPart_3 rfl hl (by decide) rfl (fun ls hl => ?_)
  exact klX6_largestPart_4 C hlk hr FU a0 (0 : Int32) (0 : Int32) _ _ _ h hW (lv_sub hl [2, 1, 0] rfl)
theorem flX7_11 : FL RX7 11 6 0 := ⟨_, rfl, Nat.le_of_ble_eq_true rfl, tw 258 (by decide +kernel) rfl, rfl⟩
theorem flX7_15 : FL RX7 15 6 1 := ⟨_, rfl, Nat.le_of_ble_eq_true rfl, tw 260 (by decide +kernel) rfl, rfl⟩
theorem flX7_19 : FL RX7 19 6 2 := ⟨_, rfl, Nat.le_of_ble_eq_true rfl, tw 262 (by decide +kernel) rfl, rfl⟩
theorem flX7_22 : FL RX7 22 6 3 := ⟨_, rfl, Nat.le_of_ble_eq_true rfl, tw 264 (by decide +kernel) rfl, rfl⟩
theorem flX7_25 : FL RX7 25 6 4 := ⟨_, rfl, Nat.le_of_ble_eq_true rfl, tw 266 (by decide +kernel) rfl, rfl⟩
theorem flX7_31 : FL RX7 31 6 5 := ⟨_, rfl, Nat.le_of_ble_eq_true rfl, tw 267 (by decide +kernel) rfl, rfl⟩
theorem flX7_37 : FL RX7 37 6 6 := ⟨_, rfl, Nat.le_of_ble_eq_true rfl, tw 268 (by decide +kernel) rfl, rfl⟩
theorem dX7_init_0 : decode cX7_init 0 = .ok (.aload_n 0, 1) := by decide +kernel
theorem dX7_init_1 : decode cX7_init 1 = .ok (.invokespecial 3, 3) := by decide +kernel
theorem dX7_init_4 : decode cX7_init 4 = .ok (.aload_n 0, 1) := by decide +kernel
theorem dX7_init_5 : decode cX7_init 5 = .ok (.sipush 600, 3) := by decide +kernel
theorem dX7_init_8 : decode cX7_init 8 = .ok (.newarray .byte, 2) := by decide +kernel
theorem dX7_init_10 : decode cX7_init 10 = .ok (.putfield 11, 3) := by decide +kernel
theorem dX7_init_13 : decode cX7_init 13 = .ok (.aload_n 0, 1) := by decide +kernel
theorem dX7_init_14 : decode cX7_init 14 = .ok (.iconst 0, 1) := by decide +kernel
theorem dX7_init_15 : decode cX7_init 15 = .ok (.putfield 15, 3) := by decide +kernel
theorem dX7_init_18 : decode cX7_init 18 = .ok (.aload_n 0, 1) := by decide +kernel
theorem dX7_init_19 : decode cX7_init 19 = .ok (.iconst 0, 1) := by decide +kernel
theorem dX7_init_20 : decode cX7_init 20 = .ok (.putfield 19, 3) := by decide +kernel
theorem dX7_init_23 : decode cX7_init 23 = .ok (.aload_n 0, 1) := by decide +kernel
theorem dX7_init_24 : decode cX7_init 24 = .ok (.iconst (-1), 1) := by decide +kernel
theorem dX7_init_25 : decode cX7_init 25 = .ok (.putfield 22, 3) := by decide +kernel
theorem dX7_init_28 : decode cX7_init 28 = .ok (.aload_n 0, 1) := by decide +kernel
theorem dX7_init_29 : decode cX7_init 29 = .ok (.iconst 4, 1) := by decide +kernel
theorem dX7_init_30 : decode cX7_init 30 = .ok (.newarray .int, 2) := by decide +kernel
theorem dX7_init_32 : decode cX7_init 32 = .ok (.putfield 25, 3) := by decide +kernel
theorem dX7_init_35 : decode cX7_init 35 = .ok (.aload_n 0, 1) := by decide +kernel
theorem dX7_init_36 : decode cX7_init 36 = .ok (.iconst 2, 1) := by decide +kernel
theorem dX7_init_37 : decode cX7_init 37 = .ok (.anewarray 29, 3) := by decide +kernel
theorem dX7_init_40 : decode cX7_init 40 = .ok (.putfield 31, 3) := by decide +kernel
theorem dX7_init_43 : decode cX7_init 43 = .ok (.aload_n 0, 1) := by decide +kernel
theorem dX7_init_44 : decode cX7_init 44 = .ok (.bipush 8, 2) := by decide +kernel
theorem dX7_init_46 : decode cX7_init 46 = .ok (.anewarray 35, 3) := by decide +kernel
theorem dX7_init_49 : decode cX7_init 49 = .ok (.putfield 37, 3) := by decide +kernel
theorem dX7_init_52 : decode cX7_init 52 = .ok (.return_, 1) := by decide +kernel
abbrev rmX7_init : Room := { frames := 1, cells := 4, slots := 614, locals := 20 }
def fX7_init (a0 : Nat) (z : AH) : Option AH :=
  if isO 6 z a0 = true then
    mk (.inl (1, 600, fun _ => 0)) z fun b8 z8 =>
    (pF 6 0 z8 a0 (.ref b8)).bind fun z10 =>
    (pF 6 1 z10 a0 (.int (0 : Int32))).bind fun z15 =>
    (pF 6 2 z15 a0 (.int (0 : Int32))).bind fun z20 =>
    (pF 6 3 z20 a0 (.int (-1 : Int32))).bind fun z25 =>
    mk (.inl (0, 4, fun _ => 0)) z25 fun b30 z30 =>
    (pF 6 4 z30 a0 (.ref b30)).bind fun z32 =>
    mk (.inr (.inl (0, 2, fun _ => none))) z32 fun b37 z37 =>
    (pF 6 5 z37 a0 (.ref b37)).bind fun z40 =>
    mk (.inr (.inl (4, 8, fun _ => none))) z40 fun b46 z46 =>
    (pF 6 6 z46 a0 (.ref b46)).bind fun z49 =>
    some z49
  else none
set_option maxHeartbeats 4000000 in
set_option maxRecDepth 100000 in
theorem ctX7_init (l : Launch) (G : GW) (a0 : Nat) (z : AH) {z' : AH} (h : fX7_init a0 z = some z') : Met l yX7_init (wy yX7_init cX7_init 1 none) rmX7_init (Pz G [.ref (gB G + a0)] z) (Qv G z') 4 614 (AA G) := by
  refine wz_ent (own := RX7) (by decide +kernel) rfl (fun p e s m below meth c ls C hlk hr hin hW hl => ?_) (Nat.le_of_ble_eq_true rfl)
  have hl : lv_has ls 1 [(0, .ref (gB G + a0))] := hl
  have hx := C.1
  have hb := C.2.1
  unfold fX7_init at h
  obtain ⟨-, h⟩ := ck h
  refine lv_aload_n hx hb dX7_init_0 rfl (lv_at hl 0 rfl) ?_
  refine wz_obj ⟨tw 253 (by decide +kernel) rfl, tw 144 (by decide +kernel) rfl, tw 145 (by decide +kernel) rfl⟩ C hl.1 dX7_init_1 ⟨Nat.le_of_ble_eq_true rfl, Nat.le_of_ble_eq_true rfl⟩ ?_
  refine lv_aload_n hx hb dX7_init_4 rfl (lv_at hl 0 rfl) ?_
  refine lv_sipush (v := 600) hx hb dX7_init_5 (by decide) ?_
  obtain ⟨b8, z8, ea, ez, h⟩ := mk_ob h
  refine wz_newBK (N := 600) (c' := 1) (s' := 600) ea ez (tw 284 (by decide +kernel) rfl) C hW (by decide) (by decide +kernel) (Nat.le_of_ble_eq_true rfl) ⟨Nat.le_of_ble_eq_true rfl, Nat.le_of_ble_eq_true rfl⟩ rfl rfl dX7_init_8 (fun H hW => ?_)
  obtain ⟨z10, hg, h⟩ := ob h
  refine wz_putF (v := (.ref b8)) C hin hW flX7_11 rfl rfl hg dX7_init_10 (fun H locs hW => ?_)
  refine lv_aload_n hx hb dX7_init_13 rfl (lv_at hl 0 rfl) ?_
  refine lv_iconst (v := 0) hx hb dX7_init_14 (by decide) ?_
  obtain ⟨z15, hg, h⟩ := ob h
  refine wz_put (v := (.int (0 : Int32))) C hW flX7_15 rfl rfl hg dX7_init_15 (fun H locs hW => ?_)
  refine lv_aload_n hx hb dX7_init_18 rfl (lv_at hl 0 rfl) ?_
  refine lv_iconst (v := 0) hx hb dX7_init_19 (by decide) ?_
  obtain ⟨z20, hg, h⟩ := ob h
  refine wz_put (v := (.int (0 : Int32))) C hW flX7_19 rfl rfl hg dX7_init_20 (fun H locs hW => ?_)
  refine lv_aload_n hx hb dX7_init_23 rfl (lv_at hl 0 rfl) ?_
  refine lv_iconst (v := -1) hx hb dX7_init_24 (by decide) ?_
  obtain ⟨z25, hg, h⟩ := ob h
  refine wz_put (v := (.int (-1 : Int32))) C hW flX7_22 rfl rfl hg dX7_init_25 (fun H locs hW => ?_)
  refine lv_aload_n hx hb dX7_init_28 rfl (lv_at hl 0 rfl) ?_
  refine lv_iconst (v := 4) hx hb dX7_init_29 (by decide) ?_
  obtain ⟨b30, z30, ea, ez, h⟩ := mk_ob h
  refine wz_newIK (N := 4) (c' := 2) (s' := 604) ea ez (tw 247 (by decide +kernel) rfl) C hW (by decide) (by decide +kernel) (Nat.le_of_ble_eq_true rfl) ⟨Nat.le_of_ble_eq_true rfl, Nat.le_of_ble_eq_true rfl⟩ rfl rfl dX7_init_30 (fun H hW => ?_)
  obtain ⟨z32, hg, h⟩ := ob h
  refine wz_putF (v := (.ref b30)) C hin hW flX7_25 rfl rfl hg dX7_init_32 (fun H locs hW => ?_)
  refine lv_aload_n hx hb dX7_init_35 rfl (lv_at hl 0 rfl) ?_
  refine lv_iconst (v := 2) hx hb dX7_init_36 (by decide) ?_
  obtain ⟨b37, z37, ea, ez, h⟩ := mk_ob h
  refine wz_newQK (N := 2) (c' := 3) (s' := 606) ea ez (Or.inl rfl) (tw 254 (by decide +kernel) rfl) C hW (by decide) (by decide +kernel) (Nat.le_of_ble_eq_true rfl) ⟨Nat.le_of_ble_eq_true rfl, Nat.le_of_ble_eq_true rfl⟩ rfl rfl dX7_init_37 (fun H hW => ?_)
  obtain ⟨z40, hg, h⟩ := ob h
  refine wz_putF (v := (.ref b37)) C hin hW flX7_31 rfl rfl hg dX7_init_40 (fun H locs hW => ?_)
  refine lv_aload_n hx hb dX7_init_43 rfl (lv_at hl 0 rfl) ?_
  refine lv_bipush (v := 8) hx hb dX7_init_44 (by decide) ?_
  obtain ⟨b46, z46, ea, ez, h⟩ := mk_ob h
  refine wz_newQK (N := 8) (c' := 4) (s' := 614) ea ez (Or.inr (Or.inl rfl)) (tw 256 (by decide +kernel) rfl) C hW (by decide) (by decide +kernel) (Nat.le_of_ble_eq_true rfl) ⟨Nat.le_of_ble_eq_true rfl, Nat.le_of_ble_eq_true rfl⟩ rfl rfl dX7_init_46 (fun H hW => ?_)
  obtain ⟨z49, hg, h⟩ := ob h
  refine wz_putF (v := (.ref b46)) C hin hW flX7_37 rfl rfl hg dX7_init_49 (fun H locs hW => ?_)
  exact wz_vretE C hlk hr (Option.some.inj h) hW dX7_init_52
theorem dX7_addWord_0 : decode cX7_addWord 0 = .ok (.bipush 24, 2) := by decide +kernel
theorem dX7_addWord_2 : decode cX7_addWord 2 = .ok (.istore_n 2, 1) := by decide +kernel
theorem dX7_addWord_3 : decode cX7_addWord 3 = .ok (.iload_n 2, 1) := by decide +kernel
theorem dX7_addWord_4 : decode cX7_addWord 4 = .ok (.ifCond .lt 49, 3) := by decide +kernel
theorem dX7_addWord_7 : decode cX7_addWord 7 = .ok (.aload_n 0, 1) := by decide +kernel
theorem dX7_addWord_8 : decode cX7_addWord 8 = .ok (.getfield 15, 3) := by decide +kernel
theorem dX7_addWord_11 : decode cX7_addWord 11 = .ok (.ifCond .lt 36, 3) := by decide +kernel
theorem dX7_addWord_14 : decode cX7_addWord 14 = .ok (.aload_n 0, 1) := by decide +kernel
theorem dX7_addWord_15 : decode cX7_addWord 15 = .ok (.getfield 15, 3) := by decide +kernel
theorem dX7_addWord_18 : decode cX7_addWord 18 = .ok (.sipush 600, 3) := by decide +kernel
theorem dX7_addWord_21 : decode cX7_addWord 21 = .ok (.if_icmp .ge 26, 3) := by decide +kernel
theorem dX7_addWord_24 : decode cX7_addWord 24 = .ok (.aload_n 0, 1) := by decide +kernel
theorem dX7_addWord_25 : decode cX7_addWord 25 = .ok (.getfield 11, 3) := by decide +kernel
theorem dX7_addWord_28 : decode cX7_addWord 28 = .ok (.aload_n 0, 1) := by decide +kernel
theorem dX7_addWord_29 : decode cX7_addWord 29 = .ok (.getfield 15, 3) := by decide +kernel
theorem dX7_addWord_32 : decode cX7_addWord 32 = .ok (.iload_n 1, 1) := by decide +kernel
theorem dX7_addWord_33 : decode cX7_addWord 33 = .ok (.iload_n 2, 1) := by decide +kernel
theorem dX7_addWord_34 : decode cX7_addWord 34 = .ok (.iushr, 1) := by decide +kernel
theorem dX7_addWord_35 : decode cX7_addWord 35 = .ok (.i2b, 1) := by decide +kernel
theorem dX7_addWord_36 : decode cX7_addWord 36 = .ok (.bastore, 1) := by decide +kernel
theorem dX7_addWord_37 : decode cX7_addWord 37 = .ok (.aload_n 0, 1) := by decide +kernel
theorem dX7_addWord_38 : decode cX7_addWord 38 = .ok (.dup, 1) := by decide +kernel
theorem dX7_addWord_39 : decode cX7_addWord 39 = .ok (.getfield 15, 3) := by decide +kernel
theorem dX7_addWord_42 : decode cX7_addWord 42 = .ok (.iconst 1, 1) := by decide +kernel
theorem dX7_addWord_43 : decode cX7_addWord 43 = .ok (.iadd, 1) := by decide +kernel
theorem dX7_addWord_44 : decode cX7_addWord 44 = .ok (.putfield 15, 3) := by decide +kernel
theorem dX7_addWord_47 : decode cX7_addWord 47 = .ok (.iinc 2 (-8), 3) := by decide +kernel
theorem dX7_addWord_50 : decode cX7_addWord 50 = .ok (.goto (-47), 3) := by decide +kernel
theorem dX7_addWord_53 : decode cX7_addWord 53 = .ok (.return_, 1) := by decide +kernel
abbrev rmX7_addWord : Room := { frames := 0, cells := 0, slots := 0, locals := 0 }
def bX7_addWord_3 (k3 : Nat → Int32 → Int32 → AH → Option AH) (a0 : Nat) (l1 : Int32) (l2 : Int32) (z : AH) : Option AH :=
  if l2 < (0 : Int32) then (
    some z
  ) else (
    (gI 6 1 z a0).bind fun x8 =>
    if x8 < (0 : Int32) then (
      nm (l2 + (-8 : Int32)) fun v47 =>
      k3 a0 l1 v47 z
    ) else (
      (gI 6 1 z a0).bind fun x15 =>
      if (600 : Int32) ≤ x15 then (
        nm (l2 + (-8 : Int32)) fun v47 =>
        k3 a0 l1 v47 z
      ) else (
        (gN 6 0 z a0).bind fun b25 =>
        (gI 6 1 z a0).bind fun x29 =>
        (stI 1 z b25 x29 (vp_nar .byte (Int8.toInt32 (Int32.toInt8 (ush l1 l2))))).bind fun z36 =>
        (gI 6 1 z36 a0).bind fun x39 =>
        (pF 6 1 z36 a0 (.int (x39 + (1 : Int32)))).bind fun z44 =>
        nm (l2 + (-8 : Int32)) fun v47 =>
        k3 a0 l1 v47 z44
      )
    )
  )
set_option maxHeartbeats 4000000 in
set_option maxRecDepth 100000 in
theorem kbX7_addWord_3 {p : Program} {l : Launch} {e : Env} {s : State} {m : MethodId} {args : Array Value} {below : List Frame} {meth : Method} {c : Code} {G : GW} {z' : AH} (C : Cx p m c cX7_addWord 3 s args RX7 G) (hlk : meth.locks = false) (hr : meth.sig.returnType = none) (k3 : Nat → Int32 → Int32 → AH → Option AH) (hk3 : ∀ (a0 : Nat) (l1 : Int32) (l2 : Int32) (z : AH) (H : Heap) (locs : List Loc) (ls : Array Slot), k3 a0 l1 l2 z = some z' → Wb G z s H locs → lv_has ls 3 [(0, .ref (gB G + a0)), (1, .int l1), (2, .int l2)] → W p l e rmX7_addWord s m args below meth c H locs 0 0 (MQ below (Qv G z') args s 0 0 (AA G)) (F0 m 3 ls [])) (a0 : Nat) (l1 : Int32) (l2 : Int32) {z : AH} {H : Heap} {locs : List Loc} {ls : Array Slot} (h : bX7_addWord_3 k3 a0 l1 l2 z = some z') (hW : Wb G z s H locs) (hl : lv_has ls 3 [(0, .ref (gB G + a0)), (1, .int l1), (2, .int l2)]) : W p l e rmX7_addWord s m args below meth c H locs 0 0 (MQ below (Qv G z') args s 0 0 (AA G)) (F0 m 3 ls []) := by
  have hx := C.1
  have hb := C.2.1
  unfold bX7_addWord_3 at h
  refine lv_iload_n hx hb dX7_addWord_3 rfl (lv_at hl 2 rfl) ?_
  refine lv_if_lt (tgt := 53) hx hb dX7_addWord_4 (by decide) (fun c4 => ?_) (fun c4 => ?_)
  · have h := ite_t c4 h
    exact wz_vretE C hlk hr (Option.some.inj h) hW dX7_addWord_53
  · have h := ite_f c4 h
    refine lv_aload_n hx hb dX7_addWord_7 rfl (lv_at hl 0 rfl) ?_
    obtain ⟨x8, hg, h⟩ := ob h
    refine wz_gI C hW flX7_15 hg dX7_addWord_8 ?_
    refine lv_if_lt (tgt := 47) hx hb dX7_addWord_11 (by decide) (fun c11 => ?_) (fun c11 => ?_)
    · have h := ite_t c11 h
      obtain ⟨v47, ev47⟩ : ∃ y : Int32, y = (l2 + (-8 : Int32)) := ⟨_, rfl⟩
      have h := nm_to h ev47
      refine lv_iinc (v := v47) (lv' := [(2, .int v47), (0, .ref (gB G + a0)), (1, .int l1)]) hx hb dX7_addWord_47 hl (k := 2) rfl (by rw [ev47]; rfl) (by decide) rfl (fun ls hl => ?_)
      refine lv_goto (tgt := 3) hx hb dX7_addWord_50 (by decide) ?_
      exact hk3 a0 l1 v47 z _ _ _ h hW (lv_sub hl [1, 2, 0] rfl)
    · have h := ite_f c11 h
      refine lv_aload_n hx hb dX7_addWord_14 rfl (lv_at hl 0 rfl) ?_
      obtain ⟨x15, hg, h⟩ := ob h
      refine wz_gI C hW flX7_15 hg dX7_addWord_15 ?_
      refine lv_sipush (v := 600) hx hb dX7_addWord_18 (by decide) ?_
      refine lv_icmp_ge (tgt := 47) hx hb dX7_addWord_21 (by decide) (fun c21 => ?_) (fun c21 => ?_)
      · have h := ite_t c21 h
        obtain ⟨v47, ev47⟩ : ∃ y : Int32, y = (l2 + (-8 : Int32)) := ⟨_, rfl⟩
        have h := nm_to h ev47
        refine lv_iinc (v := v47) (lv' := [(2, .int v47), (0, .ref (gB G + a0)), (1, .int l1)]) hx hb dX7_addWord_47 hl (k := 2) rfl (by rw [ev47]; rfl) (by decide) rfl (fun ls hl => ?_)
        refine lv_goto (tgt := 3) hx hb dX7_addWord_50 (by decide) ?_
        exact hk3 a0 l1 v47 z _ _ _ h hW (lv_sub hl [1, 2, 0] rfl)
      · have h := ite_f c21 h
        refine lv_aload_n hx hb dX7_addWord_24 rfl (lv_at hl 0 rfl) ?_
        obtain ⟨b25, hg, h⟩ := ob h
        refine wz_gN C hW flX7_11 hg dX7_addWord_25 ?_
        refine lv_aload_n hx hb dX7_addWord_28 rfl (lv_at hl 0 rfl) ?_
        obtain ⟨x29, hg, h⟩ := ob h
        refine wz_gI C hW flX7_15 hg dX7_addWord_29 ?_
        refine lv_iload_n hx hb dX7_addWord_32 rfl (lv_at hl 1 rfl) ?_
        refine lv_iload_n hx hb dX7_addWord_33 rfl (lv_at hl 2 rfl) ?_
        refine wz_ush hx hb dX7_addWord_34 ?_
        refine lv_i2b hx hb dX7_addWord_35 rfl ?_
        obtain ⟨z36, hg, h⟩ := ob h
        refine wz_bst C hW hg dX7_addWord_36 (fun H locs hW => ?_)
        refine lv_aload_n hx hb dX7_addWord_37 rfl (lv_at hl 0 rfl) ?_
        refine lv_dup hx hb dX7_addWord_38 rfl ?_
        obtain ⟨x39, hg, h⟩ := ob h
        refine wz_gI C hW flX7_15 hg dX7_addWord_39 ?_
        refine lv_iconst (v := 1) hx hb dX7_addWord_42 (by decide) ?_
        refine lv_iadd hx hb dX7_addWord_43 ?_
        obtain ⟨z44, hg, h⟩ := ob h
        refine wz_put (v := (.int (x39 + (1 : Int32)))) C hW flX7_15 rfl rfl hg dX7_addWord_44 (fun H locs hW => ?_)
        obtain ⟨v47, ev47⟩ : ∃ y : Int32, y = (l2 + (-8 : Int32)) := ⟨_, rfl⟩
        have h := nm_to h ev47
        refine lv_iinc (v := v47) (lv' := [(2, .int v47), (0, .ref (gB G + a0)), (1, .int l1)]) hx hb dX7_addWord_47 hl (k := 2) rfl (by rw [ev47]; rfl) (by decide) rfl (fun ls hl => ?_)
        refine lv_goto (tgt := 3) hx hb dX7_addWord_50 (by decide) ?_
        exact hk3 a0 l1 v47 z44 _ _ _ h hW (lv_sub hl [1, 2, 0] rfl)
def fX7_addWord_3 : Nat → Nat → Int32 → Int32 → AH → Option AH
  | 0, _, _, _, _ => none
  | n + 1, a0, l1, l2, z => bX7_addWord_3 (fX7_addWord_3 n) a0 l1 l2 z
theorem klX7_addWord_3 {p : Program} {l : Launch} {e : Env} {s : State} {m : MethodId} {args : Array Value} {below : List Frame} {meth : Method} {c : Code} {G : GW} {z' : AH} (C : Cx p m c cX7_addWord 3 s args RX7 G) (hlk : meth.locks = false) (hr : meth.sig.returnType = none) : ∀ (n : Nat) (a0 : Nat) (l1 : Int32) (l2 : Int32) (z : AH) (H : Heap) (locs : List Loc) (ls : Array Slot), fX7_addWord_3 n a0 l1 l2 z = some z' → Wb G z s H locs → lv_has ls 3 [(0, .ref (gB G + a0)), (1, .int l1), (2, .int l2)] → W p l e rmX7_addWord s m args below meth c H locs 0 0 (MQ below (Qv G z') args s 0 0 (AA G)) (F0 m 3 ls []) := by
  intro n
  induction n with
  | zero => intro a0 l1 l2 z H locs ls h; have h : (none : Option AH) = some z' := h; cases h
  | succ n ih => intro a0 l1 l2 z H locs ls h hW hl; exact kbX7_addWord_3 C hlk hr (fX7_addWord_3 n) (fun a0 l1 l2 z H locs ls h hW hl => ih a0 l1 l2 z H locs ls h hW hl) a0 l1 l2 h hW hl
def fX7_addWord (a0 : Nat) (l1 : Int32) (z : AH) : Option AH :=
  if isO 6 z a0 = true then
    fX7_addWord_3 FU a0 l1 (24 : Int32) z
  else none
set_option maxHeartbeats 4000000 in
set_option maxRecDepth 100000 in
theorem ctX7_addWord (l : Launch) (G : GW) (a0 : Nat) (l1 : Int32) (z : AH) {z' : AH} (h : fX7_addWord a0 l1 z = some z') : Met l yX7_addWord (wy yX7_addWord cX7_addWord 3 none) rmX7_addWord (Pz G [.ref (gB G + a0), .int l1] z) (Qv G z') 0 0 (AA G) := by
  refine wz_ent (own := RX7) (by decide +kernel) rfl (fun p e s m below meth c ls C hlk hr hin hW hl => ?_) (Nat.le_of_ble_eq_true rfl)
  have hl : lv_has ls 3 [(0, .ref (gB G + a0)), (1, .int l1)] := hl
  have hx := C.1
  have hb := C.2.1
  unfold fX7_addWord at h
  obtain ⟨-, h⟩ := ck h
  refine lv_bipush (v := 24) hx hb dX7_addWord_0 (by decide) ?_
  refine lv_istore_n (lv' := [(2, .int (24 : Int32)), (0, .ref (gB G + a0)), (1, .int l1)]) hx hb dX7_addWord_2 rfl hl (by decide) rfl (fun ls hl => ?_)
  exact klX7_addWord_3 C hlk hr FU a0 l1 (24 : Int32) z _ _ _ h hW (lv_sub hl [1, 2, 0] rfl)
theorem lNX7_41 : LN RX7 41 yX9_pick cX9_pick 3 (some .int) 3 := ⟨by decide +kernel, tw 523 (by decide +kernel) rfl, tw 120 (by decide +kernel) rfl, tw 524 (by decide +kernel) rfl, ⟨by decide +kernel, by decide +kernel, by decide +kernel⟩⟩
theorem dX7_sizeOf_0 : decode cX7_sizeOf 0 = .ok (.aload_n 0, 1) := by decide +kernel
theorem dX7_sizeOf_1 : decode cX7_sizeOf 1 = .ok (.getfield 25, 3) := by decide +kernel
theorem dX7_sizeOf_4 : decode cX7_sizeOf 4 = .ok (.iconst 4, 1) := by decide +kernel
theorem dX7_sizeOf_5 : decode cX7_sizeOf 5 = .ok (.iload_n 1, 1) := by decide +kernel
theorem dX7_sizeOf_6 : decode cX7_sizeOf 6 = .ok (.invokestatic 41, 3) := by decide +kernel
theorem dX7_sizeOf_9 : decode cX7_sizeOf 9 = .ok (.ireturn, 1) := by decide +kernel
abbrev rmX7_sizeOf : Room := { frames := 1, cells := 0, slots := 0, locals := 22 }
def fX7_sizeOf (a0 : Nat) (l1 : Int32) (z : AH) : Option (Int32) :=
  if isO 6 z a0 = true then
    (gN 6 4 z a0).bind fun b1 =>
    (fX9_pick b1 (4 : Int32) l1 z).bind fun x6 =>
    some x6
  else none
set_option maxHeartbeats 4000000 in
set_option maxRecDepth 100000 in
theorem ctX7_sizeOf (l : Launch) (G : GW) (a0 : Nat) (l1 : Int32) (z : AH) {r : Int32} (h : fX7_sizeOf a0 l1 z = some r) : Met l yX7_sizeOf (wy yX7_sizeOf cX7_sizeOf 2 (some .int)) rmX7_sizeOf (Pz G [.ref (gB G + a0), .int l1] z) (Qi G r z) 0 0 (AA G) := by
  refine wz_ent (own := RX7) (by decide +kernel) rfl (fun p e s m below meth c ls C hlk hr hin hW hl => ?_) (Nat.le_of_ble_eq_true rfl)
  have hl : lv_has ls 2 [(0, .ref (gB G + a0)), (1, .int l1)] := hl
  have hx := C.1
  have hb := C.2.1
  unfold fX7_sizeOf at h
  obtain ⟨-, h⟩ := ck h
  refine lv_aload_n hx hb dX7_sizeOf_0 rfl (lv_at hl 0 rfl) ?_
  obtain ⟨b1, hg, h⟩ := ob h
  refine wz_gN C hW flX7_25 hg dX7_sizeOf_1 ?_
  refine lv_iconst (v := 4) hx hb dX7_sizeOf_4 (by decide) ?_
  refine lv_iload_n hx hb dX7_sizeOf_5 rfl (lv_at hl 1 rfl) ?_
  obtain ⟨x6, hq, h⟩ := ob h
  refine wz_rI (c' := 0) (s' := 0) hW (wz_runN (rest := []) C hW lNX7_41 (ctX9_pick l G b1 (4 : Int32) l1 z hq) ⟨⟨rfl, rfl⟩, Nat.le_of_ble_eq_true rfl, Nat.le_of_ble_eq_true rfl⟩ rfl hl.1 rfl (Nat.le_of_ble_eq_true rfl) dX7_sizeOf_6 ⟨Nat.le_of_ble_eq_true rfl, Nat.le_of_ble_eq_true rfl⟩) rfl rfl (fun H locs hW => ?_)
  exact wz_iretE C hlk hr (Option.some.inj h) rfl hW dX7_sizeOf_9
theorem lVX7_45 : LV RX7 45 yX7_sizeOf cX7_sizeOf 2 (some .int) 1 := ⟨tw 518 (by decide +kernel) rfl, tw 519 (by decide +kernel) rfl, tw 520 (by decide +kernel) rfl, tw 122 (by decide +kernel) rfl, tw 521 (by decide +kernel) rfl, ⟨by decide +kernel, by decide +kernel, by decide +kernel⟩⟩
theorem dX7_slotFor_0 : decode cX7_slotFor 0 = .ok (.aload_n 0, 1) := by decide +kernel
theorem dX7_slotFor_1 : decode cX7_slotFor 1 = .ok (.iload_n 1, 1) := by decide +kernel
theorem dX7_slotFor_2 : decode cX7_slotFor 2 = .ok (.invokevirtual 45, 3) := by decide +kernel
theorem dX7_slotFor_5 : decode cX7_slotFor 5 = .ok (.istore_n 3, 1) := by decide +kernel
theorem dX7_slotFor_6 : decode cX7_slotFor 6 = .ok (.iload_n 2, 1) := by decide +kernel
theorem dX7_slotFor_7 : decode cX7_slotFor 7 = .ok (.iconst (-1), 1) := by decide +kernel
theorem dX7_slotFor_8 : decode cX7_slotFor 8 = .ok (.if_icmp .ne 15, 3) := by decide +kernel
theorem dX7_slotFor_11 : decode cX7_slotFor 11 = .ok (.iload_n 3, 1) := by decide +kernel
theorem dX7_slotFor_12 : decode cX7_slotFor 12 = .ok (.iconst 2, 1) := by decide +kernel
theorem dX7_slotFor_13 : decode cX7_slotFor 13 = .ok (.if_icmp .ge 7, 3) := by decide +kernel
theorem dX7_slotFor_16 : decode cX7_slotFor 16 = .ok (.iload_n 3, 1) := by decide +kernel
theorem dX7_slotFor_17 : decode cX7_slotFor 17 = .ok (.goto 5, 3) := by decide +kernel
theorem dX7_slotFor_20 : decode cX7_slotFor 20 = .ok (.bipush (-2), 2) := by decide +kernel
theorem dX7_slotFor_22 : decode cX7_slotFor 22 = .ok (.ireturn, 1) := by decide +kernel
theorem dX7_slotFor_23 : decode cX7_slotFor 23 = .ok (.iload_n 2, 1) := by decide +kernel
theorem dX7_slotFor_24 : decode cX7_slotFor 24 = .ok (.ifCond .lt 12, 3) := by decide +kernel
theorem dX7_slotFor_27 : decode cX7_slotFor 27 = .ok (.iload_n 2, 1) := by decide +kernel
theorem dX7_slotFor_28 : decode cX7_slotFor 28 = .ok (.iload_n 3, 1) := by decide +kernel
theorem dX7_slotFor_29 : decode cX7_slotFor 29 = .ok (.if_icmp .ge 7, 3) := by decide +kernel
theorem dX7_slotFor_32 : decode cX7_slotFor 32 = .ok (.iload_n 2, 1) := by decide +kernel
theorem dX7_slotFor_33 : decode cX7_slotFor 33 = .ok (.goto 5, 3) := by decide +kernel
theorem dX7_slotFor_36 : decode cX7_slotFor 36 = .ok (.bipush (-2), 2) := by decide +kernel
theorem dX7_slotFor_38 : decode cX7_slotFor 38 = .ok (.ireturn, 1) := by decide +kernel
abbrev rmX7_slotFor : Room := { frames := 2, cells := 0, slots := 0, locals := 43 }
def fX7_slotFor (a0 : Nat) (l1 : Int32) (l2 : Int32) (z : AH) : Option (Int32) :=
  if isO 6 z a0 = true then
    (fX7_sizeOf a0 l1 z).bind fun x2 =>
    if l2 = (-1 : Int32) then (
      if (2 : Int32) ≤ x2 then (
        some (-2 : Int32)
      ) else (
        some x2
      )
    ) else (
      if l2 < (0 : Int32) then (
        some (-2 : Int32)
      ) else (
        if x2 ≤ l2 then (
          some (-2 : Int32)
        ) else (
          some l2
        )
      )
    )
  else none
set_option maxHeartbeats 4000000 in
set_option maxRecDepth 100000 in
theorem ctX7_slotFor (l : Launch) (G : GW) (a0 : Nat) (l1 : Int32) (l2 : Int32) (z : AH) {r : Int32} (h : fX7_slotFor a0 l1 l2 z = some r) : Met l yX7_slotFor (wy yX7_slotFor cX7_slotFor 4 (some .int)) rmX7_slotFor (Pz G [.ref (gB G + a0), .int l1, .int l2] z) (Qi G r z) 0 0 (AA G) := by
  refine wz_ent (own := RX7) (by decide +kernel) rfl (fun p e s m below meth c ls C hlk hr hin hW hl => ?_) (Nat.le_of_ble_eq_true rfl)
  have hl : lv_has ls 4 [(0, .ref (gB G + a0)), (1, .int l1), (2, .int l2)] := hl
  have hx := C.1
  have hb := C.2.1
  unfold fX7_slotFor at h
  obtain ⟨-, h⟩ := ck h
  refine lv_aload_n hx hb dX7_slotFor_0 rfl (lv_at hl 0 rfl) ?_
  refine lv_iload_n hx hb dX7_slotFor_1 rfl (lv_at hl 1 rfl) ?_
  obtain ⟨x2, hq, h⟩ := ob h
  refine wz_rI (c' := 0) (s' := 0) hW (wz_runV (rest := []) C hW lVX7_45 (ck hq).1 rfl (ctX7_sizeOf l G a0 l1 z hq) ⟨⟨rfl, rfl⟩, Nat.le_of_ble_eq_true rfl, Nat.le_of_ble_eq_true rfl⟩ rfl hl.1 rfl (Nat.le_of_ble_eq_true rfl) dX7_slotFor_2 ⟨Nat.le_of_ble_eq_true rfl, Nat.le_of_ble_eq_true rfl⟩) rfl rfl (fun H locs hW => ?_)
  refine lv_istore_n (lv' := [(3, .int x2), (0, .ref (gB G + a0)), (1, .int l1), (2, .int l2)]) hx hb dX7_slotFor_5 rfl hl (by decide) rfl (fun ls hl => ?_)
  refine lv_iload_n hx hb dX7_slotFor_6 rfl (lv_at hl 3 rfl) ?_
  refine lv_iconst (v := -1) hx hb dX7_slotFor_7 (by decide) ?_
  refine lv_icmp_ne (tgt := 23) hx hb dX7_slotFor_8 (by decide) (fun c8 => ?_) (fun c8 => ?_)
  · have h := ite_f c8 h
    refine lv_iload_n hx hb dX7_slotFor_23 rfl (lv_at hl 3 rfl) ?_
    refine lv_if_lt (tgt := 36) hx hb dX7_slotFor_24 (by decide) (fun c24 => ?_) (fun c24 => ?_)
    · have h := ite_t c24 h
      refine lv_bipush (v := -2) hx hb dX7_slotFor_36 (by decide) ?_
      exact wz_iretE C hlk hr (Option.some.inj h) rfl hW dX7_slotFor_38
    · have h := ite_f c24 h
      refine lv_iload_n hx hb dX7_slotFor_27 rfl (lv_at hl 3 rfl) ?_
      refine lv_iload_n hx hb dX7_slotFor_28 rfl (lv_at hl 0 rfl) ?_
      refine lv_icmp_ge (tgt := 36) hx hb dX7_slotFor_29 (by decide) (fun c29 => ?_) (fun c29 => ?_)
      · have h := ite_t c29 h
        refine lv_bipush (v := -2) hx hb dX7_slotFor_36 (by decide) ?_
        exact wz_iretE C hlk hr (Option.some.inj h) rfl hW dX7_slotFor_38
      · have h := ite_f c29 h
        refine lv_iload_n hx hb dX7_slotFor_32 rfl (lv_at hl 3 rfl) ?_
        refine lv_goto (tgt := 38) hx hb dX7_slotFor_33 (by decide) ?_
        exact wz_iretE C hlk hr (Option.some.inj h) rfl hW dX7_slotFor_38
  · have h := ite_t c8 h
    refine lv_iload_n hx hb dX7_slotFor_11 rfl (lv_at hl 0 rfl) ?_
    refine lv_iconst (v := 2) hx hb dX7_slotFor_12 (by decide) ?_
    refine lv_icmp_ge (tgt := 20) hx hb dX7_slotFor_13 (by decide) (fun c13 => ?_) (fun c13 => ?_)
    · have h := ite_t c13 h
      refine lv_bipush (v := -2) hx hb dX7_slotFor_20 (by decide) ?_
      exact wz_iretE C hlk hr (Option.some.inj h) rfl hW dX7_slotFor_22
    · have h := ite_f c13 h
      refine lv_iload_n hx hb dX7_slotFor_16 rfl (lv_at hl 0 rfl) ?_
      refine lv_goto (tgt := 22) hx hb dX7_slotFor_17 (by decide) ?_
      exact wz_iretE C hlk hr (Option.some.inj h) rfl hW dX7_slotFor_22
theorem dX7_countryAt_0 : decode cX7_countryAt 0 = .ok (.iload_n 1, 1) := by decide +kernel
theorem dX7_countryAt_1 : decode cX7_countryAt 1 = .ok (.ifCond .lt 27, 3) := by decide +kernel
theorem dX7_countryAt_4 : decode cX7_countryAt 4 = .ok (.iload_n 1, 1) := by decide +kernel
theorem dX7_countryAt_5 : decode cX7_countryAt 5 = .ok (.aload_n 0, 1) := by decide +kernel
theorem dX7_countryAt_6 : decode cX7_countryAt 6 = .ok (.getfield 25, 3) := by decide +kernel
theorem dX7_countryAt_9 : decode cX7_countryAt 9 = .ok (.iconst 0, 1) := by decide +kernel
theorem dX7_countryAt_10 : decode cX7_countryAt 10 = .ok (.iaload, 1) := by decide +kernel
theorem dX7_countryAt_11 : decode cX7_countryAt 11 = .ok (.if_icmp .ge 17, 3) := by decide +kernel
theorem dX7_countryAt_14 : decode cX7_countryAt 14 = .ok (.iload_n 1, 1) := by decide +kernel
theorem dX7_countryAt_15 : decode cX7_countryAt 15 = .ok (.iconst 2, 1) := by decide +kernel
theorem dX7_countryAt_16 : decode cX7_countryAt 16 = .ok (.if_icmp .ge 12, 3) := by decide +kernel
theorem dX7_countryAt_19 : decode cX7_countryAt 19 = .ok (.aload_n 0, 1) := by decide +kernel
theorem dX7_countryAt_20 : decode cX7_countryAt 20 = .ok (.getfield 31, 3) := by decide +kernel
theorem dX7_countryAt_23 : decode cX7_countryAt 23 = .ok (.iload_n 1, 1) := by decide +kernel
theorem dX7_countryAt_24 : decode cX7_countryAt 24 = .ok (.aaload, 1) := by decide +kernel
theorem dX7_countryAt_25 : decode cX7_countryAt 25 = .ok (.goto 4, 3) := by decide +kernel
theorem dX7_countryAt_28 : decode cX7_countryAt 28 = .ok (.aconst_null, 1) := by decide +kernel
theorem dX7_countryAt_29 : decode cX7_countryAt 29 = .ok (.areturn, 1) := by decide +kernel
abbrev rmX7_countryAt : Room := { frames := 0, cells := 0, slots := 0, locals := 0 }
def fX7_countryAt (a0 : Nat) (l1 : Int32) (z : AH) : Option (Option Nat) :=
  if isO 6 z a0 = true then
    if l1 < (0 : Int32) then (
      some none
    ) else (
      (gN 6 4 z a0).bind fun b6 =>
      (ixI 0 z b6 (0 : Int32)).bind fun x10 =>
      if x10 ≤ l1 then (
        some none
      ) else (
        if (2 : Int32) ≤ l1 then (
          some none
        ) else (
          (gN 6 5 z a0).bind fun b20 =>
          (ixQ 0 z b20 l1).bind fun q24_ =>
          some q24_
        )
      )
    )
  else none
set_option maxHeartbeats 4000000 in
set_option maxRecDepth 100000 in
theorem ctX7_countryAt (l : Launch) (G : GW) (a0 : Nat) (l1 : Int32) (z : AH) {r : Option Nat} (h : fX7_countryAt a0 l1 z = some r) : Met l yX7_countryAt (wy yX7_countryAt cX7_countryAt 2 (some (.object "PairedViews$Country"))) rmX7_countryAt (Pz G [.ref (gB G + a0), .int l1] z) (Qq G r z) 0 0 (AA G) := by
  refine wz_ent (own := RX7) (by decide +kernel) rfl (fun p e s m below meth c ls C hlk hr hin hW hl => ?_) (Nat.le_of_ble_eq_true rfl)
  have hl : lv_has ls 2 [(0, .ref (gB G + a0)), (1, .int l1)] := hl
  have hx := C.1
  have hb := C.2.1
  unfold fX7_countryAt at h
  obtain ⟨-, h⟩ := ck h
  refine lv_iload_n hx hb dX7_countryAt_0 rfl (lv_at hl 1 rfl) ?_
  refine lv_if_lt (tgt := 28) hx hb dX7_countryAt_1 (by decide) (fun c1 => ?_) (fun c1 => ?_)
  · have h := ite_t c1 h
    refine lv_null hx hb dX7_countryAt_28 ?_
    exact wz_qretE (x := none) C hlk hr (Option.some.inj h) rfl hW dX7_countryAt_29
  · have h := ite_f c1 h
    refine lv_iload_n hx hb dX7_countryAt_4 rfl (lv_at hl 1 rfl) ?_
    refine lv_aload_n hx hb dX7_countryAt_5 rfl (lv_at hl 0 rfl) ?_
    obtain ⟨b6, hg, h⟩ := ob h
    refine wz_gN C hW flX7_25 hg dX7_countryAt_6 ?_
    refine lv_iconst (v := 0) hx hb dX7_countryAt_9 (by decide) ?_
    obtain ⟨x10, hg, h⟩ := ob h
    refine wz_ald C hW hg dX7_countryAt_10 ?_
    refine lv_icmp_ge (tgt := 28) hx hb dX7_countryAt_11 (by decide) (fun c11 => ?_) (fun c11 => ?_)
    · have h := ite_t c11 h
      refine lv_null hx hb dX7_countryAt_28 ?_
      exact wz_qretE (x := none) C hlk hr (Option.some.inj h) rfl hW dX7_countryAt_29
    · have h := ite_f c11 h
      refine lv_iload_n hx hb dX7_countryAt_14 rfl (lv_at hl 1 rfl) ?_
      refine lv_iconst (v := 2) hx hb dX7_countryAt_15 (by decide) ?_
      refine lv_icmp_ge (tgt := 28) hx hb dX7_countryAt_16 (by decide) (fun c16 => ?_) (fun c16 => ?_)
      · have h := ite_t c16 h
        refine lv_null hx hb dX7_countryAt_28 ?_
        exact wz_qretE (x := none) C hlk hr (Option.some.inj h) rfl hW dX7_countryAt_29
      · have h := ite_f c16 h
        refine lv_aload_n hx hb dX7_countryAt_19 rfl (lv_at hl 0 rfl) ?_
        obtain ⟨b20, hg, h⟩ := ob h
        refine wz_gN C hW flX7_31 hg dX7_countryAt_20 ?_
        refine lv_iload_n hx hb dX7_countryAt_23 rfl (lv_at hl 1 rfl) ?_
        obtain ⟨q24_, hg, h⟩ := ob h
        refine wz_qld (Or.inl rfl) C hW hg dX7_countryAt_24 ?_
        refine lv_goto (tgt := 29) hx hb dX7_countryAt_25 (by decide) ?_
        exact wz_qretE (x := q24_) C hlk hr (Option.some.inj h) rfl hW dX7_countryAt_29
theorem dX7_rowsAt_0 : decode cX7_rowsAt 0 = .ok (.iload_n 2, 1) := by decide +kernel
theorem dX7_rowsAt_1 : decode cX7_rowsAt 1 = .ok (.ifCond .lt 30, 3) := by decide +kernel
theorem dX7_rowsAt_4 : decode cX7_rowsAt 4 = .ok (.iload_n 2, 1) := by decide +kernel
theorem dX7_rowsAt_5 : decode cX7_rowsAt 5 = .ok (.aload_n 0, 1) := by decide +kernel
theorem dX7_rowsAt_6 : decode cX7_rowsAt 6 = .ok (.iload_n 1, 1) := by decide +kernel
theorem dX7_rowsAt_7 : decode cX7_rowsAt 7 = .ok (.invokevirtual 45, 3) := by decide +kernel
theorem dX7_rowsAt_10 : decode cX7_rowsAt 10 = .ok (.if_icmp .ge 21, 3) := by decide +kernel
theorem dX7_rowsAt_13 : decode cX7_rowsAt 13 = .ok (.iload_n 2, 1) := by decide +kernel
theorem dX7_rowsAt_14 : decode cX7_rowsAt 14 = .ok (.iconst 2, 1) := by decide +kernel
theorem dX7_rowsAt_15 : decode cX7_rowsAt 15 = .ok (.if_icmp .ge 16, 3) := by decide +kernel
theorem dX7_rowsAt_18 : decode cX7_rowsAt 18 = .ok (.aload_n 0, 1) := by decide +kernel
theorem dX7_rowsAt_19 : decode cX7_rowsAt 19 = .ok (.getfield 37, 3) := by decide +kernel
theorem dX7_rowsAt_22 : decode cX7_rowsAt 22 = .ok (.iconst 2, 1) := by decide +kernel
theorem dX7_rowsAt_23 : decode cX7_rowsAt 23 = .ok (.iload_n 1, 1) := by decide +kernel
theorem dX7_rowsAt_24 : decode cX7_rowsAt 24 = .ok (.imul, 1) := by decide +kernel
theorem dX7_rowsAt_25 : decode cX7_rowsAt 25 = .ok (.iload_n 2, 1) := by decide +kernel
theorem dX7_rowsAt_26 : decode cX7_rowsAt 26 = .ok (.iadd, 1) := by decide +kernel
theorem dX7_rowsAt_27 : decode cX7_rowsAt 27 = .ok (.aaload, 1) := by decide +kernel
theorem dX7_rowsAt_28 : decode cX7_rowsAt 28 = .ok (.goto 4, 3) := by decide +kernel
theorem dX7_rowsAt_31 : decode cX7_rowsAt 31 = .ok (.aconst_null, 1) := by decide +kernel
theorem dX7_rowsAt_32 : decode cX7_rowsAt 32 = .ok (.areturn, 1) := by decide +kernel
abbrev rmX7_rowsAt : Room := { frames := 2, cells := 0, slots := 0, locals := 43 }
def fX7_rowsAt (a0 : Nat) (l1 : Int32) (l2 : Int32) (z : AH) : Option (Option Nat) :=
  if isO 6 z a0 = true then
    if l2 < (0 : Int32) then (
      some none
    ) else (
      (fX7_sizeOf a0 l1 z).bind fun x7 =>
      if x7 ≤ l2 then (
        some none
      ) else (
        if (2 : Int32) ≤ l2 then (
          some none
        ) else (
          (gN 6 6 z a0).bind fun b19 =>
          (ixQ 4 z b19 (((2 : Int32) * l1) + l2)).bind fun q27_ =>
          some q27_
        )
      )
    )
  else none
set_option maxHeartbeats 4000000 in
set_option maxRecDepth 100000 in
theorem ctX7_rowsAt (l : Launch) (G : GW) (a0 : Nat) (l1 : Int32) (l2 : Int32) (z : AH) {r : Option Nat} (h : fX7_rowsAt a0 l1 l2 z = some r) : Met l yX7_rowsAt (wy yX7_rowsAt cX7_rowsAt 3 (some (.object "PairedViews$Rows"))) rmX7_rowsAt (Pz G [.ref (gB G + a0), .int l1, .int l2] z) (Qq G r z) 0 0 (AA G) := by
  refine wz_ent (own := RX7) (by decide +kernel) rfl (fun p e s m below meth c ls C hlk hr hin hW hl => ?_) (Nat.le_of_ble_eq_true rfl)
  have hl : lv_has ls 3 [(0, .ref (gB G + a0)), (1, .int l1), (2, .int l2)] := hl
  have hx := C.1
  have hb := C.2.1
  unfold fX7_rowsAt at h
  obtain ⟨-, h⟩ := ck h
  refine lv_iload_n hx hb dX7_rowsAt_0 rfl (lv_at hl 2 rfl) ?_
  refine lv_if_lt (tgt := 31) hx hb dX7_rowsAt_1 (by decide) (fun c1 => ?_) (fun c1 => ?_)
  · have h := ite_t c1 h
    refine lv_null hx hb dX7_rowsAt_31 ?_
    exact wz_qretE (x := none) C hlk hr (Option.some.inj h) rfl hW dX7_rowsAt_32
  · have h := ite_f c1 h
    refine lv_iload_n hx hb dX7_rowsAt_4 rfl (lv_at hl 2 rfl) ?_
    refine lv_aload_n hx hb dX7_rowsAt_5 rfl (lv_at hl 0 rfl) ?_
    refine lv_iload_n hx hb dX7_rowsAt_6 rfl (lv_at hl 1 rfl) ?_
    obtain ⟨x7, hq, h⟩ := ob h
    refine wz_rI (c' := 0) (s' := 0) hW (wz_runV (rest := [.int l2]) C hW lVX7_45 (ck hq).1 rfl (ctX7_sizeOf l G a0 l1 z hq) ⟨⟨rfl, rfl⟩, Nat.le_of_ble_eq_true rfl, Nat.le_of_ble_eq_true rfl⟩ rfl hl.1 rfl (Nat.le_of_ble_eq_true rfl) dX7_rowsAt_7 ⟨Nat.le_of_ble_eq_true rfl, Nat.le_of_ble_eq_true rfl⟩) rfl rfl (fun H locs hW => ?_)
    refine lv_icmp_ge (tgt := 31) hx hb dX7_rowsAt_10 (by decide) (fun c10 => ?_) (fun c10 => ?_)
    · have h := ite_t c10 h
      refine lv_null hx hb dX7_rowsAt_31 ?_
      exact wz_qretE (x := none) C hlk hr (Option.some.inj h) rfl hW dX7_rowsAt_32
    · have h := ite_f c10 h
      refine lv_iload_n hx hb dX7_rowsAt_13 rfl (lv_at hl 2 rfl) ?_
      refine lv_iconst (v := 2) hx hb dX7_rowsAt_14 (by decide) ?_
      refine lv_icmp_ge (tgt := 31) hx hb dX7_rowsAt_15 (by decide) (fun c15 => ?_) (fun c15 => ?_)
      · have h := ite_t c15 h
        refine lv_null hx hb dX7_rowsAt_31 ?_
        exact wz_qretE (x := none) C hlk hr (Option.some.inj h) rfl hW dX7_rowsAt_32
      · have h := ite_f c15 h
        refine lv_aload_n hx hb dX7_rowsAt_18 rfl (lv_at hl 0 rfl) ?_
        obtain ⟨b19, hg, h⟩ := ob h
        refine wz_gN C hW flX7_37 hg dX7_rowsAt_19 ?_
        refine lv_iconst (v := 2) hx hb dX7_rowsAt_22 (by decide) ?_
        refine lv_iload_n hx hb dX7_rowsAt_23 rfl (lv_at hl 1 rfl) ?_
        refine lv_imul hx hb dX7_rowsAt_24 ?_
        refine lv_iload_n hx hb dX7_rowsAt_25 rfl (lv_at hl 2 rfl) ?_
        refine lv_iadd hx hb dX7_rowsAt_26 ?_
        obtain ⟨q27_, hg, h⟩ := ob h
        refine wz_qld (Or.inr (Or.inl rfl)) C hW hg dX7_rowsAt_27 ?_
        refine lv_goto (tgt := 32) hx hb dX7_rowsAt_28 (by decide) ?_
        exact wz_qretE (x := q27_) C hlk hr (Option.some.inj h) rfl hW dX7_rowsAt_32
theorem dX7_grow_0 : decode cX7_grow 0 = .ok (.iload_n 2, 1) := by decide +kernel
theorem dX7_grow_1 : decode cX7_grow 1 = .ok (.aload_n 0, 1) := by decide +kernel
theorem dX7_grow_2 : decode cX7_grow 2 = .ok (.getfield 25, 3) := by decide +kernel
theorem dX7_grow_5 : decode cX7_grow 5 = .ok (.iload_n 1, 1) := by decide +kernel
theorem dX7_grow_6 : decode cX7_grow 6 = .ok (.iaload, 1) := by decide +kernel
theorem dX7_grow_7 : decode cX7_grow 7 = .ok (.if_icmp .ne 13, 3) := by decide +kernel
theorem dX7_grow_10 : decode cX7_grow 10 = .ok (.aload_n 0, 1) := by decide +kernel
theorem dX7_grow_11 : decode cX7_grow 11 = .ok (.getfield 25, 3) := by decide +kernel
theorem dX7_grow_14 : decode cX7_grow 14 = .ok (.iload_n 1, 1) := by decide +kernel
theorem dX7_grow_15 : decode cX7_grow 15 = .ok (.dup2, 1) := by decide +kernel
theorem dX7_grow_16 : decode cX7_grow 16 = .ok (.iaload, 1) := by decide +kernel
theorem dX7_grow_17 : decode cX7_grow 17 = .ok (.iconst 1, 1) := by decide +kernel
theorem dX7_grow_18 : decode cX7_grow 18 = .ok (.iadd, 1) := by decide +kernel
theorem dX7_grow_19 : decode cX7_grow 19 = .ok (.iastore, 1) := by decide +kernel
theorem dX7_grow_20 : decode cX7_grow 20 = .ok (.return_, 1) := by decide +kernel
abbrev rmX7_grow : Room := { frames := 0, cells := 0, slots := 0, locals := 0 }
def fX7_grow (a0 : Nat) (l1 : Int32) (l2 : Int32) (z : AH) : Option AH :=
  if isO 6 z a0 = true then
    (gN 6 4 z a0).bind fun b2 =>
    (ixI 0 z b2 l1).bind fun x6 =>
    if l2 = x6 then (
      (gN 6 4 z a0).bind fun b11 =>
      (ixI 0 z b11 l1).bind fun x16 =>
      (stI 0 z b11 l1 (x16 + (1 : Int32))).bind fun z19 =>
      some z19
    ) else (
      some z
    )
  else none
set_option maxHeartbeats 4000000 in
set_option maxRecDepth 100000 in
theorem ctX7_grow (l : Launch) (G : GW) (a0 : Nat) (l1 : Int32) (l2 : Int32) (z : AH) {z' : AH} (h : fX7_grow a0 l1 l2 z = some z') : Met l yX7_grow (wy yX7_grow cX7_grow 3 none) rmX7_grow (Pz G [.ref (gB G + a0), .int l1, .int l2] z) (Qv G z') 0 0 (AA G) := by
  refine wz_ent (own := RX7) (by decide +kernel) rfl (fun p e s m below meth c ls C hlk hr hin hW hl => ?_) (Nat.le_of_ble_eq_true rfl)
  have hl : lv_has ls 3 [(0, .ref (gB G + a0)), (1, .int l1), (2, .int l2)] := hl
  have hx := C.1
  have hb := C.2.1
  unfold fX7_grow at h
  obtain ⟨-, h⟩ := ck h
  refine lv_iload_n hx hb dX7_grow_0 rfl (lv_at hl 2 rfl) ?_
  refine lv_aload_n hx hb dX7_grow_1 rfl (lv_at hl 0 rfl) ?_
  obtain ⟨b2, hg, h⟩ := ob h
  refine wz_gN C hW flX7_25 hg dX7_grow_2 ?_
  refine lv_iload_n hx hb dX7_grow_5 rfl (lv_at hl 1 rfl) ?_
  obtain ⟨x6, hg, h⟩ := ob h
  refine wz_ald C hW hg dX7_grow_6 ?_
  refine lv_icmp_ne (tgt := 20) hx hb dX7_grow_7 (by decide) (fun c7 => ?_) (fun c7 => ?_)
  · have h := ite_f c7 h
    exact wz_vretE C hlk hr (Option.some.inj h) hW dX7_grow_20
  · have h := ite_t c7 h
    refine lv_aload_n hx hb dX7_grow_10 rfl (lv_at hl 0 rfl) ?_
    obtain ⟨b11, hg, h⟩ := ob h
    refine wz_gN C hW flX7_25 hg dX7_grow_11 ?_
    refine lv_iload_n hx hb dX7_grow_14 rfl (lv_at hl 1 rfl) ?_
    refine lv_dup2_11 hx hb dX7_grow_15 rfl rfl ?_
    obtain ⟨x16, hg, h⟩ := ob h
    refine wz_ald C hW hg dX7_grow_16 ?_
    refine lv_iconst (v := 1) hx hb dX7_grow_17 (by decide) ?_
    refine lv_iadd hx hb dX7_grow_18 ?_
    obtain ⟨z19, hg, h⟩ := ob h
    refine wz_ast C hW hg dX7_grow_19 (fun H locs hW => ?_)
    exact wz_vretE C hlk hr (Option.some.inj h) hW dX7_grow_20
theorem lVX7_49 : LV RX7 49 yX7_grow cX7_grow 3 none 2 := ⟨tw 716 (by decide +kernel) rfl, tw 718 (by decide +kernel) rfl, tw 13 (by decide +kernel) rfl, tw 122 (by decide +kernel) rfl, tw 719 (by decide +kernel) rfl, ⟨by decide +kernel, by decide +kernel, by decide +kernel⟩⟩
theorem dX7_putCountry_0 : decode cX7_putCountry 0 = .ok (.iload_n 1, 1) := by decide +kernel
theorem dX7_putCountry_1 : decode cX7_putCountry 1 = .ok (.ifCond .lt 21, 3) := by decide +kernel
theorem dX7_putCountry_4 : decode cX7_putCountry 4 = .ok (.iload_n 1, 1) := by decide +kernel
theorem dX7_putCountry_5 : decode cX7_putCountry 5 = .ok (.iconst 2, 1) := by decide +kernel
theorem dX7_putCountry_6 : decode cX7_putCountry 6 = .ok (.if_icmp .ge 16, 3) := by decide +kernel
theorem dX7_putCountry_9 : decode cX7_putCountry 9 = .ok (.aload_n 0, 1) := by decide +kernel
theorem dX7_putCountry_10 : decode cX7_putCountry 10 = .ok (.getfield 31, 3) := by decide +kernel
theorem dX7_putCountry_13 : decode cX7_putCountry 13 = .ok (.iload_n 1, 1) := by decide +kernel
theorem dX7_putCountry_14 : decode cX7_putCountry 14 = .ok (.aload_n 2, 1) := by decide +kernel
theorem dX7_putCountry_15 : decode cX7_putCountry 15 = .ok (.aastore, 1) := by decide +kernel
theorem dX7_putCountry_16 : decode cX7_putCountry 16 = .ok (.aload_n 0, 1) := by decide +kernel
theorem dX7_putCountry_17 : decode cX7_putCountry 17 = .ok (.iconst 0, 1) := by decide +kernel
theorem dX7_putCountry_18 : decode cX7_putCountry 18 = .ok (.iload_n 1, 1) := by decide +kernel
theorem dX7_putCountry_19 : decode cX7_putCountry 19 = .ok (.invokevirtual 49, 3) := by decide +kernel
theorem dX7_putCountry_22 : decode cX7_putCountry 22 = .ok (.return_, 1) := by decide +kernel
abbrev rmX7_putCountry : Room := { frames := 1, cells := 0, slots := 0, locals := 22 }
def fX7_putCountry (a0 : Nat) (l1 : Int32) (a2 : Nat) (z : AH) : Option AH :=
  if isO 6 z a0 = true then
    if l1 < (0 : Int32) then (
      some z
    ) else (
      if (2 : Int32) ≤ l1 then (
        some z
      ) else (
        (gN 6 5 z a0).bind fun b10 =>
        (stQ 0 z b10 l1 (some a2)).bind fun z15 =>
        (fX7_grow a0 (0 : Int32) l1 z15).bind fun z19 =>
        some z19
      )
    )
  else none
set_option maxHeartbeats 4000000 in
set_option maxRecDepth 100000 in
theorem ctX7_putCountry (l : Launch) (G : GW) (a0 : Nat) (l1 : Int32) (a2 : Nat) (z : AH) {z' : AH} (h : fX7_putCountry a0 l1 a2 z = some z') : Met l yX7_putCountry (wy yX7_putCountry cX7_putCountry 3 none) rmX7_putCountry (Pz G [.ref (gB G + a0), .int l1, .ref (gB G + a2)] z) (Qv G z') 0 0 (AA G) := by
  refine wz_ent (own := RX7) (by decide +kernel) rfl (fun p e s m below meth c ls C hlk hr hin hW hl => ?_) (Nat.le_of_ble_eq_true rfl)
  have hl : lv_has ls 3 [(0, .ref (gB G + a0)), (1, .int l1), (2, .ref (gB G + a2))] := hl
  have hx := C.1
  have hb := C.2.1
  unfold fX7_putCountry at h
  obtain ⟨-, h⟩ := ck h
  refine lv_iload_n hx hb dX7_putCountry_0 rfl (lv_at hl 1 rfl) ?_
  refine lv_if_lt (tgt := 22) hx hb dX7_putCountry_1 (by decide) (fun c1 => ?_) (fun c1 => ?_)
  · have h := ite_t c1 h
    exact wz_vretE C hlk hr (Option.some.inj h) hW dX7_putCountry_22
  · have h := ite_f c1 h
    refine lv_iload_n hx hb dX7_putCountry_4 rfl (lv_at hl 1 rfl) ?_
    refine lv_iconst (v := 2) hx hb dX7_putCountry_5 (by decide) ?_
    refine lv_icmp_ge (tgt := 22) hx hb dX7_putCountry_6 (by decide) (fun c6 => ?_) (fun c6 => ?_)
    · have h := ite_t c6 h
      exact wz_vretE C hlk hr (Option.some.inj h) hW dX7_putCountry_22
    · have h := ite_f c6 h
      refine lv_aload_n hx hb dX7_putCountry_9 rfl (lv_at hl 0 rfl) ?_
      obtain ⟨b10, hg, h⟩ := ob h
      refine wz_gN C hW flX7_31 hg dX7_putCountry_10 ?_
      refine lv_iload_n hx hb dX7_putCountry_13 rfl (lv_at hl 1 rfl) ?_
      refine lv_aload_n hx hb dX7_putCountry_14 rfl (lv_at hl 2 rfl) ?_
      obtain ⟨z15, hg, h⟩ := ob h
      refine wz_qst (Or.inl rfl) C hW hg dX7_putCountry_15 (fun H locs hW => ?_)
      refine lv_aload_n hx hb dX7_putCountry_16 rfl (lv_at hl 0 rfl) ?_
      refine lv_iconst (v := 0) hx hb dX7_putCountry_17 (by decide) ?_
      refine lv_iload_n hx hb dX7_putCountry_18 rfl (lv_at hl 1 rfl) ?_
      obtain ⟨z19, hq, h⟩ := ob h
      refine wz_rV (c' := 0) (s' := 0) hW (wz_runV (rest := []) C hW lVX7_49 (ck hq).1 rfl (ctX7_grow l G a0 (0 : Int32) l1 z15 hq) ⟨⟨rfl, rfl⟩, Nat.le_of_ble_eq_true rfl, Nat.le_of_ble_eq_true rfl⟩ rfl hl.1 rfl (Nat.le_of_ble_eq_true rfl) dX7_putCountry_19 ⟨Nat.le_of_ble_eq_true rfl, Nat.le_of_ble_eq_true rfl⟩) rfl rfl (fun H locs hW => ?_)
      exact wz_vretE C hlk hr (Option.some.inj h) hW dX7_putCountry_22
theorem dX7_putRows_0 : decode cX7_putRows 0 = .ok (.iload_n 1, 1) := by decide +kernel
theorem dX7_putRows_1 : decode cX7_putRows 1 = .ok (.ifCond .lt 34, 3) := by decide +kernel
theorem dX7_putRows_4 : decode cX7_putRows 4 = .ok (.iload_n 1, 1) := by decide +kernel
theorem dX7_putRows_5 : decode cX7_putRows 5 = .ok (.iconst 4, 1) := by decide +kernel
theorem dX7_putRows_6 : decode cX7_putRows 6 = .ok (.if_icmp .ge 29, 3) := by decide +kernel
theorem dX7_putRows_9 : decode cX7_putRows 9 = .ok (.iload_n 2, 1) := by decide +kernel
theorem dX7_putRows_10 : decode cX7_putRows 10 = .ok (.ifCond .lt 25, 3) := by decide +kernel
theorem dX7_putRows_13 : decode cX7_putRows 13 = .ok (.iload_n 2, 1) := by decide +kernel
theorem dX7_putRows_14 : decode cX7_putRows 14 = .ok (.iconst 2, 1) := by decide +kernel
theorem dX7_putRows_15 : decode cX7_putRows 15 = .ok (.if_icmp .ge 20, 3) := by decide +kernel
theorem dX7_putRows_18 : decode cX7_putRows 18 = .ok (.aload_n 0, 1) := by decide +kernel
theorem dX7_putRows_19 : decode cX7_putRows 19 = .ok (.getfield 37, 3) := by decide +kernel
theorem dX7_putRows_22 : decode cX7_putRows 22 = .ok (.iconst 2, 1) := by decide +kernel
theorem dX7_putRows_23 : decode cX7_putRows 23 = .ok (.iload_n 1, 1) := by decide +kernel
theorem dX7_putRows_24 : decode cX7_putRows 24 = .ok (.imul, 1) := by decide +kernel
theorem dX7_putRows_25 : decode cX7_putRows 25 = .ok (.iload_n 2, 1) := by decide +kernel
theorem dX7_putRows_26 : decode cX7_putRows 26 = .ok (.iadd, 1) := by decide +kernel
theorem dX7_putRows_27 : decode cX7_putRows 27 = .ok (.aload_n 3, 1) := by decide +kernel
theorem dX7_putRows_28 : decode cX7_putRows 28 = .ok (.aastore, 1) := by decide +kernel
theorem dX7_putRows_29 : decode cX7_putRows 29 = .ok (.aload_n 0, 1) := by decide +kernel
theorem dX7_putRows_30 : decode cX7_putRows 30 = .ok (.iload_n 1, 1) := by decide +kernel
theorem dX7_putRows_31 : decode cX7_putRows 31 = .ok (.iload_n 2, 1) := by decide +kernel
theorem dX7_putRows_32 : decode cX7_putRows 32 = .ok (.invokevirtual 49, 3) := by decide +kernel
theorem dX7_putRows_35 : decode cX7_putRows 35 = .ok (.return_, 1) := by decide +kernel
abbrev rmX7_putRows : Room := { frames := 1, cells := 0, slots := 0, locals := 22 }
def fX7_putRows (a0 : Nat) (l1 : Int32) (l2 : Int32) (a3 : Nat) (z : AH) : Option AH :=
  if isO 6 z a0 = true then
    if l1 < (0 : Int32) then (
      some z
    ) else (
      if (4 : Int32) ≤ l1 then (
        some z
      ) else (
        if l2 < (0 : Int32) then (
          some z
        ) else (
          if (2 : Int32) ≤ l2 then (
            some z
          ) else (
            (gN 6 6 z a0).bind fun b19 =>
            (stQ 4 z b19 (((2 : Int32) * l1) + l2) (some a3)).bind fun z28 =>
            (fX7_grow a0 l1 l2 z28).bind fun z32 =>
            some z32
          )
        )
      )
    )
  else none
set_option maxHeartbeats 4000000 in
set_option maxRecDepth 100000 in
theorem ctX7_putRows (l : Launch) (G : GW) (a0 : Nat) (l1 : Int32) (l2 : Int32) (a3 : Nat) (z : AH) {z' : AH} (h : fX7_putRows a0 l1 l2 a3 z = some z') : Met l yX7_putRows (wy yX7_putRows cX7_putRows 4 none) rmX7_putRows (Pz G [.ref (gB G + a0), .int l1, .int l2, .ref (gB G + a3)] z) (Qv G z') 0 0 (AA G) := by
  refine wz_ent (own := RX7) (by decide +kernel) rfl (fun p e s m below meth c ls C hlk hr hin hW hl => ?_) (Nat.le_of_ble_eq_true rfl)
  have hl : lv_has ls 4 [(0, .ref (gB G + a0)), (1, .int l1), (2, .int l2), (3, .ref (gB G + a3))] := hl
  have hx := C.1
  have hb := C.2.1
  unfold fX7_putRows at h
  obtain ⟨-, h⟩ := ck h
  refine lv_iload_n hx hb dX7_putRows_0 rfl (lv_at hl 1 rfl) ?_
  refine lv_if_lt (tgt := 35) hx hb dX7_putRows_1 (by decide) (fun c1 => ?_) (fun c1 => ?_)
  · have h := ite_t c1 h
    exact wz_vretE C hlk hr (Option.some.inj h) hW dX7_putRows_35
  · have h := ite_f c1 h
    refine lv_iload_n hx hb dX7_putRows_4 rfl (lv_at hl 1 rfl) ?_
    refine lv_iconst (v := 4) hx hb dX7_putRows_5 (by decide) ?_
    refine lv_icmp_ge (tgt := 35) hx hb dX7_putRows_6 (by decide) (fun c6 => ?_) (fun c6 => ?_)
    · have h := ite_t c6 h
      exact wz_vretE C hlk hr (Option.some.inj h) hW dX7_putRows_35
    · have h := ite_f c6 h
      refine lv_iload_n hx hb dX7_putRows_9 rfl (lv_at hl 2 rfl) ?_
      refine lv_if_lt (tgt := 35) hx hb dX7_putRows_10 (by decide) (fun c10 => ?_) (fun c10 => ?_)
      · have h := ite_t c10 h
        exact wz_vretE C hlk hr (Option.some.inj h) hW dX7_putRows_35
      · have h := ite_f c10 h
        refine lv_iload_n hx hb dX7_putRows_13 rfl (lv_at hl 2 rfl) ?_
        refine lv_iconst (v := 2) hx hb dX7_putRows_14 (by decide) ?_
        refine lv_icmp_ge (tgt := 35) hx hb dX7_putRows_15 (by decide) (fun c15 => ?_) (fun c15 => ?_)
        · have h := ite_t c15 h
          exact wz_vretE C hlk hr (Option.some.inj h) hW dX7_putRows_35
        · have h := ite_f c15 h
          refine lv_aload_n hx hb dX7_putRows_18 rfl (lv_at hl 0 rfl) ?_
          obtain ⟨b19, hg, h⟩ := ob h
          refine wz_gN C hW flX7_37 hg dX7_putRows_19 ?_
          refine lv_iconst (v := 2) hx hb dX7_putRows_22 (by decide) ?_
          refine lv_iload_n hx hb dX7_putRows_23 rfl (lv_at hl 1 rfl) ?_
          refine lv_imul hx hb dX7_putRows_24 ?_
          refine lv_iload_n hx hb dX7_putRows_25 rfl (lv_at hl 2 rfl) ?_
          refine lv_iadd hx hb dX7_putRows_26 ?_
          refine lv_aload_n hx hb dX7_putRows_27 rfl (lv_at hl 3 rfl) ?_
          obtain ⟨z28, hg, h⟩ := ob h
          refine wz_qst (Or.inr (Or.inl rfl)) C hW hg dX7_putRows_28 (fun H locs hW => ?_)
          refine lv_aload_n hx hb dX7_putRows_29 rfl (lv_at hl 0 rfl) ?_
          refine lv_iload_n hx hb dX7_putRows_30 rfl (lv_at hl 1 rfl) ?_
          refine lv_iload_n hx hb dX7_putRows_31 rfl (lv_at hl 2 rfl) ?_
          obtain ⟨z32, hq, h⟩ := ob h
          refine wz_rV (c' := 0) (s' := 0) hW (wz_runV (rest := []) C hW lVX7_49 (ck hq).1 rfl (ctX7_grow l G a0 l1 l2 z28 hq) ⟨⟨rfl, rfl⟩, Nat.le_of_ble_eq_true rfl, Nat.le_of_ble_eq_true rfl⟩ rfl hl.1 rfl (Nat.le_of_ble_eq_true rfl) dX7_putRows_32 ⟨Nat.le_of_ble_eq_true rfl, Nat.le_of_ble_eq_true rfl⟩) rfl rfl (fun H locs hW => ?_)
          exact wz_vretE C hlk hr (Option.some.inj h) hW dX7_putRows_35
theorem dX7_copy_0 : decode cX7_copy 0 = .ok (.aload_n 1, 1) := by decide +kernel
theorem dX7_copy_1 : decode cX7_copy 1 = .ok (.getfield 11, 3) := by decide +kernel
theorem dX7_copy_4 : decode cX7_copy 4 = .ok (.iconst 0, 1) := by decide +kernel
theorem dX7_copy_5 : decode cX7_copy 5 = .ok (.aload_n 0, 1) := by decide +kernel
theorem dX7_copy_6 : decode cX7_copy 6 = .ok (.getfield 11, 3) := by decide +kernel
theorem dX7_copy_9 : decode cX7_copy 9 = .ok (.iconst 0, 1) := by decide +kernel
theorem dX7_copy_10 : decode cX7_copy 10 = .ok (.sipush 600, 3) := by decide +kernel
theorem dX7_copy_13 : decode cX7_copy 13 = .ok (.invokestatic 53, 3) := by decide +kernel
theorem dX7_copy_16 : decode cX7_copy 16 = .ok (.aload_n 0, 1) := by decide +kernel
theorem dX7_copy_17 : decode cX7_copy 17 = .ok (.aload_n 1, 1) := by decide +kernel
theorem dX7_copy_18 : decode cX7_copy 18 = .ok (.getfield 15, 3) := by decide +kernel
theorem dX7_copy_21 : decode cX7_copy 21 = .ok (.putfield 15, 3) := by decide +kernel
theorem dX7_copy_24 : decode cX7_copy 24 = .ok (.aload_n 0, 1) := by decide +kernel
theorem dX7_copy_25 : decode cX7_copy 25 = .ok (.aload_n 1, 1) := by decide +kernel
theorem dX7_copy_26 : decode cX7_copy 26 = .ok (.getfield 19, 3) := by decide +kernel
theorem dX7_copy_29 : decode cX7_copy 29 = .ok (.putfield 19, 3) := by decide +kernel
theorem dX7_copy_32 : decode cX7_copy 32 = .ok (.aload_n 0, 1) := by decide +kernel
theorem dX7_copy_33 : decode cX7_copy 33 = .ok (.aload_n 1, 1) := by decide +kernel
theorem dX7_copy_34 : decode cX7_copy 34 = .ok (.getfield 22, 3) := by decide +kernel
theorem dX7_copy_37 : decode cX7_copy 37 = .ok (.putfield 22, 3) := by decide +kernel
theorem dX7_copy_40 : decode cX7_copy 40 = .ok (.aload_n 1, 1) := by decide +kernel
theorem dX7_copy_41 : decode cX7_copy 41 = .ok (.getfield 25, 3) := by decide +kernel
theorem dX7_copy_44 : decode cX7_copy 44 = .ok (.iconst 0, 1) := by decide +kernel
theorem dX7_copy_45 : decode cX7_copy 45 = .ok (.aload_n 0, 1) := by decide +kernel
theorem dX7_copy_46 : decode cX7_copy 46 = .ok (.getfield 25, 3) := by decide +kernel
theorem dX7_copy_49 : decode cX7_copy 49 = .ok (.iconst 0, 1) := by decide +kernel
theorem dX7_copy_50 : decode cX7_copy 50 = .ok (.iconst 4, 1) := by decide +kernel
theorem dX7_copy_51 : decode cX7_copy 51 = .ok (.invokestatic 53, 3) := by decide +kernel
theorem dX7_copy_54 : decode cX7_copy 54 = .ok (.iconst 0, 1) := by decide +kernel
theorem dX7_copy_55 : decode cX7_copy 55 = .ok (.istore_n 2, 1) := by decide +kernel
theorem dX7_copy_56 : decode cX7_copy 56 = .ok (.iload_n 2, 1) := by decide +kernel
theorem dX7_copy_57 : decode cX7_copy 57 = .ok (.iconst 2, 1) := by decide +kernel
theorem dX7_copy_58 : decode cX7_copy 58 = .ok (.if_icmp .ge 21, 3) := by decide +kernel
theorem dX7_copy_61 : decode cX7_copy 61 = .ok (.aload_n 0, 1) := by decide +kernel
theorem dX7_copy_62 : decode cX7_copy 62 = .ok (.getfield 31, 3) := by decide +kernel
theorem dX7_copy_65 : decode cX7_copy 65 = .ok (.iload_n 2, 1) := by decide +kernel
theorem dX7_copy_66 : decode cX7_copy 66 = .ok (.aload_n 1, 1) := by decide +kernel
theorem dX7_copy_67 : decode cX7_copy 67 = .ok (.getfield 31, 3) := by decide +kernel
theorem dX7_copy_70 : decode cX7_copy 70 = .ok (.iload_n 2, 1) := by decide +kernel
theorem dX7_copy_71 : decode cX7_copy 71 = .ok (.aaload, 1) := by decide +kernel
theorem dX7_copy_72 : decode cX7_copy 72 = .ok (.aastore, 1) := by decide +kernel
theorem dX7_copy_73 : decode cX7_copy 73 = .ok (.iinc 2 1, 3) := by decide +kernel
theorem dX7_copy_76 : decode cX7_copy 76 = .ok (.goto (-20), 3) := by decide +kernel
theorem dX7_copy_79 : decode cX7_copy 79 = .ok (.iconst 0, 1) := by decide +kernel
theorem dX7_copy_80 : decode cX7_copy 80 = .ok (.istore_n 2, 1) := by decide +kernel
theorem dX7_copy_81 : decode cX7_copy 81 = .ok (.iload_n 2, 1) := by decide +kernel
theorem dX7_copy_82 : decode cX7_copy 82 = .ok (.bipush 8, 2) := by decide +kernel
theorem dX7_copy_84 : decode cX7_copy 84 = .ok (.if_icmp .ge 21, 3) := by decide +kernel
theorem dX7_copy_87 : decode cX7_copy 87 = .ok (.aload_n 0, 1) := by decide +kernel
theorem dX7_copy_88 : decode cX7_copy 88 = .ok (.getfield 37, 3) := by decide +kernel
theorem dX7_copy_91 : decode cX7_copy 91 = .ok (.iload_n 2, 1) := by decide +kernel
theorem dX7_copy_92 : decode cX7_copy 92 = .ok (.aload_n 1, 1) := by decide +kernel
theorem dX7_copy_93 : decode cX7_copy 93 = .ok (.getfield 37, 3) := by decide +kernel
theorem dX7_copy_96 : decode cX7_copy 96 = .ok (.iload_n 2, 1) := by decide +kernel
theorem dX7_copy_97 : decode cX7_copy 97 = .ok (.aaload, 1) := by decide +kernel
theorem dX7_copy_98 : decode cX7_copy 98 = .ok (.aastore, 1) := by decide +kernel
theorem dX7_copy_99 : decode cX7_copy 99 = .ok (.iinc 2 1, 3) := by decide +kernel
theorem dX7_copy_102 : decode cX7_copy 102 = .ok (.goto (-21), 3) := by decide +kernel
theorem dX7_copy_105 : decode cX7_copy 105 = .ok (.return_, 1) := by decide +kernel
abbrev rmX7_copy : Room := { frames := 1, cells := 0, slots := 0, locals := 80 }
def bX7_copy_81 (k81 : Nat → Nat → Int32 → AH → Option AH) (a0 : Nat) (a1 : Nat) (l2 : Int32) (z : AH) : Option AH :=
  if (8 : Int32) ≤ l2 then (
    some z
  ) else (
    (gN 6 6 z a0).bind fun b88 =>
    (gN 6 6 z a1).bind fun b93 =>
    (ixQ 4 z b93 l2).bind fun q97_ =>
    (stQ 4 z b88 l2 q97_).bind fun z98 =>
    nm (l2 + (1 : Int32)) fun v99 =>
    k81 a0 a1 v99 z98
  )
set_option maxHeartbeats 4000000 in
set_option maxRecDepth 100000 in
theorem kbX7_copy_81 {p : Program} {l : Launch} {e : Env} {s : State} {m : MethodId} {args : Array Value} {below : List Frame} {meth : Method} {c : Code} {G : GW} {z' : AH} (C : Cx p m c cX7_copy 3 s args RX7 G) (hlk : meth.locks = false) (hr : meth.sig.returnType = none) (k81 : Nat → Nat → Int32 → AH → Option AH) (hk81 : ∀ (a0 : Nat) (a1 : Nat) (l2 : Int32) (z : AH) (H : Heap) (locs : List Loc) (ls : Array Slot), k81 a0 a1 l2 z = some z' → Wb G z s H locs → lv_has ls 3 [(0, .ref (gB G + a0)), (1, .ref (gB G + a1)), (2, .int l2)] → W p l e rmX7_copy s m args below meth c H locs 0 0 (MQ below (Qv G z') args s 0 0 (AA G)) (F0 m 81 ls [])) (a0 : Nat) (a1 : Nat) (l2 : Int32) {z : AH} {H : Heap} {locs : List Loc} {ls : Array Slot} (h : bX7_copy_81 k81 a0 a1 l2 z = some z') (hW : Wb G z s H locs) (hl : lv_has ls 3 [(0, .ref (gB G + a0)), (1, .ref (gB G + a1)), (2, .int l2)]) : W p l e rmX7_copy s m args below meth c H locs 0 0 (MQ below (Qv G z') args s 0 0 (AA G)) (F0 m 81 ls []) := by
  have hx := C.1
  have hb := C.2.1
  unfold bX7_copy_81 at h
  refine lv_iload_n hx hb dX7_copy_81 rfl (lv_at hl 2 rfl) ?_
  refine lv_bipush (v := 8) hx hb dX7_copy_82 (by decide) ?_
  refine lv_icmp_ge (tgt := 105) hx hb dX7_copy_84 (by decide) (fun c84 => ?_) (fun c84 => ?_)
  · have h := ite_t c84 h
    exact wz_vretE C hlk hr (Option.some.inj h) hW dX7_copy_105
  · have h := ite_f c84 h
    refine lv_aload_n hx hb dX7_copy_87 rfl (lv_at hl 0 rfl) ?_
    obtain ⟨b88, hg, h⟩ := ob h
    refine wz_gN C hW flX7_37 hg dX7_copy_88 ?_
    refine lv_iload_n hx hb dX7_copy_91 rfl (lv_at hl 2 rfl) ?_
    refine lv_aload_n hx hb dX7_copy_92 rfl (lv_at hl 1 rfl) ?_
    obtain ⟨b93, hg, h⟩ := ob h
    refine wz_gN C hW flX7_37 hg dX7_copy_93 ?_
    refine lv_iload_n hx hb dX7_copy_96 rfl (lv_at hl 2 rfl) ?_
    obtain ⟨q97_, hg, h⟩ := ob h
    refine wz_qld (Or.inr (Or.inl rfl)) C hW hg dX7_copy_97 ?_
    obtain ⟨z98, hg, h⟩ := ob h
    refine wz_qstR (Or.inr (Or.inl rfl)) C hW hg dX7_copy_98 (fun H locs hW => ?_)
    obtain ⟨v99, ev99⟩ : ∃ y : Int32, y = (l2 + (1 : Int32)) := ⟨_, rfl⟩
    have h := nm_to h ev99
    refine lv_iinc (v := v99) (lv' := [(2, .int v99), (0, .ref (gB G + a0)), (1, .ref (gB G + a1))]) hx hb dX7_copy_99 hl (k := 2) rfl (by rw [ev99]; rfl) (by decide) rfl (fun ls hl => ?_)
    refine lv_goto (tgt := 81) hx hb dX7_copy_102 (by decide) ?_
    exact hk81 a0 a1 v99 z98 _ _ _ h hW (lv_sub hl [1, 2, 0] rfl)
def fX7_copy_81 : Nat → Nat → Nat → Int32 → AH → Option AH
  | 0, _, _, _, _ => none
  | n + 1, a0, a1, l2, z => bX7_copy_81 (fX7_copy_81 n) a0 a1 l2 z
theorem klX7_copy_81 {p : Program} {l : Launch} {e : Env} {s : State} {m : MethodId} {args : Array Value} {below : List Frame} {meth : Method} {c : Code} {G : GW} {z' : AH} (C : Cx p m c cX7_copy 3 s args RX7 G) (hlk : meth.locks = false) (hr : meth.sig.returnType = none) : ∀ (n : Nat) (a0 : Nat) (a1 : Nat) (l2 : Int32) (z : AH) (H : Heap) (locs : List Loc) (ls : Array Slot), fX7_copy_81 n a0 a1 l2 z = some z' → Wb G z s H locs → lv_has ls 3 [(0, .ref (gB G + a0)), (1, .ref (gB G + a1)), (2, .int l2)] → W p l e rmX7_copy s m args below meth c H locs 0 0 (MQ below (Qv G z') args s 0 0 (AA G)) (F0 m 81 ls []) := by
  intro n
  induction n with
  | zero => intro a0 a1 l2 z H locs ls h; have h : (none : Option AH) = some z' := h; cases h
  | succ n ih => intro a0 a1 l2 z H locs ls h hW hl; exact kbX7_copy_81 C hlk hr (fX7_copy_81 n) (fun a0 a1 l2 z H locs ls h hW hl => ih a0 a1 l2 z H locs ls h hW hl) a0 a1 l2 h hW hl
def bX7_copy_56 (k56 : Nat → Nat → Int32 → AH → Option AH) (a0 : Nat) (a1 : Nat) (l2 : Int32) (z : AH) : Option AH :=
  if (2 : Int32) ≤ l2 then (
    fX7_copy_81 FU a0 a1 (0 : Int32) z
  ) else (
    (gN 6 5 z a0).bind fun b62 =>
    (gN 6 5 z a1).bind fun b67 =>
    (ixQ 0 z b67 l2).bind fun q71_ =>
    (stQ 0 z b62 l2 q71_).bind fun z72 =>
    nm (l2 + (1 : Int32)) fun v73 =>
    k56 a0 a1 v73 z72
  )
set_option maxHeartbeats 4000000 in
set_option maxRecDepth 100000 in
theorem kbX7_copy_56 {p : Program} {l : Launch} {e : Env} {s : State} {m : MethodId} {args : Array Value} {below : List Frame} {meth : Method} {c : Code} {G : GW} {z' : AH} (C : Cx p m c cX7_copy 3 s args RX7 G) (hlk : meth.locks = false) (hr : meth.sig.returnType = none) (k56 : Nat → Nat → Int32 → AH → Option AH) (hk56 : ∀ (a0 : Nat) (a1 : Nat) (l2 : Int32) (z : AH) (H : Heap) (locs : List Loc) (ls : Array Slot), k56 a0 a1 l2 z = some z' → Wb G z s H locs → lv_has ls 3 [(0, .ref (gB G + a0)), (1, .ref (gB G + a1)), (2, .int l2)] → W p l e rmX7_copy s m args below meth c H locs 0 0 (MQ below (Qv G z') args s 0 0 (AA G)) (F0 m 56 ls [])) (a0 : Nat) (a1 : Nat) (l2 : Int32) {z : AH} {H : Heap} {locs : List Loc} {ls : Array Slot} (h : bX7_copy_56 k56 a0 a1 l2 z = some z') (hW : Wb G z s H locs) (hl : lv_has ls 3 [(0, .ref (gB G + a0)), (1, .ref (gB G + a1)), (2, .int l2)]) : W p l e rmX7_copy s m args below meth c H locs 0 0 (MQ below (Qv G z') args s 0 0 (AA G)) (F0 m 56 ls []) := by
  have hx := C.1
  have hb := C.2.1
  unfold bX7_copy_56 at h
  refine lv_iload_n hx hb dX7_copy_56 rfl (lv_at hl 2 rfl) ?_
  refine lv_iconst (v := 2) hx hb dX7_copy_57 (by decide) ?_
  refine lv_icmp_ge (tgt := 79) hx hb dX7_copy_58 (by decide) (fun c58 => ?_) (fun c58 => ?_)
  · have h := ite_t c58 h
    refine lv_iconst (v := 0) hx hb dX7_copy_79 (by decide) ?_
    refine lv_istore_n (lv' := [(2, .int (0 : Int32)), (0, .ref (gB G + a0)), (1, .ref (gB G + a1))]) hx hb dX7_copy_80 rfl hl (by decide) rfl (fun ls hl => ?_)
    exact klX7_copy_81 C hlk hr FU a0 a1 (0 : Int32) z _ _ _ h hW (lv_sub hl [1, 2, 0] rfl)
  · have h := ite_f c58 h
    refine lv_aload_n hx hb dX7_copy_61 rfl (lv_at hl 0 rfl) ?_
    obtain ⟨b62, hg, h⟩ := ob h
    refine wz_gN C hW flX7_31 hg dX7_copy_62 ?_
    refine lv_iload_n hx hb dX7_copy_65 rfl (lv_at hl 2 rfl) ?_
    refine lv_aload_n hx hb dX7_copy_66 rfl (lv_at hl 1 rfl) ?_
    obtain ⟨b67, hg, h⟩ := ob h
    refine wz_gN C hW flX7_31 hg dX7_copy_67 ?_
    refine lv_iload_n hx hb dX7_copy_70 rfl (lv_at hl 2 rfl) ?_
    obtain ⟨q71_, hg, h⟩ := ob h
    refine wz_qld (Or.inl rfl) C hW hg dX7_copy_71 ?_
    obtain ⟨z72, hg, h⟩ := ob h
    refine wz_qstR (Or.inl rfl) C hW hg dX7_copy_72 (fun H locs hW => ?_)
    obtain ⟨v73, ev73⟩ : ∃ y : Int32, y = (l2 + (1 : Int32)) := ⟨_, rfl⟩
    have h := nm_to h ev73
    refine lv_iinc (v := v73) (lv' := [(2, .int v73), (0, .ref (gB G + a0)), (1, .ref (gB G + a1))]) hx hb dX7_copy_73 hl (k := 2) rfl (by rw [ev73]; rfl) (by decide) rfl (fun ls hl => ?_)
    refine lv_goto (tgt := 56) hx hb dX7_copy_76 (by decide) ?_
    exact hk56 a0 a1 v73 z72 _ _ _ h hW (lv_sub hl [1, 2, 0] rfl)
def fX7_copy_56 : Nat → Nat → Nat → Int32 → AH → Option AH
  | 0, _, _, _, _ => none
  | n + 1, a0, a1, l2, z => bX7_copy_56 (fX7_copy_56 n) a0 a1 l2 z
theorem klX7_copy_56 {p : Program} {l : Launch} {e : Env} {s : State} {m : MethodId} {args : Array Value} {below : List Frame} {meth : Method} {c : Code} {G : GW} {z' : AH} (C : Cx p m c cX7_copy 3 s args RX7 G) (hlk : meth.locks = false) (hr : meth.sig.returnType = none) : ∀ (n : Nat) (a0 : Nat) (a1 : Nat) (l2 : Int32) (z : AH) (H : Heap) (locs : List Loc) (ls : Array Slot), fX7_copy_56 n a0 a1 l2 z = some z' → Wb G z s H locs → lv_has ls 3 [(0, .ref (gB G + a0)), (1, .ref (gB G + a1)), (2, .int l2)] → W p l e rmX7_copy s m args below meth c H locs 0 0 (MQ below (Qv G z') args s 0 0 (AA G)) (F0 m 56 ls []) := by
  intro n
  induction n with
  | zero => intro a0 a1 l2 z H locs ls h; have h : (none : Option AH) = some z' := h; cases h
  | succ n ih => intro a0 a1 l2 z H locs ls h hW hl; exact kbX7_copy_56 C hlk hr (fX7_copy_56 n) (fun a0 a1 l2 z H locs ls h hW hl => ih a0 a1 l2 z H locs ls h hW hl) a0 a1 l2 h hW hl
def fX7_copy (a0 : Nat) (a1 : Nat) (z : AH) : Option AH :=
  if isO 6 z a0 = true then
    (gN 6 0 z a1).bind fun b1 =>
    (gN 6 0 z a0).bind fun b6 =>
    (cpI 1 z b1 (0 : Int32) b6 (0 : Int32) (600 : Int32)).bind fun z13 =>
    (gI 6 1 z13 a1).bind fun x18 =>
    (pF 6 1 z13 a0 (.int x18)).bind fun z21 =>
    (gI 6 2 z21 a1).bind fun x26 =>
    (pF 6 2 z21 a0 (.int x26)).bind fun z29 =>
    (gI 6 3 z29 a1).bind fun x34 =>
    (pF 6 3 z29 a0 (.int x34)).bind fun z37 =>
    (gN 6 4 z37 a1).bind fun b41 =>
    (gN 6 4 z37 a0).bind fun b46 =>
    (cpI 0 z37 b41 (0 : Int32) b46 (0 : Int32) (4 : Int32)).bind fun z51 =>
    fX7_copy_56 FU a0 a1 (0 : Int32) z51
  else none
set_option maxHeartbeats 4000000 in
set_option maxRecDepth 100000 in
theorem ctX7_copy (l : Launch) (G : GW) (a0 : Nat) (a1 : Nat) (z : AH) {z' : AH} (h : fX7_copy a0 a1 z = some z') : Met l yX7_copy (wy yX7_copy cX7_copy 3 none) rmX7_copy (Pz G [.ref (gB G + a0), .ref (gB G + a1)] z) (Qv G z') 0 0 (AA G) := by
  refine wz_ent (own := RX7) (by decide +kernel) rfl (fun p e s m below meth c ls C hlk hr hin hW hl => ?_) (Nat.le_of_ble_eq_true rfl)
  have hl : lv_has ls 3 [(0, .ref (gB G + a0)), (1, .ref (gB G + a1))] := hl
  have hx := C.1
  have hb := C.2.1
  unfold fX7_copy at h
  obtain ⟨-, h⟩ := ck h
  refine lv_aload_n hx hb dX7_copy_0 rfl (lv_at hl 1 rfl) ?_
  obtain ⟨b1, hg, h⟩ := ob h
  refine wz_gN C hW flX7_11 hg dX7_copy_1 ?_
  refine lv_iconst (v := 0) hx hb dX7_copy_4 (by decide) ?_
  refine lv_aload_n hx hb dX7_copy_5 rfl (lv_at hl 0 rfl) ?_
  obtain ⟨b6, hg, h⟩ := ob h
  refine wz_gN C hW flX7_11 hg dX7_copy_6 ?_
  refine lv_iconst (v := 0) hx hb dX7_copy_9 (by decide) ?_
  refine lv_sipush (v := 600) hx hb dX7_copy_10 (by decide) ?_
  obtain ⟨z13, hg, h⟩ := ob h
  refine wz_cpy (Or.inr rfl) ⟨tw 1188 (by decide +kernel) rfl, tw 824 (by decide +kernel) rfl, tw 823 (by decide +kernel) rfl, tw 135 (by decide +kernel) rfl⟩ C hl.1 hW hg ⟨Nat.le_of_ble_eq_true rfl, Nat.le_of_ble_eq_true (by decide +kernel)⟩ dX7_copy_13 (fun H locs hW => ?_)
  refine lv_aload_n hx hb dX7_copy_16 rfl (lv_at hl 0 rfl) ?_
  refine lv_aload_n hx hb dX7_copy_17 rfl (lv_at hl 1 rfl) ?_
  obtain ⟨x18, hg, h⟩ := ob h
  refine wz_gI C hW flX7_15 hg dX7_copy_18 ?_
  obtain ⟨z21, hg, h⟩ := ob h
  refine wz_put (v := (.int x18)) C hW flX7_15 rfl rfl hg dX7_copy_21 (fun H locs hW => ?_)
  refine lv_aload_n hx hb dX7_copy_24 rfl (lv_at hl 0 rfl) ?_
  refine lv_aload_n hx hb dX7_copy_25 rfl (lv_at hl 1 rfl) ?_
  obtain ⟨x26, hg, h⟩ := ob h
  refine wz_gI C hW flX7_19 hg dX7_copy_26 ?_
  obtain ⟨z29, hg, h⟩ := ob h
  refine wz_put (v := (.int x26)) C hW flX7_19 rfl rfl hg dX7_copy_29 (fun H locs hW => ?_)
  refine lv_aload_n hx hb dX7_copy_32 rfl (lv_at hl 0 rfl) ?_
  refine lv_aload_n hx hb dX7_copy_33 rfl (lv_at hl 1 rfl) ?_
  obtain ⟨x34, hg, h⟩ := ob h
  refine wz_gI C hW flX7_22 hg dX7_copy_34 ?_
  obtain ⟨z37, hg, h⟩ := ob h
  refine wz_put (v := (.int x34)) C hW flX7_22 rfl rfl hg dX7_copy_37 (fun H locs hW => ?_)
  refine lv_aload_n hx hb dX7_copy_40 rfl (lv_at hl 1 rfl) ?_
  obtain ⟨b41, hg, h⟩ := ob h
  refine wz_gN C hW flX7_25 hg dX7_copy_41 ?_
  refine lv_iconst (v := 0) hx hb dX7_copy_44 (by decide) ?_
  refine lv_aload_n hx hb dX7_copy_45 rfl (lv_at hl 0 rfl) ?_
  obtain ⟨b46, hg, h⟩ := ob h
  refine wz_gN C hW flX7_25 hg dX7_copy_46 ?_
  refine lv_iconst (v := 0) hx hb dX7_copy_49 (by decide) ?_
  refine lv_iconst (v := 4) hx hb dX7_copy_50 (by decide) ?_
  obtain ⟨z51, hg, h⟩ := ob h
  refine wz_cpy (Or.inl rfl) ⟨tw 1188 (by decide +kernel) rfl, tw 824 (by decide +kernel) rfl, tw 823 (by decide +kernel) rfl, tw 135 (by decide +kernel) rfl⟩ C hl.1 hW hg ⟨Nat.le_of_ble_eq_true rfl, Nat.le_of_ble_eq_true (by decide +kernel)⟩ dX7_copy_51 (fun H locs hW => ?_)
  refine lv_iconst (v := 0) hx hb dX7_copy_54 (by decide) ?_
  refine lv_istore_n (lv' := [(2, .int (0 : Int32)), (0, .ref (gB G + a0)), (1, .ref (gB G + a1))]) hx hb dX7_copy_55 rfl hl (by decide) rfl (fun ls hl => ?_)
  exact klX7_copy_56 C hlk hr FU a0 a1 (0 : Int32) z51 _ _ _ h hW (lv_sub hl [1, 2, 0] rfl)
theorem flX8_44 : FL RX8 44 7 7 := ⟨_, rfl, Nat.le_of_ble_eq_true rfl, tw 422 (by decide +kernel) rfl, rfl⟩
theorem flX8_22 : FL RX8 22 7 1 := ⟨_, rfl, Nat.le_of_ble_eq_true rfl, tw 414 (by decide +kernel) rfl, rfl⟩
theorem flX8_71 : FL RX8 71 5 6 := ⟨_, rfl, Nat.le_of_ble_eq_true rfl, tw 358 (by decide +kernel) rfl, rfl⟩
theorem flX8_37 : FL RX8 37 7 5 := ⟨_, rfl, Nat.le_of_ble_eq_true rfl, tw 418 (by decide +kernel) rfl, rfl⟩
theorem flX8_41 : FL RX8 41 7 6 := ⟨_, rfl, Nat.le_of_ble_eq_true rfl, tw 420 (by decide +kernel) rfl, rfl⟩
theorem flX8_26 : FL RX8 26 7 2 := ⟨_, rfl, Nat.le_of_ble_eq_true rfl, tw 415 (by decide +kernel) rfl, rfl⟩
theorem flX8_30 : FL RX8 30 7 3 := ⟨_, rfl, Nat.le_of_ble_eq_true rfl, tw 416 (by decide +kernel) rfl, rfl⟩
theorem flX8_58 : FL RX8 58 5 0 := ⟨_, rfl, Nat.le_of_ble_eq_true rfl, tw 350 (by decide +kernel) rfl, rfl⟩
theorem flX8_68 : FL RX8 68 0 0 := ⟨_, rfl, Nat.le_of_ble_eq_true rfl, tw 153 (by decide +kernel) rfl, rfl⟩
theorem lNX8_77 : LN RX8 77 yX9_hasBit cX9_hasBit 2 (some .boolean) 2 := ⟨by decide +kernel, tw 853 (by decide +kernel) rfl, tw 120 (by decide +kernel) rfl, tw 854 (by decide +kernel) rfl, ⟨by decide +kernel, by decide +kernel, by decide +kernel⟩⟩
theorem flX8_102 : FL RX8 102 5 1 := ⟨_, rfl, Nat.le_of_ble_eq_true rfl, tw 352 (by decide +kernel) rfl, rfl⟩
theorem lVX8_81 : LV RX8 81 yX6_copy cX6_copy 2 none 1 := ⟨tw 919 (by decide +kernel) rfl, tw 920 (by decide +kernel) rfl, tw 921 (by decide +kernel) rfl, tw 124 (by decide +kernel) rfl, tw 922 (by decide +kernel) rfl, ⟨by decide +kernel, by decide +kernel, by decide +kernel⟩⟩
theorem lVX8_88 : LV RX8 88 yX6_passHour cX6_passHour 2 (some .boolean) 0 := ⟨tw 923 (by decide +kernel) rfl, tw 880 (by decide +kernel) rfl, tw 881 (by decide +kernel) rfl, tw 124 (by decide +kernel) rfl, tw 882 (by decide +kernel) rfl, ⟨by decide +kernel, by decide +kernel, by decide +kernel⟩⟩
theorem lVX8_92 : LV RX8 92 yX6_there cX6_there 1 (some .int) 0 := ⟨tw 924 (by decide +kernel) rfl, tw 925 (by decide +kernel) rfl, tw 926 (by decide +kernel) rfl, tw 124 (by decide +kernel) rfl, tw 927 (by decide +kernel) rfl, ⟨by decide +kernel, by decide +kernel, by decide +kernel⟩⟩
theorem lTX8_96 : LT RX8 96 yJ6_bitCount_0f7a4 cJ6_bitCount_0f7a4 1 (some .int) 1 := ⟨tw 928 (by decide +kernel) rfl, tw 929 (by decide +kernel) rfl, tw 136 (by decide +kernel) rfl, tw 930 (by decide +kernel) rfl, ⟨by decide +kernel, by decide +kernel, by decide +kernel⟩⟩
theorem dX8_judge_0 : decode cX8_judge 0 = .ok (.aload_n 0, 1) := by decide +kernel
theorem dX8_judge_1 : decode cX8_judge 1 = .ok (.getfield 22, 3) := by decide +kernel
theorem dX8_judge_4 : decode cX8_judge 4 = .ok (.aload_n 1, 1) := by decide +kernel
theorem dX8_judge_5 : decode cX8_judge 5 = .ok (.invokevirtual 81, 3) := by decide +kernel
theorem dX8_judge_8 : decode cX8_judge 8 = .ok (.aload_n 0, 1) := by decide +kernel
theorem dX8_judge_9 : decode cX8_judge 9 = .ok (.getfield 22, 3) := by decide +kernel
theorem dX8_judge_12 : decode cX8_judge 12 = .ok (.invokevirtual 88, 3) := by decide +kernel
theorem dX8_judge_15 : decode cX8_judge 15 = .ok (.pop, 1) := by decide +kernel
theorem dX8_judge_16 : decode cX8_judge 16 = .ok (.aload_n 0, 1) := by decide +kernel
theorem dX8_judge_17 : decode cX8_judge 17 = .ok (.getfield 22, 3) := by decide +kernel
theorem dX8_judge_20 : decode cX8_judge 20 = .ok (.invokevirtual 92, 3) := by decide +kernel
theorem dX8_judge_23 : decode cX8_judge 23 = .ok (.invokestatic 96, 3) := by decide +kernel
theorem dX8_judge_26 : decode cX8_judge 26 = .ok (.istore_n 3, 1) := by decide +kernel
theorem dX8_judge_27 : decode cX8_judge 27 = .ok (.iconst 0, 1) := by decide +kernel
theorem dX8_judge_28 : decode cX8_judge 28 = .ok (.istore 4, 2) := by decide +kernel
theorem dX8_judge_30 : decode cX8_judge 30 = .ok (.iconst 0, 1) := by decide +kernel
theorem dX8_judge_31 : decode cX8_judge 31 = .ok (.istore 5, 2) := by decide +kernel
theorem dX8_judge_33 : decode cX8_judge 33 = .ok (.iload 5, 2) := by decide +kernel
theorem dX8_judge_35 : decode cX8_judge 35 = .ok (.aload_n 0, 1) := by decide +kernel
theorem dX8_judge_36 : decode cX8_judge 36 = .ok (.getfield 22, 3) := by decide +kernel
theorem dX8_judge_39 : decode cX8_judge 39 = .ok (.getfield 58, 3) := by decide +kernel
theorem dX8_judge_42 : decode cX8_judge 42 = .ok (.getfield 68, 3) := by decide +kernel
theorem dX8_judge_45 : decode cX8_judge 45 = .ok (.if_icmp .ge 43, 3) := by decide +kernel
theorem dX8_judge_48 : decode cX8_judge 48 = .ok (.iload 4, 2) := by decide +kernel
theorem dX8_judge_50 : decode cX8_judge 50 = .ok (.aload_n 0, 1) := by decide +kernel
theorem dX8_judge_51 : decode cX8_judge 51 = .ok (.getfield 22, 3) := by decide +kernel
theorem dX8_judge_54 : decode cX8_judge 54 = .ok (.getfield 71, 3) := by decide +kernel
theorem dX8_judge_57 : decode cX8_judge 57 = .ok (.iload 5, 2) := by decide +kernel
theorem dX8_judge_59 : decode cX8_judge 59 = .ok (.invokestatic 77, 3) := by decide +kernel
theorem dX8_judge_62 : decode cX8_judge 62 = .ok (.ifCond .eq 7, 3) := by decide +kernel
theorem dX8_judge_65 : decode cX8_judge 65 = .ok (.iconst 0, 1) := by decide +kernel
theorem dX8_judge_66 : decode cX8_judge 66 = .ok (.goto 13, 3) := by decide +kernel
theorem dX8_judge_69 : decode cX8_judge 69 = .ok (.aload_n 0, 1) := by decide +kernel
theorem dX8_judge_70 : decode cX8_judge 70 = .ok (.getfield 22, 3) := by decide +kernel
theorem dX8_judge_73 : decode cX8_judge 73 = .ok (.getfield 102, 3) := by decide +kernel
theorem dX8_judge_76 : decode cX8_judge 76 = .ok (.iload 5, 2) := by decide +kernel
theorem dX8_judge_78 : decode cX8_judge 78 = .ok (.iaload, 1) := by decide +kernel
theorem dX8_judge_79 : decode cX8_judge 79 = .ok (.iadd, 1) := by decide +kernel
theorem dX8_judge_80 : decode cX8_judge 80 = .ok (.istore 4, 2) := by decide +kernel
theorem dX8_judge_82 : decode cX8_judge 82 = .ok (.iinc 5 1, 3) := by decide +kernel
theorem dX8_judge_85 : decode cX8_judge 85 = .ok (.goto (-52), 3) := by decide +kernel
theorem dX8_judge_88 : decode cX8_judge 88 = .ok (.iload_n 3, 1) := by decide +kernel
theorem dX8_judge_89 : decode cX8_judge 89 = .ok (.aload_n 0, 1) := by decide +kernel
theorem dX8_judge_90 : decode cX8_judge 90 = .ok (.getfield 37, 3) := by decide +kernel
theorem dX8_judge_93 : decode cX8_judge 93 = .ok (.if_icmp .gt 20, 3) := by decide +kernel
theorem dX8_judge_96 : decode cX8_judge 96 = .ok (.iload_n 3, 1) := by decide +kernel
theorem dX8_judge_97 : decode cX8_judge 97 = .ok (.aload_n 0, 1) := by decide +kernel
theorem dX8_judge_98 : decode cX8_judge 98 = .ok (.getfield 37, 3) := by decide +kernel
theorem dX8_judge_101 : decode cX8_judge 101 = .ok (.if_icmp .ne 37, 3) := by decide +kernel
theorem dX8_judge_104 : decode cX8_judge 104 = .ok (.iload 4, 2) := by decide +kernel
theorem dX8_judge_106 : decode cX8_judge 106 = .ok (.aload_n 0, 1) := by decide +kernel
theorem dX8_judge_107 : decode cX8_judge 107 = .ok (.getfield 41, 3) := by decide +kernel
theorem dX8_judge_110 : decode cX8_judge 110 = .ok (.if_icmp .le 28, 3) := by decide +kernel
theorem dX8_judge_113 : decode cX8_judge 113 = .ok (.aload_n 0, 1) := by decide +kernel
theorem dX8_judge_114 : decode cX8_judge 114 = .ok (.iload_n 3, 1) := by decide +kernel
theorem dX8_judge_115 : decode cX8_judge 115 = .ok (.putfield 37, 3) := by decide +kernel
theorem dX8_judge_118 : decode cX8_judge 118 = .ok (.aload_n 0, 1) := by decide +kernel
theorem dX8_judge_119 : decode cX8_judge 119 = .ok (.iload 4, 2) := by decide +kernel
theorem dX8_judge_121 : decode cX8_judge 121 = .ok (.putfield 41, 3) := by decide +kernel
theorem dX8_judge_124 : decode cX8_judge 124 = .ok (.aload_n 0, 1) := by decide +kernel
theorem dX8_judge_125 : decode cX8_judge 125 = .ok (.getfield 26, 3) := by decide +kernel
theorem dX8_judge_128 : decode cX8_judge 128 = .ok (.iconst 0, 1) := by decide +kernel
theorem dX8_judge_129 : decode cX8_judge 129 = .ok (.aload_n 0, 1) := by decide +kernel
theorem dX8_judge_130 : decode cX8_judge 130 = .ok (.getfield 30, 3) := by decide +kernel
theorem dX8_judge_133 : decode cX8_judge 133 = .ok (.iconst 0, 1) := by decide +kernel
theorem dX8_judge_134 : decode cX8_judge 134 = .ok (.iconst 4, 1) := by decide +kernel
theorem dX8_judge_135 : decode cX8_judge 135 = .ok (.invokestatic 105, 3) := by decide +kernel
theorem dX8_judge_138 : decode cX8_judge 138 = .ok (.aload_n 0, 1) := by decide +kernel
theorem dX8_judge_139 : decode cX8_judge 139 = .ok (.getfield 22, 3) := by decide +kernel
theorem dX8_judge_142 : decode cX8_judge 142 = .ok (.getfield 71, 3) := by decide +kernel
theorem dX8_judge_145 : decode cX8_judge 145 = .ok (.aload_n 1, 1) := by decide +kernel
theorem dX8_judge_146 : decode cX8_judge 146 = .ok (.getfield 71, 3) := by decide +kernel
theorem dX8_judge_149 : decode cX8_judge 149 = .ok (.if_icmp .ne 7, 3) := by decide +kernel
theorem dX8_judge_152 : decode cX8_judge 152 = .ok (.iconst 1, 1) := by decide +kernel
theorem dX8_judge_153 : decode cX8_judge 153 = .ok (.goto 4, 3) := by decide +kernel
theorem dX8_judge_156 : decode cX8_judge 156 = .ok (.iconst 0, 1) := by decide +kernel
theorem dX8_judge_157 : decode cX8_judge 157 = .ok (.istore 5, 2) := by decide +kernel
theorem dX8_judge_159 : decode cX8_judge 159 = .ok (.iload 5, 2) := by decide +kernel
theorem dX8_judge_161 : decode cX8_judge 161 = .ok (.ifCond .eq 24, 3) := by decide +kernel
theorem dX8_judge_164 : decode cX8_judge 164 = .ok (.aload_n 0, 1) := by decide +kernel
theorem dX8_judge_165 : decode cX8_judge 165 = .ok (.getfield 44, 3) := by decide +kernel
theorem dX8_judge_168 : decode cX8_judge 168 = .ok (.iconst (-1), 1) := by decide +kernel
theorem dX8_judge_169 : decode cX8_judge 169 = .ok (.if_icmp .eq 11, 3) := by decide +kernel
theorem dX8_judge_172 : decode cX8_judge 172 = .ok (.iload_n 2, 1) := by decide +kernel
theorem dX8_judge_173 : decode cX8_judge 173 = .ok (.aload_n 0, 1) := by decide +kernel
theorem dX8_judge_174 : decode cX8_judge 174 = .ok (.getfield 44, 3) := by decide +kernel
theorem dX8_judge_177 : decode cX8_judge 177 = .ok (.if_icmp .ge 8, 3) := by decide +kernel
theorem dX8_judge_180 : decode cX8_judge 180 = .ok (.aload_n 0, 1) := by decide +kernel
theorem dX8_judge_181 : decode cX8_judge 181 = .ok (.iload_n 2, 1) := by decide +kernel
theorem dX8_judge_182 : decode cX8_judge 182 = .ok (.putfield 44, 3) := by decide +kernel
theorem dX8_judge_185 : decode cX8_judge 185 = .ok (.return_, 1) := by decide +kernel
abbrev rmX8_judge : Room := { frames := 3, cells := 0, slots := 0, locals := 101 }
def bX8_judge_157 (a0 : Nat) (l2 : Int32) (s0 : Int32) (z : AH) : Option AH :=
  if s0 = (0 : Int32) then (
    some z
  ) else (
    (gI 7 7 z a0).bind fun x165 =>
    if x165 = (-1 : Int32) then (
      (pF 7 7 z a0 (.int l2)).bind fun z182 =>
      some z182
    ) else (
      (gI 7 7 z a0).bind fun x174 =>
      if x174 ≤ l2 then (
        some z
      ) else (
        (pF 7 7 z a0 (.int l2)).bind fun z182 =>
        some z182
      )
    )
  )
set_option maxHeartbeats 4000000 in
set_option maxRecDepth 100000 in
theorem kbX8_judge_157 {p : Program} {l : Launch} {e : Env} {s : State} {m : MethodId} {args : Array Value} {below : List Frame} {meth : Method} {c : Code} {G : GW} {z' : AH} (C : Cx p m c cX8_judge 6 s args RX8 G) (hlk : meth.locks = false) (hr : meth.sig.returnType = none) (a0 : Nat) (l2 : Int32) (s0 : Int32) {z : AH} {H : Heap} {locs : List Loc} {ls : Array Slot} (h : bX8_judge_157 a0 l2 s0 z = some z') (hW : Wb G z s H locs) (hl : lv_has ls 6 [(0, .ref (gB G + a0)), (2, .int l2)]) : W p l e rmX8_judge s m args below meth c H locs 0 0 (MQ below (Qv G z') args s 0 0 (AA G)) (F0 m 157 ls [.int s0]) := by
  have hx := C.1
  have hb := C.2.1
  unfold bX8_judge_157 at h
  refine lv_istore (lv' := [(5, .int s0), (0, .ref (gB G + a0)), (2, .int l2)]) hx hb dX8_judge_157 hl (by decide) rfl (fun ls hl => ?_)
  refine lv_iload hx hb dX8_judge_159 (lv_at hl 0 rfl) ?_
  refine lv_if_eq (tgt := 185) hx hb dX8_judge_161 (by decide) (fun c161 => ?_) (fun c161 => ?_)
  · have h := ite_t c161 h
    exact wz_vretE C hlk hr (Option.some.inj h) hW dX8_judge_185
  · have h := ite_f c161 h
    refine lv_aload_n hx hb dX8_judge_164 rfl (lv_at hl 1 rfl) ?_
    obtain ⟨x165, hg, h⟩ := ob h
    refine wz_gI C hW flX8_44 hg dX8_judge_165 ?_
    refine lv_iconst (v := -1) hx hb dX8_judge_168 (by decide) ?_
    refine lv_icmp_eq (tgt := 180) hx hb dX8_judge_169 (by decide) (fun c169 => ?_) (fun c169 => ?_)
    · have h := ite_t c169 h
      refine lv_aload_n hx hb dX8_judge_180 rfl (lv_at hl 1 rfl) ?_
      refine lv_iload_n hx hb dX8_judge_181 rfl (lv_at hl 2 rfl) ?_
      obtain ⟨z182, hg, h⟩ := ob h
      refine wz_put (v := (.int l2)) C hW flX8_44 rfl rfl hg dX8_judge_182 (fun H locs hW => ?_)
      exact wz_vretE C hlk hr (Option.some.inj h) hW dX8_judge_185
    · have h := ite_f c169 h
      refine lv_iload_n hx hb dX8_judge_172 rfl (lv_at hl 2 rfl) ?_
      refine lv_aload_n hx hb dX8_judge_173 rfl (lv_at hl 1 rfl) ?_
      obtain ⟨x174, hg, h⟩ := ob h
      refine wz_gI C hW flX8_44 hg dX8_judge_174 ?_
      refine lv_icmp_ge (tgt := 185) hx hb dX8_judge_177 (by decide) (fun c177 => ?_) (fun c177 => ?_)
      · have h := ite_t c177 h
        exact wz_vretE C hlk hr (Option.some.inj h) hW dX8_judge_185
      · have h := ite_f c177 h
        refine lv_aload_n hx hb dX8_judge_180 rfl (lv_at hl 1 rfl) ?_
        refine lv_iload_n hx hb dX8_judge_181 rfl (lv_at hl 2 rfl) ?_
        obtain ⟨z182, hg, h⟩ := ob h
        refine wz_put (v := (.int l2)) C hW flX8_44 rfl rfl hg dX8_judge_182 (fun H locs hW => ?_)
        exact wz_vretE C hlk hr (Option.some.inj h) hW dX8_judge_185
def bX8_judge_138 (a0 : Nat) (a1 : Nat) (l2 : Int32) (z : AH) : Option AH :=
  (gN 7 1 z a0).bind fun b139 =>
  (gI 5 6 z b139).bind fun x142 =>
  (gI 5 6 z a1).bind fun x146 =>
  if x142 = x146 then (
    bX8_judge_157 a0 l2 (1 : Int32) z
  ) else (
    bX8_judge_157 a0 l2 (0 : Int32) z
  )
set_option maxHeartbeats 4000000 in
set_option maxRecDepth 100000 in
theorem kbX8_judge_138 {p : Program} {l : Launch} {e : Env} {s : State} {m : MethodId} {args : Array Value} {below : List Frame} {meth : Method} {c : Code} {G : GW} {z' : AH} (C : Cx p m c cX8_judge 6 s args RX8 G) (hlk : meth.locks = false) (hr : meth.sig.returnType = none) (a0 : Nat) (a1 : Nat) (l2 : Int32) {z : AH} {H : Heap} {locs : List Loc} {ls : Array Slot} (h : bX8_judge_138 a0 a1 l2 z = some z') (hW : Wb G z s H locs) (hl : lv_has ls 6 [(0, .ref (gB G + a0)), (1, .ref (gB G + a1)), (2, .int l2)]) : W p l e rmX8_judge s m args below meth c H locs 0 0 (MQ below (Qv G z') args s 0 0 (AA G)) (F0 m 138 ls []) := by
  have hx := C.1
  have hb := C.2.1
  unfold bX8_judge_138 at h
  refine lv_aload_n hx hb dX8_judge_138 rfl (lv_at hl 0 rfl) ?_
  obtain ⟨b139, hg, h⟩ := ob h
  refine wz_gN C hW flX8_22 hg dX8_judge_139 ?_
  obtain ⟨x142, hg, h⟩ := ob h
  refine wz_gI C hW flX8_71 hg dX8_judge_142 ?_
  refine lv_aload_n hx hb dX8_judge_145 rfl (lv_at hl 1 rfl) ?_
  obtain ⟨x146, hg, h⟩ := ob h
  refine wz_gI C hW flX8_71 hg dX8_judge_146 ?_
  refine lv_icmp_ne (tgt := 156) hx hb dX8_judge_149 (by decide) (fun c149 => ?_) (fun c149 => ?_)
  · have h := ite_f c149 h
    refine lv_iconst (v := 0) hx hb dX8_judge_156 (by decide) ?_
    exact kbX8_judge_157 C hlk hr a0 l2 (0 : Int32) h hW (lv_sub hl [0, 2] rfl)
  · have h := ite_t c149 h
    refine lv_iconst (v := 1) hx hb dX8_judge_152 (by decide) ?_
    refine lv_goto (tgt := 157) hx hb dX8_judge_153 (by decide) ?_
    exact kbX8_judge_157 C hlk hr a0 l2 (1 : Int32) h hW (lv_sub hl [0, 2] rfl)
def bX8_judge_113 (a0 : Nat) (a1 : Nat) (l2 : Int32) (l3 : Int32) (l4 : Int32) (z : AH) : Option AH :=
  (pF 7 5 z a0 (.int l3)).bind fun z115 =>
  (pF 7 6 z115 a0 (.int l4)).bind fun z121 =>
  (gN 7 2 z121 a0).bind fun b125 =>
  (gN 7 3 z121 a0).bind fun b130 =>
  (cpI 0 z121 b125 (0 : Int32) b130 (0 : Int32) (4 : Int32)).bind fun z135 =>
  bX8_judge_138 a0 a1 l2 z135
set_option maxHeartbeats 4000000 in
set_option maxRecDepth 100000 in
theorem kbX8_judge_113 {p : Program} {l : Launch} {e : Env} {s : State} {m : MethodId} {args : Array Value} {below : List Frame} {meth : Method} {c : Code} {G : GW} {z' : AH} (C : Cx p m c cX8_judge 6 s args RX8 G) (hlk : meth.locks = false) (hr : meth.sig.returnType = none) (a0 : Nat) (a1 : Nat) (l2 : Int32) (l3 : Int32) (l4 : Int32) {z : AH} {H : Heap} {locs : List Loc} {ls : Array Slot} (h : bX8_judge_113 a0 a1 l2 l3 l4 z = some z') (hW : Wb G z s H locs) (hl : lv_has ls 6 [(0, .ref (gB G + a0)), (1, .ref (gB G + a1)), (2, .int l2), (3, .int l3), (4, .int l4)]) : W p l e rmX8_judge s m args below meth c H locs 0 0 (MQ below (Qv G z') args s 0 0 (AA G)) (F0 m 113 ls []) := by
  have hx := C.1
  have hb := C.2.1
  unfold bX8_judge_113 at h
  refine lv_aload_n hx hb dX8_judge_113 rfl (lv_at hl 0 rfl) ?_
  refine lv_iload_n hx hb dX8_judge_114 rfl (lv_at hl 3 rfl) ?_
  obtain ⟨z115, hg, h⟩ := ob h
  refine wz_put (v := (.int l3)) C hW flX8_37 rfl rfl hg dX8_judge_115 (fun H locs hW => ?_)
  refine lv_aload_n hx hb dX8_judge_118 rfl (lv_at hl 0 rfl) ?_
  refine lv_iload hx hb dX8_judge_119 (lv_at hl 4 rfl) ?_
  obtain ⟨z121, hg, h⟩ := ob h
  refine wz_put (v := (.int l4)) C hW flX8_41 rfl rfl hg dX8_judge_121 (fun H locs hW => ?_)
  refine lv_aload_n hx hb dX8_judge_124 rfl (lv_at hl 0 rfl) ?_
  obtain ⟨b125, hg, h⟩ := ob h
  refine wz_gN C hW flX8_26 hg dX8_judge_125 ?_
  refine lv_iconst (v := 0) hx hb dX8_judge_128 (by decide) ?_
  refine lv_aload_n hx hb dX8_judge_129 rfl (lv_at hl 0 rfl) ?_
  obtain ⟨b130, hg, h⟩ := ob h
  refine wz_gN C hW flX8_30 hg dX8_judge_130 ?_
  refine lv_iconst (v := 0) hx hb dX8_judge_133 (by decide) ?_
  refine lv_iconst (v := 4) hx hb dX8_judge_134 (by decide) ?_
  obtain ⟨z135, hg, h⟩ := ob h
  refine wz_cpy (Or.inl rfl) ⟨tw 935 (by decide +kernel) rfl, tw 824 (by decide +kernel) rfl, tw 823 (by decide +kernel) rfl, tw 135 (by decide +kernel) rfl⟩ C hl.1 hW hg ⟨Nat.le_of_ble_eq_true rfl, Nat.le_of_ble_eq_true (by decide +kernel)⟩ dX8_judge_135 (fun H locs hW => ?_)
  exact kbX8_judge_138 C hlk hr a0 a1 l2 h hW (lv_sub hl [0, 1, 2] rfl)
def bX8_judge_33 (k33 : Nat → Nat → Int32 → Int32 → Int32 → Int32 → AH → Option AH) (a0 : Nat) (a1 : Nat) (l2 : Int32) (l3 : Int32) (l4 : Int32) (l5 : Int32) (z : AH) : Option AH :=
  (gN 7 1 z a0).bind fun b36 =>
  (gN 5 0 z b36).bind fun b39 =>
  (gI 0 0 z b39).bind fun x42 =>
  if x42 ≤ l5 then (
    (gI 7 5 z a0).bind fun x90 =>
    if x90 < l3 then (
      bX8_judge_113 a0 a1 l2 l3 l4 z
    ) else (
      (gI 7 5 z a0).bind fun x98 =>
      if l3 = x98 then (
        (gI 7 6 z a0).bind fun x107 =>
        if l4 ≤ x107 then (
          bX8_judge_138 a0 a1 l2 z
        ) else (
          bX8_judge_113 a0 a1 l2 l3 l4 z
        )
      ) else (
        bX8_judge_138 a0 a1 l2 z
      )
    )
  ) else (
    (gN 7 1 z a0).bind fun b51 =>
    (gI 5 6 z b51).bind fun x54 =>
    if (fX9_hasBit x54 l5) = (0 : Int32) then (
      (gN 7 1 z a0).bind fun b70 =>
      (gN 5 1 z b70).bind fun b73 =>
      (ixI 0 z b73 l5).bind fun x78 =>
      nm (l4 + x78) fun v80 =>
      nm (l5 + (1 : Int32)) fun v82 =>
      k33 a0 a1 l2 l3 v80 v82 z
    ) else (
      nm (l4 + (0 : Int32)) fun v80 =>
      nm (l5 + (1 : Int32)) fun v82 =>
      k33 a0 a1 l2 l3 v80 v82 z
    )
  )
set_option maxHeartbeats 4000000 in
set_option maxRecDepth 100000 in
theorem kbX8_judge_33 {p : Program} {l : Launch} {e : Env} {s : State} {m : MethodId} {args : Array Value} {below : List Frame} {meth : Method} {c : Code} {G : GW} {z' : AH} (C : Cx p m c cX8_judge 6 s args RX8 G) (hlk : meth.locks = false) (hr : meth.sig.returnType = none) (k33 : Nat → Nat → Int32 → Int32 → Int32 → Int32 → AH → Option AH) (hk33 : ∀ (a0 : Nat) (a1 : Nat) (l2 : Int32) (l3 : Int32) (l4 : Int32) (l5 : Int32) (z : AH) (H : Heap) (locs : List Loc) (ls : Array Slot), k33 a0 a1 l2 l3 l4 l5 z = some z' → Wb G z s H locs → lv_has ls 6 [(0, .ref (gB G + a0)), (1, .ref (gB G + a1)), (2, .int l2), (3, .int l3), (4, .int l4), (5, .int l5)] → W p l e rmX8_judge s m args below meth c H locs 0 0 (MQ below (Qv G z') args s 0 0 (AA G)) (F0 m 33 ls [])) (a0 : Nat) (a1 : Nat) (l2 : Int32) (l3 : Int32) (l4 : Int32) (l5 : Int32) {z : AH} {H : Heap} {locs : List Loc} {ls : Array Slot} (h : bX8_judge_33 k33 a0 a1 l2 l3 l4 l5 z = some z') (hW : Wb G z s H locs) (hl : lv_has ls 6 [(0, .ref (gB G + a0)), (1, .ref (gB G + a1)), (2, .int l2), (3, .int l3), (4, .int l4), (5, .int l5)]) : W p l e rmX8_judge s m args below meth c H locs 0 0 (MQ below (Qv G z') args s 0 0 (AA G)) (F0 m 33 ls []) := by
  have hx := C.1
  have hb := C.2.1
  unfold bX8_judge_33 at h
  refine lv_iload hx hb dX8_judge_33 (lv_at hl 5 rfl) ?_
  refine lv_aload_n hx hb dX8_judge_35 rfl (lv_at hl 0 rfl) ?_
  obtain ⟨b36, hg, h⟩ := ob h
  refine wz_gN C hW flX8_22 hg dX8_judge_36 ?_
  obtain ⟨b39, hg, h⟩ := ob h
  refine wz_gN C hW flX8_58 hg dX8_judge_39 ?_
  obtain ⟨x42, hg, h⟩ := ob h
  refine wz_gI C hW flX8_68 hg dX8_judge_42 ?_
  refine lv_icmp_ge (tgt := 88) hx hb dX8_judge_45 (by decide) (fun c45 => ?_) (fun c45 => ?_)
  · have h := ite_t c45 h
    refine lv_iload_n hx hb dX8_judge_88 rfl (lv_at hl 3 rfl) ?_
    refine lv_aload_n hx hb dX8_judge_89 rfl (lv_at hl 0 rfl) ?_
    obtain ⟨x90, hg, h⟩ := ob h
    refine wz_gI C hW flX8_37 hg dX8_judge_90 ?_
    refine lv_icmp_gt (tgt := 113) hx hb dX8_judge_93 (by decide) (fun c93 => ?_) (fun c93 => ?_)
    · have h := ite_t c93 h
      exact kbX8_judge_113 C hlk hr a0 a1 l2 l3 l4 h hW (lv_sub hl [0, 1, 2, 3, 4] rfl)
    · have h := ite_f c93 h
      refine lv_iload_n hx hb dX8_judge_96 rfl (lv_at hl 3 rfl) ?_
      refine lv_aload_n hx hb dX8_judge_97 rfl (lv_at hl 0 rfl) ?_
      obtain ⟨x98, hg, h⟩ := ob h
      refine wz_gI C hW flX8_37 hg dX8_judge_98 ?_
      refine lv_icmp_ne (tgt := 138) hx hb dX8_judge_101 (by decide) (fun c101 => ?_) (fun c101 => ?_)
      · have h := ite_f c101 h
        exact kbX8_judge_138 C hlk hr a0 a1 l2 h hW (lv_sub hl [0, 1, 2] rfl)
      · have h := ite_t c101 h
        refine lv_iload hx hb dX8_judge_104 (lv_at hl 4 rfl) ?_
        refine lv_aload_n hx hb dX8_judge_106 rfl (lv_at hl 0 rfl) ?_
        obtain ⟨x107, hg, h⟩ := ob h
        refine wz_gI C hW flX8_41 hg dX8_judge_107 ?_
        refine lv_icmp_le (tgt := 138) hx hb dX8_judge_110 (by decide) (fun c110 => ?_) (fun c110 => ?_)
        · have h := ite_t c110 h
          exact kbX8_judge_138 C hlk hr a0 a1 l2 h hW (lv_sub hl [0, 1, 2] rfl)
        · have h := ite_f c110 h
          exact kbX8_judge_113 C hlk hr a0 a1 l2 l3 l4 h hW (lv_sub hl [0, 1, 2, 3, 4] rfl)
  · have h := ite_f c45 h
    refine lv_iload hx hb dX8_judge_48 (lv_at hl 4 rfl) ?_
    refine lv_aload_n hx hb dX8_judge_50 rfl (lv_at hl 0 rfl) ?_
    obtain ⟨b51, hg, h⟩ := ob h
    refine wz_gN C hW flX8_22 hg dX8_judge_51 ?_
    obtain ⟨x54, hg, h⟩ := ob h
    refine wz_gI C hW flX8_71 hg dX8_judge_54 ?_
    refine lv_iload hx hb dX8_judge_57 (lv_at hl 5 rfl) ?_
    refine wz_rI (c' := 0) (s' := 0) hW (wz_runN (rest := [.int l4]) C hW lNX8_77 (ctX9_hasBit l G x54 l5 z rfl) ⟨⟨rfl, rfl⟩, Nat.le_of_ble_eq_true rfl, Nat.le_of_ble_eq_true rfl⟩ rfl hl.1 rfl (Nat.le_of_ble_eq_true rfl) dX8_judge_59 ⟨Nat.le_of_ble_eq_true rfl, Nat.le_of_ble_eq_true rfl⟩) rfl rfl (fun H locs hW => ?_)
    refine lv_if_eq (tgt := 69) hx hb dX8_judge_62 (by decide) (fun c62 => ?_) (fun c62 => ?_)
    · have h := ite_t c62 h
      refine lv_aload_n hx hb dX8_judge_69 rfl (lv_at hl 0 rfl) ?_
      obtain ⟨b70, hg, h⟩ := ob h
      refine wz_gN C hW flX8_22 hg dX8_judge_70 ?_
      obtain ⟨b73, hg, h⟩ := ob h
      refine wz_gN C hW flX8_102 hg dX8_judge_73 ?_
      refine lv_iload hx hb dX8_judge_76 (lv_at hl 5 rfl) ?_
      obtain ⟨x78, hg, h⟩ := ob h
      refine wz_ald C hW hg dX8_judge_78 ?_
      refine lv_iadd hx hb dX8_judge_79 ?_
      refine lv_topi (fun v80 ev80 => ?_)
      have h := nm_to h ev80
      refine lv_istore (lv' := [(4, .int v80), (0, .ref (gB G + a0)), (1, .ref (gB G + a1)), (2, .int l2), (3, .int l3), (5, .int l5)]) hx hb dX8_judge_80 hl (by decide) rfl (fun ls hl => ?_)
      obtain ⟨v82, ev82⟩ : ∃ y : Int32, y = (l5 + (1 : Int32)) := ⟨_, rfl⟩
      have h := nm_to h ev82
      refine lv_iinc (v := v82) (lv' := [(5, .int v82), (4, .int v80), (0, .ref (gB G + a0)), (1, .ref (gB G + a1)), (2, .int l2), (3, .int l3)]) hx hb dX8_judge_82 hl (k := 5) rfl (by rw [ev82]; rfl) (by decide) rfl (fun ls hl => ?_)
      refine lv_goto (tgt := 33) hx hb dX8_judge_85 (by decide) ?_
      exact hk33 a0 a1 l2 l3 v80 v82 z _ _ _ h hW (lv_sub hl [2, 3, 4, 5, 1, 0] rfl)
    · have h := ite_f c62 h
      refine lv_iconst (v := 0) hx hb dX8_judge_65 (by decide) ?_
      refine lv_goto (tgt := 79) hx hb dX8_judge_66 (by decide) ?_
      refine lv_iadd hx hb dX8_judge_79 ?_
      refine lv_topi (fun v80 ev80 => ?_)
      have h := nm_to h ev80
      refine lv_istore (lv' := [(4, .int v80), (0, .ref (gB G + a0)), (1, .ref (gB G + a1)), (2, .int l2), (3, .int l3), (5, .int l5)]) hx hb dX8_judge_80 hl (by decide) rfl (fun ls hl => ?_)
      obtain ⟨v82, ev82⟩ : ∃ y : Int32, y = (l5 + (1 : Int32)) := ⟨_, rfl⟩
      have h := nm_to h ev82
      refine lv_iinc (v := v82) (lv' := [(5, .int v82), (4, .int v80), (0, .ref (gB G + a0)), (1, .ref (gB G + a1)), (2, .int l2), (3, .int l3)]) hx hb dX8_judge_82 hl (k := 5) rfl (by rw [ev82]; rfl) (by decide) rfl (fun ls hl => ?_)
      refine lv_goto (tgt := 33) hx hb dX8_judge_85 (by decide) ?_
      exact hk33 a0 a1 l2 l3 v80 v82 z _ _ _ h hW (lv_sub hl [2, 3, 4, 5, 1, 0] rfl)
def fX8_judge_33 : Nat → Nat → Nat → Int32 → Int32 → Int32 → Int32 → AH → Option AH
  | 0, _, _, _, _, _, _, _ => none
  | n + 1, a0, a1, l2, l3, l4, l5, z => bX8_judge_33 (fX8_judge_33 n) a0 a1 l2 l3 l4 l5 z
theorem klX8_judge_33 {p : Program} {l : Launch} {e : Env} {s : State} {m : MethodId} {args : Array Value} {below : List Frame} {meth : Method} {c : Code} {G : GW} {z' : AH} (C : Cx p m c cX8_judge 6 s args RX8 G) (hlk : meth.locks = false) (hr : meth.sig.returnType = none) : ∀ (n : Nat) (a0 : Nat) (a1 : Nat) (l2 : Int32) (l3 : Int32) (l4 : Int32) (l5 : Int32) (z : AH) (H : Heap) (locs : List Loc) (ls : Array Slot), fX8_judge_33 n a0 a1 l2 l3 l4 l5 z = some z' → Wb G z s H locs → lv_has ls 6 [(0, .ref (gB G + a0)), (1, .ref (gB G + a1)), (2, .int l2), (3, .int l3), (4, .int l4), (5, .int l5)] → W p l e rmX8_judge s m args below meth c H locs 0 0 (MQ below (Qv G z') args s 0 0 (AA G)) (F0 m 33 ls []) := by
  intro n
  induction n with
  | zero => intro a0 a1 l2 l3 l4 l5 z H locs ls h; have h : (none : Option AH) = some z' := h; cases h
  | succ n ih => intro a0 a1 l2 l3 l4 l5 z H locs ls h hW hl; exact kbX8_judge_33 C hlk hr (fX8_judge_33 n) (fun a0 a1 l2 l3 l4 l5 z H locs ls h hW hl => ih a0 a1 l2 l3 l4 l5 z H locs ls h hW hl) a0 a1 l2 l3 l4 l5 h hW hl
def fX8_judge (a0 : Nat) (a1 : Nat) (l2 : Int32) (z : AH) : Option AH :=
  if isO 7 z a0 = true then
    (gN 7 1 z a0).bind fun b1 =>
    (fX6_copy b1 a1 z).bind fun z5 =>
    (gN 7 1 z5 a0).bind fun b9 =>
    b2 (fX6_passHour b9 z5) fun x12 z12 =>
    (gN 7 1 z12 a0).bind fun b17 =>
    (fX6_there b17 z12).bind fun x20 =>
    nm (fJ6_bitCount_0f7a4 x20) fun v26 =>
    fX8_judge_33 FU a0 a1 l2 v26 (0 : Int32) (0 : Int32) z12
  else none
set_option maxHeartbeats 4000000 in
set_option maxRecDepth 100000 in
theorem ctX8_judge (l : Launch) (G : GW) (a0 : Nat) (a1 : Nat) (l2 : Int32) (z : AH) {z' : AH} (h : fX8_judge a0 a1 l2 z = some z') : Met l yX8_judge (wy yX8_judge cX8_judge 6 none) rmX8_judge (Pz G [.ref (gB G + a0), .ref (gB G + a1), .int l2] z) (Qv G z') 0 0 (AA G) := by
  refine wz_ent (own := RX8) (by decide +kernel) rfl (fun p e s m below meth c ls C hlk hr hin hW hl => ?_) (Nat.le_of_ble_eq_true rfl)
  have hl : lv_has ls 6 [(0, .ref (gB G + a0)), (1, .ref (gB G + a1)), (2, .int l2)] := hl
  have hx := C.1
  have hb := C.2.1
  unfold fX8_judge at h
  obtain ⟨-, h⟩ := ck h
  refine lv_aload_n hx hb dX8_judge_0 rfl (lv_at hl 0 rfl) ?_
  obtain ⟨b1, hg, h⟩ := ob h
  refine wz_gN C hW flX8_22 hg dX8_judge_1 ?_
  refine lv_aload_n hx hb dX8_judge_4 rfl (lv_at hl 1 rfl) ?_
  obtain ⟨z5, hq, h⟩ := ob h
  refine wz_rV (c' := 0) (s' := 0) hW (wz_runV (rest := []) C hW lVX8_81 (ck hq).1 rfl (ctX6_copy l G b1 a1 z hq) ⟨⟨rfl, rfl⟩, Nat.le_of_ble_eq_true rfl, Nat.le_of_ble_eq_true rfl⟩ rfl hl.1 rfl (Nat.le_of_ble_eq_true rfl) dX8_judge_5 ⟨Nat.le_of_ble_eq_true rfl, Nat.le_of_ble_eq_true rfl⟩) rfl rfl (fun H locs hW => ?_)
  refine lv_aload_n hx hb dX8_judge_8 rfl (lv_at hl 0 rfl) ?_
  obtain ⟨b9, hg, h⟩ := ob h
  refine wz_gN C hW flX8_22 hg dX8_judge_9 ?_
  obtain ⟨x12, z12, hq, h⟩ := ob2 h
  refine wz_rI (c' := 0) (s' := 0) hW (wz_runV (rest := []) C hW lVX8_88 (ck hq).1 rfl (ctX6_passHour l G b9 z5 hq) ⟨⟨rfl, rfl⟩, Nat.le_of_ble_eq_true rfl, Nat.le_of_ble_eq_true rfl⟩ rfl hl.1 rfl (Nat.le_of_ble_eq_true rfl) dX8_judge_12 ⟨Nat.le_of_ble_eq_true rfl, Nat.le_of_ble_eq_true rfl⟩) rfl rfl (fun H locs hW => ?_)
  refine lv_pop hx hb dX8_judge_15 rfl ?_
  refine lv_aload_n hx hb dX8_judge_16 rfl (lv_at hl 0 rfl) ?_
  obtain ⟨b17, hg, h⟩ := ob h
  refine wz_gN C hW flX8_22 hg dX8_judge_17 ?_
  obtain ⟨x20, hq, h⟩ := ob h
  refine wz_rI (c' := 0) (s' := 0) hW (wz_runV (rest := []) C hW lVX8_92 (ck hq).1 rfl (ctX6_there l G b17 z12 hq) ⟨⟨rfl, rfl⟩, Nat.le_of_ble_eq_true rfl, Nat.le_of_ble_eq_true rfl⟩ rfl hl.1 rfl (Nat.le_of_ble_eq_true rfl) dX8_judge_20 ⟨Nat.le_of_ble_eq_true rfl, Nat.le_of_ble_eq_true rfl⟩) rfl rfl (fun H locs hW => ?_)
  refine wz_rI (c' := 0) (s' := 0) hW (wz_runS (rest := []) C hW lTX8_96 (ctJ6_bitCount_0f7a4 l G x20 z12 rfl) ⟨⟨rfl, rfl⟩, Nat.le_of_ble_eq_true rfl, Nat.le_of_ble_eq_true rfl⟩ rfl hl.1 rfl (Nat.le_of_ble_eq_true rfl) dX8_judge_23 ⟨Nat.le_of_ble_eq_true rfl, Nat.le_of_ble_eq_true rfl⟩) rfl rfl (fun H locs hW => ?_)
  refine lv_topi (fun v26 ev26 => ?_)
  have h := nm_to h ev26
  refine lv_istore_n (lv' := [(3, .int v26), (0, .ref (gB G + a0)), (1, .ref (gB G + a1)), (2, .int l2)]) hx hb dX8_judge_26 rfl hl (by decide) rfl (fun ls hl => ?_)
  refine lv_iconst (v := 0) hx hb dX8_judge_27 (by decide) ?_
  refine lv_istore (lv' := [(4, .int (0 : Int32)), (3, .int v26), (0, .ref (gB G + a0)), (1, .ref (gB G + a1)), (2, .int l2)]) hx hb dX8_judge_28 hl (by decide) rfl (fun ls hl => ?_)
  refine lv_iconst (v := 0) hx hb dX8_judge_30 (by decide) ?_
  refine lv_istore (lv' := [(5, .int (0 : Int32)), (4, .int (0 : Int32)), (3, .int v26), (0, .ref (gB G + a0)), (1, .ref (gB G + a1)), (2, .int l2)]) hx hb dX8_judge_31 hl (by decide) rfl (fun ls hl => ?_)
  exact klX8_judge_33 C hlk hr FU a0 a1 l2 v26 (0 : Int32) (0 : Int32) z12 _ _ _ h hW (lv_sub hl [3, 4, 5, 2, 1, 0] rfl)
theorem lNX8_54 : LN RX8 54 yX9_pick cX9_pick 3 (some .int) 3 := ⟨by decide +kernel, tw 523 (by decide +kernel) rfl, tw 120 (by decide +kernel) rfl, tw 524 (by decide +kernel) rfl, ⟨by decide +kernel, by decide +kernel, by decide +kernel⟩⟩
theorem dX8_chosen_0 : decode cX8_chosen 0 = .ok (.aload_n 0, 1) := by decide +kernel
theorem dX8_chosen_1 : decode cX8_chosen 1 = .ok (.getfield 30, 3) := by decide +kernel
theorem dX8_chosen_4 : decode cX8_chosen 4 = .ok (.aload_n 0, 1) := by decide +kernel
theorem dX8_chosen_5 : decode cX8_chosen 5 = .ok (.getfield 30, 3) := by decide +kernel
theorem dX8_chosen_8 : decode cX8_chosen 8 = .ok (.arraylength, 1) := by decide +kernel
theorem dX8_chosen_9 : decode cX8_chosen 9 = .ok (.iload_n 1, 1) := by decide +kernel
theorem dX8_chosen_10 : decode cX8_chosen 10 = .ok (.invokestatic 54, 3) := by decide +kernel
theorem dX8_chosen_13 : decode cX8_chosen 13 = .ok (.ireturn, 1) := by decide +kernel
abbrev rmX8_chosen : Room := { frames := 1, cells := 0, slots := 0, locals := 22 }
def fX8_chosen (a0 : Nat) (l1 : Int32) (z : AH) : Option (Int32) :=
  if isO 7 z a0 = true then
    (gN 7 3 z a0).bind fun b1 =>
    (gN 7 3 z a0).bind fun b5 =>
    (lnI 0 z b5).bind fun x8 =>
    (fX9_pick b1 x8 l1 z).bind fun x10 =>
    some x10
  else none
set_option maxHeartbeats 4000000 in
set_option maxRecDepth 100000 in
theorem ctX8_chosen (l : Launch) (G : GW) (a0 : Nat) (l1 : Int32) (z : AH) {r : Int32} (h : fX8_chosen a0 l1 z = some r) : Met l yX8_chosen (wy yX8_chosen cX8_chosen 2 (some .int)) rmX8_chosen (Pz G [.ref (gB G + a0), .int l1] z) (Qi G r z) 0 0 (AA G) := by
  refine wz_ent (own := RX8) (by decide +kernel) rfl (fun p e s m below meth c ls C hlk hr hin hW hl => ?_) (Nat.le_of_ble_eq_true rfl)
  have hl : lv_has ls 2 [(0, .ref (gB G + a0)), (1, .int l1)] := hl
  have hx := C.1
  have hb := C.2.1
  unfold fX8_chosen at h
  obtain ⟨-, h⟩ := ck h
  refine lv_aload_n hx hb dX8_chosen_0 rfl (lv_at hl 0 rfl) ?_
  obtain ⟨b1, hg, h⟩ := ob h
  refine wz_gN C hW flX8_30 hg dX8_chosen_1 ?_
  refine lv_aload_n hx hb dX8_chosen_4 rfl (lv_at hl 0 rfl) ?_
  obtain ⟨b5, hg, h⟩ := ob h
  refine wz_gN C hW flX8_30 hg dX8_chosen_5 ?_
  obtain ⟨x8, hg, h⟩ := ob h
  refine wz_len C hW hg dX8_chosen_8 ?_
  refine lv_iload_n hx hb dX8_chosen_9 rfl (lv_at hl 1 rfl) ?_
  obtain ⟨x10, hq, h⟩ := ob h
  refine wz_rI (c' := 0) (s' := 0) hW (wz_runN (rest := []) C hW lNX8_54 (ctX9_pick l G b1 x8 l1 z hq) ⟨⟨rfl, rfl⟩, Nat.le_of_ble_eq_true rfl, Nat.le_of_ble_eq_true rfl⟩ rfl hl.1 rfl (Nat.le_of_ble_eq_true rfl) dX8_chosen_10 ⟨Nat.le_of_ble_eq_true rfl, Nat.le_of_ble_eq_true rfl⟩) rfl rfl (fun H locs hW => ?_)
  exact wz_iretE C hlk hr (Option.some.inj h) rfl hW dX8_chosen_13
theorem flX9_13 : FL RX9 13 8 0 := ⟨_, rfl, Nat.le_of_ble_eq_true rfl, tw 473 (by decide +kernel) rfl, rfl⟩
theorem flX9_64 : FL RX9 64 6 1 := ⟨_, rfl, Nat.le_of_ble_eq_true rfl, tw 261 (by decide +kernel) rfl, rfl⟩
theorem lVX9_68 : LV RX9 68 yX7_addWord cX7_addWord 3 none 1 := ⟨tw 502 (by decide +kernel) rfl, tw 503 (by decide +kernel) rfl, tw 504 (by decide +kernel) rfl, tw 122 (by decide +kernel) rfl, tw 505 (by decide +kernel) rfl, ⟨by decide +kernel, by decide +kernel, by decide +kernel⟩⟩
theorem dX9_feed_0 : decode cX9_feed 0 = .ok (.aload_n 0, 1) := by decide +kernel
theorem dX9_feed_1 : decode cX9_feed 1 = .ok (.getfield 13, 3) := by decide +kernel
theorem dX9_feed_4 : decode cX9_feed 4 = .ok (.getfield 64, 3) := by decide +kernel
theorem dX9_feed_7 : decode cX9_feed 7 = .ok (.bipush 20, 2) := by decide +kernel
theorem dX9_feed_9 : decode cX9_feed 9 = .ok (.iadd, 1) := by decide +kernel
theorem dX9_feed_10 : decode cX9_feed 10 = .ok (.sipush 600, 3) := by decide +kernel
theorem dX9_feed_13 : decode cX9_feed 13 = .ok (.if_icmp .le 5, 3) := by decide +kernel
theorem dX9_feed_16 : decode cX9_feed 16 = .ok (.iconst (-1), 1) := by decide +kernel
theorem dX9_feed_17 : decode cX9_feed 17 = .ok (.ireturn, 1) := by decide +kernel
theorem dX9_feed_18 : decode cX9_feed 18 = .ok (.aload_n 0, 1) := by decide +kernel
theorem dX9_feed_19 : decode cX9_feed 19 = .ok (.getfield 13, 3) := by decide +kernel
theorem dX9_feed_22 : decode cX9_feed 22 = .ok (.iload_n 1, 1) := by decide +kernel
theorem dX9_feed_23 : decode cX9_feed 23 = .ok (.invokevirtual 68, 3) := by decide +kernel
theorem dX9_feed_26 : decode cX9_feed 26 = .ok (.aload_n 0, 1) := by decide +kernel
theorem dX9_feed_27 : decode cX9_feed 27 = .ok (.getfield 13, 3) := by decide +kernel
theorem dX9_feed_30 : decode cX9_feed 30 = .ok (.iload_n 2, 1) := by decide +kernel
theorem dX9_feed_31 : decode cX9_feed 31 = .ok (.invokevirtual 68, 3) := by decide +kernel
theorem dX9_feed_34 : decode cX9_feed 34 = .ok (.aload_n 0, 1) := by decide +kernel
theorem dX9_feed_35 : decode cX9_feed 35 = .ok (.getfield 13, 3) := by decide +kernel
theorem dX9_feed_38 : decode cX9_feed 38 = .ok (.iload_n 3, 1) := by decide +kernel
theorem dX9_feed_39 : decode cX9_feed 39 = .ok (.invokevirtual 68, 3) := by decide +kernel
theorem dX9_feed_42 : decode cX9_feed 42 = .ok (.aload_n 0, 1) := by decide +kernel
theorem dX9_feed_43 : decode cX9_feed 43 = .ok (.getfield 13, 3) := by decide +kernel
theorem dX9_feed_46 : decode cX9_feed 46 = .ok (.iload 4, 2) := by decide +kernel
theorem dX9_feed_48 : decode cX9_feed 48 = .ok (.invokevirtual 68, 3) := by decide +kernel
theorem dX9_feed_51 : decode cX9_feed 51 = .ok (.aload_n 0, 1) := by decide +kernel
theorem dX9_feed_52 : decode cX9_feed 52 = .ok (.getfield 13, 3) := by decide +kernel
theorem dX9_feed_55 : decode cX9_feed 55 = .ok (.iload 5, 2) := by decide +kernel
theorem dX9_feed_57 : decode cX9_feed 57 = .ok (.invokevirtual 68, 3) := by decide +kernel
theorem dX9_feed_60 : decode cX9_feed 60 = .ok (.aload_n 0, 1) := by decide +kernel
theorem dX9_feed_61 : decode cX9_feed 61 = .ok (.getfield 13, 3) := by decide +kernel
theorem dX9_feed_64 : decode cX9_feed 64 = .ok (.getfield 64, 3) := by decide +kernel
theorem dX9_feed_67 : decode cX9_feed 67 = .ok (.ireturn, 1) := by decide +kernel
abbrev rmX9_feed : Room := { frames := 1, cells := 0, slots := 0, locals := 22 }
def fX9_feed (a0 : Nat) (l1 : Int32) (l2 : Int32) (l3 : Int32) (l4 : Int32) (l5 : Int32) (z : AH) : Option (Int32 × AH) :=
  if isO 8 z a0 = true then
    (gN 8 0 z a0).bind fun b1 =>
    (gI 6 1 z b1).bind fun x4 =>
    if (x4 + (20 : Int32)) ≤ (600 : Int32) then (
      (gN 8 0 z a0).bind fun b19 =>
      (fX7_addWord b19 l1 z).bind fun z23 =>
      (gN 8 0 z23 a0).bind fun b27 =>
      (fX7_addWord b27 l2 z23).bind fun z31 =>
      (gN 8 0 z31 a0).bind fun b35 =>
      (fX7_addWord b35 l3 z31).bind fun z39 =>
      (gN 8 0 z39 a0).bind fun b43 =>
      (fX7_addWord b43 l4 z39).bind fun z48 =>
      (gN 8 0 z48 a0).bind fun b52 =>
      (fX7_addWord b52 l5 z48).bind fun z57 =>
      (gN 8 0 z57 a0).bind fun b61 =>
      (gI 6 1 z57 b61).bind fun x64 =>
      some (x64, z57)
    ) else (
      some ((-1 : Int32), z)
    )
  else none
set_option maxHeartbeats 4000000 in
set_option maxRecDepth 100000 in
theorem ctX9_feed (l : Launch) (G : GW) (a0 : Nat) (l1 : Int32) (l2 : Int32) (l3 : Int32) (l4 : Int32) (l5 : Int32) (z : AH) {r : Int32} {z' : AH} (h : fX9_feed a0 l1 l2 l3 l4 l5 z = some (r, z')) : Met l yX9_feed (wy yX9_feed cX9_feed 6 (some .int)) rmX9_feed (Pz G [.ref (gB G + a0), .int l1, .int l2, .int l3, .int l4, .int l5] z) (Qi G r z') 0 0 (AA G) := by
  refine wz_ent (own := RX9) (by decide +kernel) rfl (fun p e s m below meth c ls C hlk hr hin hW hl => ?_) (Nat.le_of_ble_eq_true rfl)
  have hl : lv_has ls 6 [(0, .ref (gB G + a0)), (1, .int l1), (2, .int l2), (3, .int l3), (4, .int l4), (5, .int l5)] := hl
  have hx := C.1
  have hb := C.2.1
  unfold fX9_feed at h
  obtain ⟨-, h⟩ := ck h
  refine lv_aload_n hx hb dX9_feed_0 rfl (lv_at hl 0 rfl) ?_
  obtain ⟨b1, hg, h⟩ := ob h
  refine wz_gN C hW flX9_13 hg dX9_feed_1 ?_
  obtain ⟨x4, hg, h⟩ := ob h
  refine wz_gI C hW flX9_64 hg dX9_feed_4 ?_
  refine lv_bipush (v := 20) hx hb dX9_feed_7 (by decide) ?_
  refine lv_iadd hx hb dX9_feed_9 ?_
  refine lv_sipush (v := 600) hx hb dX9_feed_10 (by decide) ?_
  refine lv_icmp_le (tgt := 18) hx hb dX9_feed_13 (by decide) (fun c13 => ?_) (fun c13 => ?_)
  · have h := ite_t c13 h
    refine lv_aload_n hx hb dX9_feed_18 rfl (lv_at hl 0 rfl) ?_
    obtain ⟨b19, hg, h⟩ := ob h
    refine wz_gN C hW flX9_13 hg dX9_feed_19 ?_
    refine lv_iload_n hx hb dX9_feed_22 rfl (lv_at hl 1 rfl) ?_
    obtain ⟨z23, hq, h⟩ := ob h
    refine wz_rV (c' := 0) (s' := 0) hW (wz_runV (rest := []) C hW lVX9_68 (ck hq).1 rfl (ctX7_addWord l G b19 l1 z hq) ⟨⟨rfl, rfl⟩, Nat.le_of_ble_eq_true rfl, Nat.le_of_ble_eq_true rfl⟩ rfl hl.1 rfl (Nat.le_of_ble_eq_true rfl) dX9_feed_23 ⟨Nat.le_of_ble_eq_true rfl, Nat.le_of_ble_eq_true rfl⟩) rfl rfl (fun H locs hW => ?_)
    refine lv_aload_n hx hb dX9_feed_26 rfl (lv_at hl 0 rfl) ?_
    obtain ⟨b27, hg, h⟩ := ob h
    refine wz_gN C hW flX9_13 hg dX9_feed_27 ?_
    refine lv_iload_n hx hb dX9_feed_30 rfl (lv_at hl 2 rfl) ?_
    obtain ⟨z31, hq, h⟩ := ob h
    refine wz_rV (c' := 0) (s' := 0) hW (wz_runV (rest := []) C hW lVX9_68 (ck hq).1 rfl (ctX7_addWord l G b27 l2 z23 hq) ⟨⟨rfl, rfl⟩, Nat.le_of_ble_eq_true rfl, Nat.le_of_ble_eq_true rfl⟩ rfl hl.1 rfl (Nat.le_of_ble_eq_true rfl) dX9_feed_31 ⟨Nat.le_of_ble_eq_true rfl, Nat.le_of_ble_eq_true rfl⟩) rfl rfl (fun H locs hW => ?_)
    refine lv_aload_n hx hb dX9_feed_34 rfl (lv_at hl 0 rfl) ?_
    obtain ⟨b35, hg, h⟩ := ob h
    refine wz_gN C hW flX9_13 hg dX9_feed_35 ?_
    refine lv_iload_n hx hb dX9_feed_38 rfl (lv_at hl 3 rfl) ?_
    obtain ⟨z39, hq, h⟩ := ob h
    refine wz_rV (c' := 0) (s' := 0) hW (wz_runV (rest := []) C hW lVX9_68 (ck hq).1 rfl (ctX7_addWord l G b35 l3 z31 hq) ⟨⟨rfl, rfl⟩, Nat.le_of_ble_eq_true rfl, Nat.le_of_ble_eq_true rfl⟩ rfl hl.1 rfl (Nat.le_of_ble_eq_true rfl) dX9_feed_39 ⟨Nat.le_of_ble_eq_true rfl, Nat.le_of_ble_eq_true rfl⟩) rfl rfl (fun H locs hW => ?_)
    refine lv_aload_n hx hb dX9_feed_42 rfl (lv_at hl 0 rfl) ?_
    obtain ⟨b43, hg, h⟩ := ob h
    refine wz_gN C hW flX9_13 hg dX9_feed_43 ?_
    refine lv_iload hx hb dX9_feed_46 (lv_at hl 4 rfl) ?_
    obtain ⟨z48, hq, h⟩ := ob h
    refine wz_rV (c' := 0) (s' := 0) hW (wz_runV (rest := []) C hW lVX9_68 (ck hq).1 rfl (ctX7_addWord l G b43 l4 z39 hq) ⟨⟨rfl, rfl⟩, Nat.le_of_ble_eq_true rfl, Nat.le_of_ble_eq_true rfl⟩ rfl hl.1 rfl (Nat.le_of_ble_eq_true rfl) dX9_feed_48 ⟨Nat.le_of_ble_eq_true rfl, Nat.le_of_ble_eq_true rfl⟩) rfl rfl (fun H locs hW => ?_)
    refine lv_aload_n hx hb dX9_feed_51 rfl (lv_at hl 0 rfl) ?_
    obtain ⟨b52, hg, h⟩ := ob h
    refine wz_gN C hW flX9_13 hg dX9_feed_52 ?_
    refine lv_iload hx hb dX9_feed_55 (lv_at hl 5 rfl) ?_
    obtain ⟨z57, hq, h⟩ := ob h
    refine wz_rV (c' := 0) (s' := 0) hW (wz_runV (rest := []) C hW lVX9_68 (ck hq).1 rfl (ctX7_addWord l G b52 l5 z48 hq) ⟨⟨rfl, rfl⟩, Nat.le_of_ble_eq_true rfl, Nat.le_of_ble_eq_true rfl⟩ rfl hl.1 rfl (Nat.le_of_ble_eq_true rfl) dX9_feed_57 ⟨Nat.le_of_ble_eq_true rfl, Nat.le_of_ble_eq_true rfl⟩) rfl rfl (fun H locs hW => ?_)
    refine lv_aload_n hx hb dX9_feed_60 rfl (lv_at hl 0 rfl) ?_
    obtain ⟨b61, hg, h⟩ := ob h
    refine wz_gN C hW flX9_13 hg dX9_feed_61 ?_
    obtain ⟨x64, hg, h⟩ := ob h
    refine wz_gI C hW flX9_64 hg dX9_feed_64 ?_
    exact wz_iretE C hlk hr (so2 h).1 (so2 h).2 hW dX9_feed_67
  · have h := ite_f c13 h
    refine lv_iconst (v := -1) hx hb dX9_feed_16 (by decide) ?_
    exact wz_iretE C hlk hr (so2 h).1 (so2 h).2 hW dX9_feed_17
theorem dX9_end_0 : decode cX9_end 0 = .ok (.iload_n 1, 1) := by decide +kernel
theorem dX9_end_1 : decode cX9_end 1 = .ok (.ifCond .lt 14, 3) := by decide +kernel
theorem dX9_end_4 : decode cX9_end 4 = .ok (.iload_n 1, 1) := by decide +kernel
theorem dX9_end_5 : decode cX9_end 5 = .ok (.aload_n 0, 1) := by decide +kernel
theorem dX9_end_6 : decode cX9_end 6 = .ok (.getfield 13, 3) := by decide +kernel
theorem dX9_end_9 : decode cX9_end 9 = .ok (.getfield 64, 3) := by decide +kernel
theorem dX9_end_12 : decode cX9_end 12 = .ok (.if_icmp .le 5, 3) := by decide +kernel
theorem dX9_end_15 : decode cX9_end 15 = .ok (.iconst (-1), 1) := by decide +kernel
theorem dX9_end_16 : decode cX9_end 16 = .ok (.ireturn, 1) := by decide +kernel
theorem dX9_end_17 : decode cX9_end 17 = .ok (.aload_n 0, 1) := by decide +kernel
theorem dX9_end_18 : decode cX9_end 18 = .ok (.getfield 13, 3) := by decide +kernel
theorem dX9_end_21 : decode cX9_end 21 = .ok (.iload_n 1, 1) := by decide +kernel
theorem dX9_end_22 : decode cX9_end 22 = .ok (.putfield 64, 3) := by decide +kernel
theorem dX9_end_25 : decode cX9_end 25 = .ok (.iload_n 1, 1) := by decide +kernel
theorem dX9_end_26 : decode cX9_end 26 = .ok (.ireturn, 1) := by decide +kernel
abbrev rmX9_end : Room := { frames := 0, cells := 0, slots := 0, locals := 0 }
def fX9_end (a0 : Nat) (l1 : Int32) (z : AH) : Option (Int32 × AH) :=
  if isO 8 z a0 = true then
    if l1 < (0 : Int32) then (
      some ((-1 : Int32), z)
    ) else (
      (gN 8 0 z a0).bind fun b6 =>
      (gI 6 1 z b6).bind fun x9 =>
      if l1 ≤ x9 then (
        (gN 8 0 z a0).bind fun b18 =>
        (pF 6 1 z b18 (.int l1)).bind fun z22 =>
        some (l1, z22)
      ) else (
        some ((-1 : Int32), z)
      )
    )
  else none
set_option maxHeartbeats 4000000 in
set_option maxRecDepth 100000 in
theorem ctX9_end (l : Launch) (G : GW) (a0 : Nat) (l1 : Int32) (z : AH) {r : Int32} {z' : AH} (h : fX9_end a0 l1 z = some (r, z')) : Met l yX9_end (wy yX9_end cX9_end 2 (some .int)) rmX9_end (Pz G [.ref (gB G + a0), .int l1] z) (Qi G r z') 0 0 (AA G) := by
  refine wz_ent (own := RX9) (by decide +kernel) rfl (fun p e s m below meth c ls C hlk hr hin hW hl => ?_) (Nat.le_of_ble_eq_true rfl)
  have hl : lv_has ls 2 [(0, .ref (gB G + a0)), (1, .int l1)] := hl
  have hx := C.1
  have hb := C.2.1
  unfold fX9_end at h
  obtain ⟨-, h⟩ := ck h
  refine lv_iload_n hx hb dX9_end_0 rfl (lv_at hl 1 rfl) ?_
  refine lv_if_lt (tgt := 15) hx hb dX9_end_1 (by decide) (fun c1 => ?_) (fun c1 => ?_)
  · have h := ite_t c1 h
    refine lv_iconst (v := -1) hx hb dX9_end_15 (by decide) ?_
    exact wz_iretE C hlk hr (so2 h).1 (so2 h).2 hW dX9_end_16
  · have h := ite_f c1 h
    refine lv_iload_n hx hb dX9_end_4 rfl (lv_at hl 1 rfl) ?_
    refine lv_aload_n hx hb dX9_end_5 rfl (lv_at hl 0 rfl) ?_
    obtain ⟨b6, hg, h⟩ := ob h
    refine wz_gN C hW flX9_13 hg dX9_end_6 ?_
    obtain ⟨x9, hg, h⟩ := ob h
    refine wz_gI C hW flX9_64 hg dX9_end_9 ?_
    refine lv_icmp_le (tgt := 17) hx hb dX9_end_12 (by decide) (fun c12 => ?_) (fun c12 => ?_)
    · have h := ite_t c12 h
      refine lv_aload_n hx hb dX9_end_17 rfl (lv_at hl 0 rfl) ?_
      obtain ⟨b18, hg, h⟩ := ob h
      refine wz_gN C hW flX9_13 hg dX9_end_18 ?_
      refine lv_iload_n hx hb dX9_end_21 rfl (lv_at hl 1 rfl) ?_
      obtain ⟨z22, hg, h⟩ := ob h
      refine wz_put (v := (.int l1)) C hW flX9_64 rfl rfl hg dX9_end_22 (fun H locs hW => ?_)
      refine lv_iload_n hx hb dX9_end_25 rfl (lv_at hl 1 rfl) ?_
      exact wz_iretE C hlk hr (so2 h).1 (so2 h).2 hW dX9_end_26
    · have h := ite_f c12 h
      refine lv_iconst (v := -1) hx hb dX9_end_15 (by decide) ?_
      exact wz_iretE C hlk hr (so2 h).1 (so2 h).2 hW dX9_end_16
theorem flX9_75 : FL RX9 75 6 3 := ⟨_, rfl, Nat.le_of_ble_eq_true rfl, tw 265 (by decide +kernel) rfl, rfl⟩
theorem flX9_72 : FL RX9 72 6 2 := ⟨_, rfl, Nat.le_of_ble_eq_true rfl, tw 263 (by decide +kernel) rfl, rfl⟩
theorem dX9_fault_0 : decode cX9_fault 0 = .ok (.iload_n 1, 1) := by decide +kernel
theorem dX9_fault_1 : decode cX9_fault 1 = .ok (.ifCond .ne 11, 3) := by decide +kernel
theorem dX9_fault_4 : decode cX9_fault 4 = .ok (.aload_n 0, 1) := by decide +kernel
theorem dX9_fault_5 : decode cX9_fault 5 = .ok (.getfield 13, 3) := by decide +kernel
theorem dX9_fault_8 : decode cX9_fault 8 = .ok (.getfield 72, 3) := by decide +kernel
theorem dX9_fault_11 : decode cX9_fault 11 = .ok (.ireturn, 1) := by decide +kernel
theorem dX9_fault_12 : decode cX9_fault 12 = .ok (.iload_n 1, 1) := by decide +kernel
theorem dX9_fault_13 : decode cX9_fault 13 = .ok (.iconst 1, 1) := by decide +kernel
theorem dX9_fault_14 : decode cX9_fault 14 = .ok (.if_icmp .ne 13, 3) := by decide +kernel
theorem dX9_fault_17 : decode cX9_fault 17 = .ok (.aload_n 0, 1) := by decide +kernel
theorem dX9_fault_18 : decode cX9_fault 18 = .ok (.getfield 13, 3) := by decide +kernel
theorem dX9_fault_21 : decode cX9_fault 21 = .ok (.getfield 75, 3) := by decide +kernel
theorem dX9_fault_24 : decode cX9_fault 24 = .ok (.goto 4, 3) := by decide +kernel
theorem dX9_fault_27 : decode cX9_fault 27 = .ok (.iconst (-1), 1) := by decide +kernel
theorem dX9_fault_28 : decode cX9_fault 28 = .ok (.ireturn, 1) := by decide +kernel
abbrev rmX9_fault : Room := { frames := 0, cells := 0, slots := 0, locals := 0 }
def fX9_fault (a0 : Nat) (l1 : Int32) (z : AH) : Option (Int32) :=
  if isO 8 z a0 = true then
    if l1 = (0 : Int32) then (
      (gN 8 0 z a0).bind fun b5 =>
      (gI 6 2 z b5).bind fun x8 =>
      some x8
    ) else (
      if l1 = (1 : Int32) then (
        (gN 8 0 z a0).bind fun b18 =>
        (gI 6 3 z b18).bind fun x21 =>
        some x21
      ) else (
        some (-1 : Int32)
      )
    )
  else none
set_option maxHeartbeats 4000000 in
set_option maxRecDepth 100000 in
theorem ctX9_fault (l : Launch) (G : GW) (a0 : Nat) (l1 : Int32) (z : AH) {r : Int32} (h : fX9_fault a0 l1 z = some r) : Met l yX9_fault (wy yX9_fault cX9_fault 2 (some .int)) rmX9_fault (Pz G [.ref (gB G + a0), .int l1] z) (Qi G r z) 0 0 (AA G) := by
  refine wz_ent (own := RX9) (by decide +kernel) rfl (fun p e s m below meth c ls C hlk hr hin hW hl => ?_) (Nat.le_of_ble_eq_true rfl)
  have hl : lv_has ls 2 [(0, .ref (gB G + a0)), (1, .int l1)] := hl
  have hx := C.1
  have hb := C.2.1
  unfold fX9_fault at h
  obtain ⟨-, h⟩ := ck h
  refine lv_iload_n hx hb dX9_fault_0 rfl (lv_at hl 1 rfl) ?_
  refine lv_if_ne (tgt := 12) hx hb dX9_fault_1 (by decide) (fun c1 => ?_) (fun c1 => ?_)
  · have h := ite_f c1 h
    refine lv_iload_n hx hb dX9_fault_12 rfl (lv_at hl 1 rfl) ?_
    refine lv_iconst (v := 1) hx hb dX9_fault_13 (by decide) ?_
    refine lv_icmp_ne (tgt := 27) hx hb dX9_fault_14 (by decide) (fun c14 => ?_) (fun c14 => ?_)
    · have h := ite_f c14 h
      refine lv_iconst (v := -1) hx hb dX9_fault_27 (by decide) ?_
      exact wz_iretE C hlk hr (Option.some.inj h) rfl hW dX9_fault_28
    · have h := ite_t c14 h
      refine lv_aload_n hx hb dX9_fault_17 rfl (lv_at hl 0 rfl) ?_
      obtain ⟨b18, hg, h⟩ := ob h
      refine wz_gN C hW flX9_13 hg dX9_fault_18 ?_
      obtain ⟨x21, hg, h⟩ := ob h
      refine wz_gI C hW flX9_75 hg dX9_fault_21 ?_
      refine lv_goto (tgt := 28) hx hb dX9_fault_24 (by decide) ?_
      exact wz_iretE C hlk hr (Option.some.inj h) rfl hW dX9_fault_28
  · have h := ite_t c1 h
    refine lv_aload_n hx hb dX9_fault_4 rfl (lv_at hl 0 rfl) ?_
    obtain ⟨b5, hg, h⟩ := ob h
    refine wz_gN C hW flX9_13 hg dX9_fault_5 ?_
    obtain ⟨x8, hg, h⟩ := ob h
    refine wz_gI C hW flX9_72 hg dX9_fault_8 ?_
    exact wz_iretE C hlk hr (Option.some.inj h) rfl hW dX9_fault_11
theorem lVX9_108 : LV RX9 108 yX7_countryAt cX7_countryAt 2 (some (.object "PairedViews$Country")) 1 := ⟨tw 773 (by decide +kernel) rfl, tw 774 (by decide +kernel) rfl, tw 775 (by decide +kernel) rfl, tw 122 (by decide +kernel) rfl, tw 776 (by decide +kernel) rfl, ⟨by decide +kernel, by decide +kernel, by decide +kernel⟩⟩
theorem lVX9_112 : LV RX9 112 yX0_answer cX0_answer 2 (some .int) 1 := ⟨tw 777 (by decide +kernel) rfl, tw 778 (by decide +kernel) rfl, tw 779 (by decide +kernel) rfl, tw 121 (by decide +kernel) rfl, tw 780 (by decide +kernel) rfl, ⟨by decide +kernel, by decide +kernel, by decide +kernel⟩⟩
theorem dX9_country_0 : decode cX9_country 0 = .ok (.aload_n 0, 1) := by decide +kernel
theorem dX9_country_1 : decode cX9_country 1 = .ok (.getfield 13, 3) := by decide +kernel
theorem dX9_country_4 : decode cX9_country 4 = .ok (.iload_n 1, 1) := by decide +kernel
theorem dX9_country_5 : decode cX9_country 5 = .ok (.invokevirtual 108, 3) := by decide +kernel
theorem dX9_country_8 : decode cX9_country 8 = .ok (.astore_n 3, 1) := by decide +kernel
theorem dX9_country_9 : decode cX9_country 9 = .ok (.aload_n 3, 1) := by decide +kernel
theorem dX9_country_10 : decode cX9_country 10 = .ok (.ifnonnull 8, 3) := by decide +kernel
theorem dX9_country_13 : decode cX9_country 13 = .ok (.bipush (-2), 2) := by decide +kernel
theorem dX9_country_15 : decode cX9_country 15 = .ok (.goto 8, 3) := by decide +kernel
theorem dX9_country_18 : decode cX9_country 18 = .ok (.aload_n 3, 1) := by decide +kernel
theorem dX9_country_19 : decode cX9_country 19 = .ok (.iload_n 2, 1) := by decide +kernel
theorem dX9_country_20 : decode cX9_country 20 = .ok (.invokevirtual 112, 3) := by decide +kernel
theorem dX9_country_23 : decode cX9_country 23 = .ok (.ireturn, 1) := by decide +kernel
abbrev rmX9_country : Room := { frames := 3, cells := 0, slots := 0, locals := 67 }
def fX9_country (a0 : Nat) (l1 : Int32) (l2 : Int32) (z : AH) : Option (Int32) :=
  if isO 8 z a0 = true then
    (gN 8 0 z a0).bind fun b1 =>
    (fX7_countryAt b1 l1 z).bind fun q5_ =>
    nq q5_ (
      some (-2 : Int32)
    ) fun b8 =>
    (fX0_answer b8 l2 z).bind fun x20 =>
    some x20
  else none
set_option maxHeartbeats 4000000 in
set_option maxRecDepth 100000 in
theorem ctX9_country (l : Launch) (G : GW) (a0 : Nat) (l1 : Int32) (l2 : Int32) (z : AH) {r : Int32} (h : fX9_country a0 l1 l2 z = some r) : Met l yX9_country (wy yX9_country cX9_country 4 (some .int)) rmX9_country (Pz G [.ref (gB G + a0), .int l1, .int l2] z) (Qi G r z) 0 0 (AA G) := by
  refine wz_ent (own := RX9) (by decide +kernel) rfl (fun p e s m below meth c ls C hlk hr hin hW hl => ?_) (Nat.le_of_ble_eq_true rfl)
  have hl : lv_has ls 4 [(0, .ref (gB G + a0)), (1, .int l1), (2, .int l2)] := hl
  have hx := C.1
  have hb := C.2.1
  unfold fX9_country at h
  obtain ⟨-, h⟩ := ck h
  refine lv_aload_n hx hb dX9_country_0 rfl (lv_at hl 0 rfl) ?_
  obtain ⟨b1, hg, h⟩ := ob h
  refine wz_gN C hW flX9_13 hg dX9_country_1 ?_
  refine lv_iload_n hx hb dX9_country_4 rfl (lv_at hl 1 rfl) ?_
  obtain ⟨q5_, hq, h⟩ := ob h
  refine wz_rQ (c' := 0) (s' := 0) hW (wz_runV (rest := []) C hW lVX9_108 (ck hq).1 rfl (ctX7_countryAt l G b1 l1 z hq) ⟨⟨rfl, rfl⟩, Nat.le_of_ble_eq_true rfl, Nat.le_of_ble_eq_true rfl⟩ rfl hl.1 rfl (Nat.le_of_ble_eq_true rfl) dX9_country_5 ⟨Nat.le_of_ble_eq_true rfl, Nat.le_of_ble_eq_true rfl⟩) rfl rfl (fun H locs hW => ?_)
  cases q5_ with
  | none =>
    have h := nq_n h
    refine lv_astore_nN (lv' := [(3, .null), (0, .ref (gB G + a0)), (1, .int l1), (2, .int l2)]) hx hb dX9_country_8 rfl hl (by decide) rfl (fun ls hl => ?_)
    refine lv_aload_nN hx hb dX9_country_9 rfl (lv_at hl 0 rfl) ?_
    refine lv_ifnonnullN hx hb dX9_country_10 ?_
    refine lv_bipush (v := -2) hx hb dX9_country_13 (by decide) ?_
    refine lv_goto (tgt := 23) hx hb dX9_country_15 (by decide) ?_
    exact wz_iretE C hlk hr (Option.some.inj h) rfl hW dX9_country_23
  | some b8 =>
    have h := nq_s h
    refine lv_astore_n (lv' := [(3, .ref (gB G + b8)), (0, .ref (gB G + a0)), (1, .int l1), (2, .int l2)]) hx hb dX9_country_8 rfl hl (by decide) rfl (fun ls hl => ?_)
    refine lv_aload_n hx hb dX9_country_9 rfl (lv_at hl 0 rfl) ?_
    refine lv_ifnonnull (tgt := 18) hx hb dX9_country_10 (by decide) ?_
    refine lv_aload_n hx hb dX9_country_18 rfl (lv_at hl 0 rfl) ?_
    refine lv_iload_n hx hb dX9_country_19 rfl (lv_at hl 3 rfl) ?_
    obtain ⟨x20, hq, h⟩ := ob h
    refine wz_rI (c' := 0) (s' := 0) hW (wz_runV (rest := []) C hW lVX9_112 (ck hq).1 rfl (ctX0_answer l G b8 l2 z hq) ⟨⟨rfl, rfl⟩, Nat.le_of_ble_eq_true rfl, Nat.le_of_ble_eq_true rfl⟩ rfl hl.1 rfl (Nat.le_of_ble_eq_true rfl) dX9_country_20 ⟨Nat.le_of_ble_eq_true rfl, Nat.le_of_ble_eq_true rfl⟩) rfl rfl (fun H locs hW => ?_)
    exact wz_iretE C hlk hr (Option.some.inj h) rfl hW dX9_country_23
theorem lVX9_116 : LV RX9 116 yX7_rowsAt cX7_rowsAt 3 (some (.object "PairedViews$Rows")) 2 := ⟨tw 801 (by decide +kernel) rfl, tw 802 (by decide +kernel) rfl, tw 803 (by decide +kernel) rfl, tw 122 (by decide +kernel) rfl, tw 804 (by decide +kernel) rfl, ⟨by decide +kernel, by decide +kernel, by decide +kernel⟩⟩
theorem lVX9_125 : LV RX9 125 yX5_answer cX5_answer 3 (some .int) 2 := ⟨tw 805 (by decide +kernel) rfl, tw 806 (by decide +kernel) rfl, tw 807 (by decide +kernel) rfl, tw 134 (by decide +kernel) rfl, tw 808 (by decide +kernel) rfl, ⟨by decide +kernel, by decide +kernel, by decide +kernel⟩⟩
theorem flX9_120 : FL RX9 120 4 3 := ⟨_, rfl, Nat.le_of_ble_eq_true rfl, tw 746 (by decide +kernel) rfl, rfl⟩
theorem dX9_deed_0 : decode cX9_deed 0 = .ok (.aload_n 0, 1) := by decide +kernel
theorem dX9_deed_1 : decode cX9_deed 1 = .ok (.getfield 13, 3) := by decide +kernel
theorem dX9_deed_4 : decode cX9_deed 4 = .ok (.iconst 1, 1) := by decide +kernel
theorem dX9_deed_5 : decode cX9_deed 5 = .ok (.iload_n 1, 1) := by decide +kernel
theorem dX9_deed_6 : decode cX9_deed 6 = .ok (.invokevirtual 116, 3) := by decide +kernel
theorem dX9_deed_9 : decode cX9_deed 9 = .ok (.astore 4, 2) := by decide +kernel
theorem dX9_deed_11 : decode cX9_deed 11 = .ok (.aload 4, 2) := by decide +kernel
theorem dX9_deed_13 : decode cX9_deed 13 = .ok (.ifnonnull 6, 3) := by decide +kernel
theorem dX9_deed_16 : decode cX9_deed 16 = .ok (.bipush (-2), 2) := by decide +kernel
theorem dX9_deed_18 : decode cX9_deed 18 = .ok (.ireturn, 1) := by decide +kernel
theorem dX9_deed_19 : decode cX9_deed 19 = .ok (.iload_n 2, 1) := by decide +kernel
theorem dX9_deed_20 : decode cX9_deed 20 = .ok (.iconst (-1), 1) := by decide +kernel
theorem dX9_deed_21 : decode cX9_deed 21 = .ok (.if_icmp .ne 18, 3) := by decide +kernel
theorem dX9_deed_24 : decode cX9_deed 24 = .ok (.iload_n 3, 1) := by decide +kernel
theorem dX9_deed_25 : decode cX9_deed 25 = .ok (.ifCond .ne 11, 3) := by decide +kernel
theorem dX9_deed_28 : decode cX9_deed 28 = .ok (.aload 4, 2) := by decide +kernel
theorem dX9_deed_30 : decode cX9_deed 30 = .ok (.getfield 120, 3) := by decide +kernel
theorem dX9_deed_33 : decode cX9_deed 33 = .ok (.goto 5, 3) := by decide +kernel
theorem dX9_deed_36 : decode cX9_deed 36 = .ok (.bipush (-2), 2) := by decide +kernel
theorem dX9_deed_38 : decode cX9_deed 38 = .ok (.ireturn, 1) := by decide +kernel
theorem dX9_deed_39 : decode cX9_deed 39 = .ok (.aload 4, 2) := by decide +kernel
theorem dX9_deed_41 : decode cX9_deed 41 = .ok (.iload_n 2, 1) := by decide +kernel
theorem dX9_deed_42 : decode cX9_deed 42 = .ok (.iload_n 3, 1) := by decide +kernel
theorem dX9_deed_43 : decode cX9_deed 43 = .ok (.invokevirtual 125, 3) := by decide +kernel
theorem dX9_deed_46 : decode cX9_deed 46 = .ok (.ireturn, 1) := by decide +kernel
abbrev rmX9_deed : Room := { frames := 3, cells := 0, slots := 0, locals := 65 }
def fX9_deed (a0 : Nat) (l1 : Int32) (l2 : Int32) (l3 : Int32) (z : AH) : Option (Int32) :=
  if isO 8 z a0 = true then
    (gN 8 0 z a0).bind fun b1 =>
    (fX7_rowsAt b1 (1 : Int32) l1 z).bind fun q6_ =>
    nq q6_ (
      some (-2 : Int32)
    ) fun b9 =>
    if l2 = (-1 : Int32) then (
      if l3 = (0 : Int32) then (
        (gI 4 3 z b9).bind fun x30 =>
        some x30
      ) else (
        some (-2 : Int32)
      )
    ) else (
      (fX5_answer b9 l2 l3 z).bind fun x43 =>
      some x43
    )
  else none
set_option maxHeartbeats 4000000 in
set_option maxRecDepth 100000 in
theorem ctX9_deed (l : Launch) (G : GW) (a0 : Nat) (l1 : Int32) (l2 : Int32) (l3 : Int32) (z : AH) {r : Int32} (h : fX9_deed a0 l1 l2 l3 z = some r) : Met l yX9_deed (wy yX9_deed cX9_deed 5 (some .int)) rmX9_deed (Pz G [.ref (gB G + a0), .int l1, .int l2, .int l3] z) (Qi G r z) 0 0 (AA G) := by
  refine wz_ent (own := RX9) (by decide +kernel) rfl (fun p e s m below meth c ls C hlk hr hin hW hl => ?_) (Nat.le_of_ble_eq_true rfl)
  have hl : lv_has ls 5 [(0, .ref (gB G + a0)), (1, .int l1), (2, .int l2), (3, .int l3)] := hl
  have hx := C.1
  have hb := C.2.1
  unfold fX9_deed at h
  obtain ⟨-, h⟩ := ck h
  refine lv_aload_n hx hb dX9_deed_0 rfl (lv_at hl 0 rfl) ?_
  obtain ⟨b1, hg, h⟩ := ob h
  refine wz_gN C hW flX9_13 hg dX9_deed_1 ?_
  refine lv_iconst (v := 1) hx hb dX9_deed_4 (by decide) ?_
  refine lv_iload_n hx hb dX9_deed_5 rfl (lv_at hl 1 rfl) ?_
  obtain ⟨q6_, hq, h⟩ := ob h
  refine wz_rQ (c' := 0) (s' := 0) hW (wz_runV (rest := []) C hW lVX9_116 (ck hq).1 rfl (ctX7_rowsAt l G b1 (1 : Int32) l1 z hq) ⟨⟨rfl, rfl⟩, Nat.le_of_ble_eq_true rfl, Nat.le_of_ble_eq_true rfl⟩ rfl hl.1 rfl (Nat.le_of_ble_eq_true rfl) dX9_deed_6 ⟨Nat.le_of_ble_eq_true rfl, Nat.le_of_ble_eq_true rfl⟩) rfl rfl (fun H locs hW => ?_)
  cases q6_ with
  | none =>
    have h := nq_n h
    refine lv_astoreN (lv' := [(4, .null), (0, .ref (gB G + a0)), (1, .int l1), (2, .int l2), (3, .int l3)]) hx hb dX9_deed_9 hl (by decide) rfl (fun ls hl => ?_)
    refine lv_aloadN hx hb dX9_deed_11 (lv_at hl 0 rfl) ?_
    refine lv_ifnonnullN hx hb dX9_deed_13 ?_
    refine lv_bipush (v := -2) hx hb dX9_deed_16 (by decide) ?_
    exact wz_iretE C hlk hr (Option.some.inj h) rfl hW dX9_deed_18
  | some b9 =>
    have h := nq_s h
    refine lv_astore (lv' := [(4, .ref (gB G + b9)), (0, .ref (gB G + a0)), (1, .int l1), (2, .int l2), (3, .int l3)]) hx hb dX9_deed_9 hl (by decide) rfl (fun ls hl => ?_)
    refine lv_aload hx hb dX9_deed_11 (lv_at hl 0 rfl) ?_
    refine lv_ifnonnull (tgt := 19) hx hb dX9_deed_13 (by decide) ?_
    refine lv_iload_n hx hb dX9_deed_19 rfl (lv_at hl 3 rfl) ?_
    refine lv_iconst (v := -1) hx hb dX9_deed_20 (by decide) ?_
    refine lv_icmp_ne (tgt := 39) hx hb dX9_deed_21 (by decide) (fun c21 => ?_) (fun c21 => ?_)
    · have h := ite_f c21 h
      refine lv_aload hx hb dX9_deed_39 (lv_at hl 0 rfl) ?_
      refine lv_iload_n hx hb dX9_deed_41 rfl (lv_at hl 3 rfl) ?_
      refine lv_iload_n hx hb dX9_deed_42 rfl (lv_at hl 4 rfl) ?_
      obtain ⟨x43, hq, h⟩ := ob h
      refine wz_rI (c' := 0) (s' := 0) hW (wz_runV (rest := []) C hW lVX9_125 (ck hq).1 rfl (ctX5_answer l G b9 l2 l3 z hq) ⟨⟨rfl, rfl⟩, Nat.le_of_ble_eq_true rfl, Nat.le_of_ble_eq_true rfl⟩ rfl hl.1 rfl (Nat.le_of_ble_eq_true rfl) dX9_deed_43 ⟨Nat.le_of_ble_eq_true rfl, Nat.le_of_ble_eq_true rfl⟩) rfl rfl (fun H locs hW => ?_)
      exact wz_iretE C hlk hr (Option.some.inj h) rfl hW dX9_deed_46
    · have h := ite_t c21 h
      refine lv_iload_n hx hb dX9_deed_24 rfl (lv_at hl 4 rfl) ?_
      refine lv_if_ne (tgt := 36) hx hb dX9_deed_25 (by decide) (fun c25 => ?_) (fun c25 => ?_)
      · have h := ite_f c25 h
        refine lv_bipush (v := -2) hx hb dX9_deed_36 (by decide) ?_
        exact wz_iretE C hlk hr (Option.some.inj h) rfl hW dX9_deed_38
      · have h := ite_t c25 h
        refine lv_aload hx hb dX9_deed_28 (lv_at hl 0 rfl) ?_
        obtain ⟨x30, hg, h⟩ := ob h
        refine wz_gI C hW flX9_120 hg dX9_deed_30 ?_
        refine lv_goto (tgt := 38) hx hb dX9_deed_33 (by decide) ?_
        exact wz_iretE C hlk hr (Option.some.inj h) rfl hW dX9_deed_38
theorem flX9_39 : FL RX9 39 8 4 := ⟨_, rfl, Nat.le_of_ble_eq_true rfl, tw 477 (by decide +kernel) rfl, rfl⟩
theorem lVX9_127 : LV RX9 127 yX6_begin cX6_begin 2 none 1 := ⟨tw 814 (by decide +kernel) rfl, tw 815 (by decide +kernel) rfl, tw 816 (by decide +kernel) rfl, tw 124 (by decide +kernel) rfl, tw 817 (by decide +kernel) rfl, ⟨by decide +kernel, by decide +kernel, by decide +kernel⟩⟩
theorem lVX9_130 : LV RX9 130 yX6_live cX6_live 6 (some .int) 2 := ⟨tw 833 (by decide +kernel) rfl, tw 834 (by decide +kernel) rfl, tw 835 (by decide +kernel) rfl, tw 124 (by decide +kernel) rfl, tw 836 (by decide +kernel) rfl, ⟨by decide +kernel, by decide +kernel, by decide +kernel⟩⟩
theorem dX9_till_0 : decode cX9_till 0 = .ok (.aload_n 0, 1) := by decide +kernel
theorem dX9_till_1 : decode cX9_till 1 = .ok (.getfield 13, 3) := by decide +kernel
theorem dX9_till_4 : decode cX9_till 4 = .ok (.iload_n 1, 1) := by decide +kernel
theorem dX9_till_5 : decode cX9_till 5 = .ok (.invokevirtual 108, 3) := by decide +kernel
theorem dX9_till_8 : decode cX9_till 8 = .ok (.astore_n 3, 1) := by decide +kernel
theorem dX9_till_9 : decode cX9_till 9 = .ok (.aload_n 0, 1) := by decide +kernel
theorem dX9_till_10 : decode cX9_till 10 = .ok (.getfield 13, 3) := by decide +kernel
theorem dX9_till_13 : decode cX9_till 13 = .ok (.iconst 1, 1) := by decide +kernel
theorem dX9_till_14 : decode cX9_till 14 = .ok (.iload_n 2, 1) := by decide +kernel
theorem dX9_till_15 : decode cX9_till 15 = .ok (.invokevirtual 116, 3) := by decide +kernel
theorem dX9_till_18 : decode cX9_till 18 = .ok (.astore 4, 2) := by decide +kernel
theorem dX9_till_20 : decode cX9_till 20 = .ok (.aload_n 3, 1) := by decide +kernel
theorem dX9_till_21 : decode cX9_till 21 = .ok (.ifnull 8, 3) := by decide +kernel
theorem dX9_till_24 : decode cX9_till 24 = .ok (.aload 4, 2) := by decide +kernel
theorem dX9_till_26 : decode cX9_till 26 = .ok (.ifnonnull 5, 3) := by decide +kernel
theorem dX9_till_29 : decode cX9_till 29 = .ok (.iconst (-1), 1) := by decide +kernel
theorem dX9_till_30 : decode cX9_till 30 = .ok (.ireturn, 1) := by decide +kernel
theorem dX9_till_31 : decode cX9_till 31 = .ok (.aload_n 0, 1) := by decide +kernel
theorem dX9_till_32 : decode cX9_till 32 = .ok (.getfield 39, 3) := by decide +kernel
theorem dX9_till_35 : decode cX9_till 35 = .ok (.aload_n 3, 1) := by decide +kernel
theorem dX9_till_36 : decode cX9_till 36 = .ok (.invokevirtual 127, 3) := by decide +kernel
theorem dX9_till_39 : decode cX9_till 39 = .ok (.aload_n 0, 1) := by decide +kernel
theorem dX9_till_40 : decode cX9_till 40 = .ok (.getfield 39, 3) := by decide +kernel
theorem dX9_till_43 : decode cX9_till 43 = .ok (.aload 4, 2) := by decide +kernel
theorem dX9_till_45 : decode cX9_till 45 = .ok (.aload 4, 2) := by decide +kernel
theorem dX9_till_47 : decode cX9_till 47 = .ok (.getfield 120, 3) := by decide +kernel
theorem dX9_till_50 : decode cX9_till 50 = .ok (.invokevirtual 130, 3) := by decide +kernel
theorem dX9_till_53 : decode cX9_till 53 = .ok (.ireturn, 1) := by decide +kernel
abbrev rmX9_till : Room := { frames := 5, cells := 0, slots := 0, locals := 123 }
def fX9_till (a0 : Nat) (l1 : Int32) (l2 : Int32) (z : AH) : Option (Int32 × AH) :=
  if isO 8 z a0 = true then
    (gN 8 0 z a0).bind fun b1 =>
    (fX7_countryAt b1 l1 z).bind fun q5_ =>
    nq q5_ (
      (gN 8 0 z a0).bind fun b10 =>
      (fX7_rowsAt b10 (1 : Int32) l2 z).bind fun q15_ =>
      nq q15_ (
        some ((-1 : Int32), z)
      ) fun b18 =>
      some ((-1 : Int32), z)
    ) fun b8 =>
    (gN 8 0 z a0).bind fun b10 =>
    (fX7_rowsAt b10 (1 : Int32) l2 z).bind fun q15_ =>
    nq q15_ (
      some ((-1 : Int32), z)
    ) fun b18 =>
    (gN 8 4 z a0).bind fun b32 =>
    (fX6_begin b32 b8 z).bind fun z36 =>
    (gN 8 4 z36 a0).bind fun b40 =>
    (gI 4 3 z36 b18).bind fun x47 =>
    b2 (fX6_live b40 b18 x47 z36) fun x50 z50 =>
    some (x50, z50)
  else none
set_option maxHeartbeats 4000000 in
set_option maxRecDepth 100000 in
theorem ctX9_till (l : Launch) (G : GW) (a0 : Nat) (l1 : Int32) (l2 : Int32) (z : AH) {r : Int32} {z' : AH} (h : fX9_till a0 l1 l2 z = some (r, z')) : Met l yX9_till (wy yX9_till cX9_till 5 (some .int)) rmX9_till (Pz G [.ref (gB G + a0), .int l1, .int l2] z) (Qi G r z') 0 0 (AA G) := by
  refine wz_ent (own := RX9) (by decide +kernel) rfl (fun p e s m below meth c ls C hlk hr hin hW hl => ?_) (Nat.le_of_ble_eq_true rfl)
  have hl : lv_has ls 5 [(0, .ref (gB G + a0)), (1, .int l1), (2, .int l2)] := hl
  have hx := C.1
  have hb := C.2.1
  unfold fX9_till at h
  obtain ⟨-, h⟩ := ck h
  refine lv_aload_n hx hb dX9_till_0 rfl (lv_at hl 0 rfl) ?_
  obtain ⟨b1, hg, h⟩ := ob h
  refine wz_gN C hW flX9_13 hg dX9_till_1 ?_
  refine lv_iload_n hx hb dX9_till_4 rfl (lv_at hl 1 rfl) ?_
  obtain ⟨q5_, hq, h⟩ := ob h
  refine wz_rQ (c' := 0) (s' := 0) hW (wz_runV (rest := []) C hW lVX9_108 (ck hq).1 rfl (ctX7_countryAt l G b1 l1 z hq) ⟨⟨rfl, rfl⟩, Nat.le_of_ble_eq_true rfl, Nat.le_of_ble_eq_true rfl⟩ rfl hl.1 rfl (Nat.le_of_ble_eq_true rfl) dX9_till_5 ⟨Nat.le_of_ble_eq_true rfl, Nat.le_of_ble_eq_true rfl⟩) rfl rfl (fun H locs hW => ?_)
  cases q5_ with
  | none =>
    have h := nq_n h
    refine lv_astore_nN (lv' := [(3, .null), (0, .ref (gB G + a0)), (1, .int l1), (2, .int l2)]) hx hb dX9_till_8 rfl hl (by decide) rfl (fun ls hl => ?_)
    refine lv_aload_n hx hb dX9_till_9 rfl (lv_at hl 1 rfl) ?_
    obtain ⟨b10, hg, h⟩ := ob h
    refine wz_gN C hW flX9_13 hg dX9_till_10 ?_
    refine lv_iconst (v := 1) hx hb dX9_till_13 (by decide) ?_
    refine lv_iload_n hx hb dX9_till_14 rfl (lv_at hl 3 rfl) ?_
    obtain ⟨q15_, hq, h⟩ := ob h
    refine wz_rQ (c' := 0) (s' := 0) hW (wz_runV (rest := []) C hW lVX9_116 (ck hq).1 rfl (ctX7_rowsAt l G b10 (1 : Int32) l2 z hq) ⟨⟨rfl, rfl⟩, Nat.le_of_ble_eq_true rfl, Nat.le_of_ble_eq_true rfl⟩ rfl hl.1 rfl (Nat.le_of_ble_eq_true rfl) dX9_till_15 ⟨Nat.le_of_ble_eq_true rfl, Nat.le_of_ble_eq_true rfl⟩) rfl rfl (fun H locs hW => ?_)
    cases q15_ with
    | none =>
      have h := nq_n h
      refine lv_astoreN (lv' := [(4, .null), (3, .null), (0, .ref (gB G + a0)), (1, .int l1), (2, .int l2)]) hx hb dX9_till_18 hl (by decide) rfl (fun ls hl => ?_)
      refine lv_aload_nN hx hb dX9_till_20 rfl (lv_at hl 1 rfl) ?_
      refine lv_ifnullN (tgt := 29) hx hb dX9_till_21 (by decide) ?_
      refine lv_iconst (v := -1) hx hb dX9_till_29 (by decide) ?_
      exact wz_iretE C hlk hr (so2 h).1 (so2 h).2 hW dX9_till_30
    | some b18 =>
      have h := nq_s h
      refine lv_astore (lv' := [(4, .ref (gB G + b18)), (3, .null), (0, .ref (gB G + a0)), (1, .int l1), (2, .int l2)]) hx hb dX9_till_18 hl (by decide) rfl (fun ls hl => ?_)
      refine lv_aload_nN hx hb dX9_till_20 rfl (lv_at hl 1 rfl) ?_
      refine lv_ifnullN (tgt := 29) hx hb dX9_till_21 (by decide) ?_
      refine lv_iconst (v := -1) hx hb dX9_till_29 (by decide) ?_
      exact wz_iretE C hlk hr (so2 h).1 (so2 h).2 hW dX9_till_30
  | some b8 =>
    have h := nq_s h
    refine lv_astore_n (lv' := [(3, .ref (gB G + b8)), (0, .ref (gB G + a0)), (1, .int l1), (2, .int l2)]) hx hb dX9_till_8 rfl hl (by decide) rfl (fun ls hl => ?_)
    refine lv_aload_n hx hb dX9_till_9 rfl (lv_at hl 1 rfl) ?_
    obtain ⟨b10, hg, h⟩ := ob h
    refine wz_gN C hW flX9_13 hg dX9_till_10 ?_
    refine lv_iconst (v := 1) hx hb dX9_till_13 (by decide) ?_
    refine lv_iload_n hx hb dX9_till_14 rfl (lv_at hl 3 rfl) ?_
    obtain ⟨q15_, hq, h⟩ := ob h
    refine wz_rQ (c' := 0) (s' := 0) hW (wz_runV (rest := []) C hW lVX9_116 (ck hq).1 rfl (ctX7_rowsAt l G b10 (1 : Int32) l2 z hq) ⟨⟨rfl, rfl⟩, Nat.le_of_ble_eq_true rfl, Nat.le_of_ble_eq_true rfl⟩ rfl hl.1 rfl (Nat.le_of_ble_eq_true rfl) dX9_till_15 ⟨Nat.le_of_ble_eq_true rfl, Nat.le_of_ble_eq_true rfl⟩) rfl rfl (fun H locs hW => ?_)
    cases q15_ with
    | none =>
      have h := nq_n h
      refine lv_astoreN (lv' := [(4, .null), (3, .ref (gB G + b8)), (0, .ref (gB G + a0)), (1, .int l1), (2, .int l2)]) hx hb dX9_till_18 hl (by decide) rfl (fun ls hl => ?_)
      refine lv_aload_n hx hb dX9_till_20 rfl (lv_at hl 1 rfl) ?_
      refine lv_ifnull hx hb dX9_till_21 ?_
      refine lv_aloadN hx hb dX9_till_24 (lv_at hl 0 rfl) ?_
      refine lv_ifnonnullN hx hb dX9_till_26 ?_
      refine lv_iconst (v := -1) hx hb dX9_till_29 (by decide) ?_
      exact wz_iretE C hlk hr (so2 h).1 (so2 h).2 hW dX9_till_30
    | some b18 =>
      have h := nq_s h
      refine lv_astore (lv' := [(4, .ref (gB G + b18)), (3, .ref (gB G + b8)), (0, .ref (gB G + a0)), (1, .int l1), (2, .int l2)]) hx hb dX9_till_18 hl (by decide) rfl (fun ls hl => ?_)
      refine lv_aload_n hx hb dX9_till_20 rfl (lv_at hl 1 rfl) ?_
      refine lv_ifnull hx hb dX9_till_21 ?_
      refine lv_aload hx hb dX9_till_24 (lv_at hl 0 rfl) ?_
      refine lv_ifnonnull (tgt := 31) hx hb dX9_till_26 (by decide) ?_
      refine lv_aload_n hx hb dX9_till_31 rfl (lv_at hl 2 rfl) ?_
      obtain ⟨b32, hg, h⟩ := ob h
      refine wz_gN C hW flX9_39 hg dX9_till_32 ?_
      refine lv_aload_n hx hb dX9_till_35 rfl (lv_at hl 1 rfl) ?_
      obtain ⟨z36, hq, h⟩ := ob h
      refine wz_rV (c' := 0) (s' := 0) hW (wz_runV (rest := []) C hW lVX9_127 (ck hq).1 rfl (ctX6_begin l G b32 b8 z hq) ⟨⟨rfl, rfl⟩, Nat.le_of_ble_eq_true rfl, Nat.le_of_ble_eq_true rfl⟩ rfl hl.1 rfl (Nat.le_of_ble_eq_true rfl) dX9_till_36 ⟨Nat.le_of_ble_eq_true rfl, Nat.le_of_ble_eq_true rfl⟩) rfl rfl (fun H locs hW => ?_)
      refine lv_aload_n hx hb dX9_till_39 rfl (lv_at hl 2 rfl) ?_
      obtain ⟨b40, hg, h⟩ := ob h
      refine wz_gN C hW flX9_39 hg dX9_till_40 ?_
      refine lv_aload hx hb dX9_till_43 (lv_at hl 0 rfl) ?_
      refine lv_aload hx hb dX9_till_45 (lv_at hl 0 rfl) ?_
      obtain ⟨x47, hg, h⟩ := ob h
      refine wz_gI C hW flX9_120 hg dX9_till_47 ?_
      obtain ⟨x50, z50, hq, h⟩ := ob2 h
      refine wz_rI (c' := 0) (s' := 0) hW (wz_runV (rest := []) C hW lVX9_130 (ck hq).1 rfl (ctX6_live l G b40 b18 x47 z36 hq) ⟨⟨rfl, rfl⟩, Nat.le_of_ble_eq_true rfl, Nat.le_of_ble_eq_true rfl⟩ rfl hl.1 rfl (Nat.le_of_ble_eq_true rfl) dX9_till_50 ⟨Nat.le_of_ble_eq_true rfl, Nat.le_of_ble_eq_true rfl⟩) rfl rfl (fun H locs hW => ?_)
      exact wz_iretE C hlk hr (so2 h).1 (so2 h).2 hW dX9_till_53
theorem lVX9_134 : LV RX9 134 yX6_answer cX6_answer 2 (some .int) 1 := ⟨tw 888 (by decide +kernel) rfl, tw 889 (by decide +kernel) rfl, tw 890 (by decide +kernel) rfl, tw 124 (by decide +kernel) rfl, tw 891 (by decide +kernel) rfl, ⟨by decide +kernel, by decide +kernel, by decide +kernel⟩⟩
theorem dX9_state_0 : decode cX9_state 0 = .ok (.aload_n 0, 1) := by decide +kernel
theorem dX9_state_1 : decode cX9_state 1 = .ok (.getfield 13, 3) := by decide +kernel
theorem dX9_state_4 : decode cX9_state 4 = .ok (.iload_n 1, 1) := by decide +kernel
theorem dX9_state_5 : decode cX9_state 5 = .ok (.invokevirtual 108, 3) := by decide +kernel
theorem dX9_state_8 : decode cX9_state 8 = .ok (.astore 5, 2) := by decide +kernel
theorem dX9_state_10 : decode cX9_state 10 = .ok (.aload_n 0, 1) := by decide +kernel
theorem dX9_state_11 : decode cX9_state 11 = .ok (.getfield 13, 3) := by decide +kernel
theorem dX9_state_14 : decode cX9_state 14 = .ok (.iconst 1, 1) := by decide +kernel
theorem dX9_state_15 : decode cX9_state 15 = .ok (.iload_n 2, 1) := by decide +kernel
theorem dX9_state_16 : decode cX9_state 16 = .ok (.invokevirtual 116, 3) := by decide +kernel
theorem dX9_state_19 : decode cX9_state 19 = .ok (.astore 6, 2) := by decide +kernel
theorem dX9_state_21 : decode cX9_state 21 = .ok (.aload 5, 2) := by decide +kernel
theorem dX9_state_23 : decode cX9_state 23 = .ok (.ifnull 21, 3) := by decide +kernel
theorem dX9_state_26 : decode cX9_state 26 = .ok (.aload 6, 2) := by decide +kernel
theorem dX9_state_28 : decode cX9_state 28 = .ok (.ifnull 16, 3) := by decide +kernel
theorem dX9_state_31 : decode cX9_state 31 = .ok (.iload_n 3, 1) := by decide +kernel
theorem dX9_state_32 : decode cX9_state 32 = .ok (.ifCond .lt 12, 3) := by decide +kernel
theorem dX9_state_35 : decode cX9_state 35 = .ok (.iload_n 3, 1) := by decide +kernel
theorem dX9_state_36 : decode cX9_state 36 = .ok (.aload 6, 2) := by decide +kernel
theorem dX9_state_38 : decode cX9_state 38 = .ok (.getfield 120, 3) := by decide +kernel
theorem dX9_state_41 : decode cX9_state 41 = .ok (.if_icmp .le 6, 3) := by decide +kernel
theorem dX9_state_44 : decode cX9_state 44 = .ok (.bipush (-2), 2) := by decide +kernel
theorem dX9_state_46 : decode cX9_state 46 = .ok (.ireturn, 1) := by decide +kernel
theorem dX9_state_47 : decode cX9_state 47 = .ok (.aload_n 0, 1) := by decide +kernel
theorem dX9_state_48 : decode cX9_state 48 = .ok (.getfield 39, 3) := by decide +kernel
theorem dX9_state_51 : decode cX9_state 51 = .ok (.aload 5, 2) := by decide +kernel
theorem dX9_state_53 : decode cX9_state 53 = .ok (.invokevirtual 127, 3) := by decide +kernel
theorem dX9_state_56 : decode cX9_state 56 = .ok (.aload_n 0, 1) := by decide +kernel
theorem dX9_state_57 : decode cX9_state 57 = .ok (.getfield 39, 3) := by decide +kernel
theorem dX9_state_60 : decode cX9_state 60 = .ok (.aload 6, 2) := by decide +kernel
theorem dX9_state_62 : decode cX9_state 62 = .ok (.iload_n 3, 1) := by decide +kernel
theorem dX9_state_63 : decode cX9_state 63 = .ok (.invokevirtual 130, 3) := by decide +kernel
theorem dX9_state_66 : decode cX9_state 66 = .ok (.iload_n 3, 1) := by decide +kernel
theorem dX9_state_67 : decode cX9_state 67 = .ok (.if_icmp .ge 8, 3) := by decide +kernel
theorem dX9_state_70 : decode cX9_state 70 = .ok (.bipush (-2), 2) := by decide +kernel
theorem dX9_state_72 : decode cX9_state 72 = .ok (.goto 12, 3) := by decide +kernel
theorem dX9_state_75 : decode cX9_state 75 = .ok (.aload_n 0, 1) := by decide +kernel
theorem dX9_state_76 : decode cX9_state 76 = .ok (.getfield 39, 3) := by decide +kernel
theorem dX9_state_79 : decode cX9_state 79 = .ok (.iload 4, 2) := by decide +kernel
theorem dX9_state_81 : decode cX9_state 81 = .ok (.invokevirtual 134, 3) := by decide +kernel
theorem dX9_state_84 : decode cX9_state 84 = .ok (.ireturn, 1) := by decide +kernel
abbrev rmX9_state : Room := { frames := 5, cells := 0, slots := 0, locals := 123 }
def fX9_state (a0 : Nat) (l1 : Int32) (l2 : Int32) (l3 : Int32) (l4 : Int32) (z : AH) : Option (Int32 × AH) :=
  if isO 8 z a0 = true then
    (gN 8 0 z a0).bind fun b1 =>
    (fX7_countryAt b1 l1 z).bind fun q5_ =>
    nq q5_ (
      (gN 8 0 z a0).bind fun b11 =>
      (fX7_rowsAt b11 (1 : Int32) l2 z).bind fun q16_ =>
      nq q16_ (
        some ((-2 : Int32), z)
      ) fun b19 =>
      some ((-2 : Int32), z)
    ) fun b8 =>
    (gN 8 0 z a0).bind fun b11 =>
    (fX7_rowsAt b11 (1 : Int32) l2 z).bind fun q16_ =>
    nq q16_ (
      some ((-2 : Int32), z)
    ) fun b19 =>
    if l3 < (0 : Int32) then (
      some ((-2 : Int32), z)
    ) else (
      (gI 4 3 z b19).bind fun x38 =>
      if l3 ≤ x38 then (
        (gN 8 4 z a0).bind fun b48 =>
        (fX6_begin b48 b8 z).bind fun z53 =>
        (gN 8 4 z53 a0).bind fun b57 =>
        b2 (fX6_live b57 b19 l3 z53) fun x63 z63 =>
        if l3 ≤ x63 then (
          (gN 8 4 z63 a0).bind fun b76 =>
          (fX6_answer b76 l4 z63).bind fun x81 =>
          some (x81, z63)
        ) else (
          some ((-2 : Int32), z63)
        )
      ) else (
        some ((-2 : Int32), z)
      )
    )
  else none
set_option maxHeartbeats 4000000 in
set_option maxRecDepth 100000 in
theorem ctX9_state (l : Launch) (G : GW) (a0 : Nat) (l1 : Int32) (l2 : Int32) (l3 : Int32) (l4 : Int32) (z : AH) {r : Int32} {z' : AH} (h : fX9_state a0 l1 l2 l3 l4 z = some (r, z')) : Met l yX9_state (wy yX9_state cX9_state 7 (some .int)) rmX9_state (Pz G [.ref (gB G + a0), .int l1, .int l2, .int l3, .int l4] z) (Qi G r z') 0 0 (AA G) := by
  refine wz_ent (own := RX9) (by decide +kernel) rfl (fun p e s m below meth c ls C hlk hr hin hW hl => ?_) (Nat.le_of_ble_eq_true rfl)
  have hl : lv_has ls 7 [(0, .ref (gB G + a0)), (1, .int l1), (2, .int l2), (3, .int l3), (4, .int l4)] := hl
  have hx := C.1
  have hb := C.2.1
  unfold fX9_state at h
  obtain ⟨-, h⟩ := ck h
  refine lv_aload_n hx hb dX9_state_0 rfl (lv_at hl 0 rfl) ?_
  obtain ⟨b1, hg, h⟩ := ob h
  refine wz_gN C hW flX9_13 hg dX9_state_1 ?_
  refine lv_iload_n hx hb dX9_state_4 rfl (lv_at hl 1 rfl) ?_
  obtain ⟨q5_, hq, h⟩ := ob h
  refine wz_rQ (c' := 0) (s' := 0) hW (wz_runV (rest := []) C hW lVX9_108 (ck hq).1 rfl (ctX7_countryAt l G b1 l1 z hq) ⟨⟨rfl, rfl⟩, Nat.le_of_ble_eq_true rfl, Nat.le_of_ble_eq_true rfl⟩ rfl hl.1 rfl (Nat.le_of_ble_eq_true rfl) dX9_state_5 ⟨Nat.le_of_ble_eq_true rfl, Nat.le_of_ble_eq_true rfl⟩) rfl rfl (fun H locs hW => ?_)
  cases q5_ with
  | none =>
    have h := nq_n h
    refine lv_astoreN (lv' := [(5, .null), (0, .ref (gB G + a0)), (1, .int l1), (2, .int l2), (3, .int l3), (4, .int l4)]) hx hb dX9_state_8 hl (by decide) rfl (fun ls hl => ?_)
    refine lv_aload_n hx hb dX9_state_10 rfl (lv_at hl 1 rfl) ?_
    obtain ⟨b11, hg, h⟩ := ob h
    refine wz_gN C hW flX9_13 hg dX9_state_11 ?_
    refine lv_iconst (v := 1) hx hb dX9_state_14 (by decide) ?_
    refine lv_iload_n hx hb dX9_state_15 rfl (lv_at hl 3 rfl) ?_
    obtain ⟨q16_, hq, h⟩ := ob h
    refine wz_rQ (c' := 0) (s' := 0) hW (wz_runV (rest := []) C hW lVX9_116 (ck hq).1 rfl (ctX7_rowsAt l G b11 (1 : Int32) l2 z hq) ⟨⟨rfl, rfl⟩, Nat.le_of_ble_eq_true rfl, Nat.le_of_ble_eq_true rfl⟩ rfl hl.1 rfl (Nat.le_of_ble_eq_true rfl) dX9_state_16 ⟨Nat.le_of_ble_eq_true rfl, Nat.le_of_ble_eq_true rfl⟩) rfl rfl (fun H locs hW => ?_)
    cases q16_ with
    | none =>
      have h := nq_n h
      refine lv_astoreN (lv' := [(6, .null), (5, .null), (0, .ref (gB G + a0)), (1, .int l1), (2, .int l2), (3, .int l3), (4, .int l4)]) hx hb dX9_state_19 hl (by decide) rfl (fun ls hl => ?_)
      refine lv_aloadN hx hb dX9_state_21 (lv_at hl 1 rfl) ?_
      refine lv_ifnullN (tgt := 44) hx hb dX9_state_23 (by decide) ?_
      refine lv_bipush (v := -2) hx hb dX9_state_44 (by decide) ?_
      exact wz_iretE C hlk hr (so2 h).1 (so2 h).2 hW dX9_state_46
    | some b19 =>
      have h := nq_s h
      refine lv_astore (lv' := [(6, .ref (gB G + b19)), (5, .null), (0, .ref (gB G + a0)), (1, .int l1), (2, .int l2), (3, .int l3), (4, .int l4)]) hx hb dX9_state_19 hl (by decide) rfl (fun ls hl => ?_)
      refine lv_aloadN hx hb dX9_state_21 (lv_at hl 1 rfl) ?_
      refine lv_ifnullN (tgt := 44) hx hb dX9_state_23 (by decide) ?_
      refine lv_bipush (v := -2) hx hb dX9_state_44 (by decide) ?_
      exact wz_iretE C hlk hr (so2 h).1 (so2 h).2 hW dX9_state_46
  | some b8 =>
    have h := nq_s h
    refine lv_astore (lv' := [(5, .ref (gB G + b8)), (0, .ref (gB G + a0)), (1, .int l1), (2, .int l2), (3, .int l3), (4, .int l4)]) hx hb dX9_state_8 hl (by decide) rfl (fun ls hl => ?_)
    refine lv_aload_n hx hb dX9_state_10 rfl (lv_at hl 1 rfl) ?_
    obtain ⟨b11, hg, h⟩ := ob h
    refine wz_gN C hW flX9_13 hg dX9_state_11 ?_
    refine lv_iconst (v := 1) hx hb dX9_state_14 (by decide) ?_
    refine lv_iload_n hx hb dX9_state_15 rfl (lv_at hl 3 rfl) ?_
    obtain ⟨q16_, hq, h⟩ := ob h
    refine wz_rQ (c' := 0) (s' := 0) hW (wz_runV (rest := []) C hW lVX9_116 (ck hq).1 rfl (ctX7_rowsAt l G b11 (1 : Int32) l2 z hq) ⟨⟨rfl, rfl⟩, Nat.le_of_ble_eq_true rfl, Nat.le_of_ble_eq_true rfl⟩ rfl hl.1 rfl (Nat.le_of_ble_eq_true rfl) dX9_state_16 ⟨Nat.le_of_ble_eq_true rfl, Nat.le_of_ble_eq_true rfl⟩) rfl rfl (fun H locs hW => ?_)
    cases q16_ with
    | none =>
      have h := nq_n h
      refine lv_astoreN (lv' := [(6, .null), (5, .ref (gB G + b8)), (0, .ref (gB G + a0)), (1, .int l1), (2, .int l2), (3, .int l3), (4, .int l4)]) hx hb dX9_state_19 hl (by decide) rfl (fun ls hl => ?_)
      refine lv_aload hx hb dX9_state_21 (lv_at hl 1 rfl) ?_
      refine lv_ifnull hx hb dX9_state_23 ?_
      refine lv_aloadN hx hb dX9_state_26 (lv_at hl 0 rfl) ?_
      refine lv_ifnullN (tgt := 44) hx hb dX9_state_28 (by decide) ?_
      refine lv_bipush (v := -2) hx hb dX9_state_44 (by decide) ?_
      exact wz_iretE C hlk hr (so2 h).1 (so2 h).2 hW dX9_state_46
    | some b19 =>
      have h := nq_s h
      refine lv_astore (lv' := [(6, .ref (gB G + b19)), (5, .ref (gB G + b8)), (0, .ref (gB G + a0)), (1, .int l1), (2, .int l2), (3, .int l3), (4, .int l4)]) hx hb dX9_state_19 hl (by decide) rfl (fun ls hl => ?_)
      refine lv_aload hx hb dX9_state_21 (lv_at hl 1 rfl) ?_
      refine lv_ifnull hx hb dX9_state_23 ?_
      refine lv_aload hx hb dX9_state_26 (lv_at hl 0 rfl) ?_
      refine lv_ifnull hx hb dX9_state_28 ?_
      refine lv_iload_n hx hb dX9_state_31 rfl (lv_at hl 5 rfl) ?_
      refine lv_if_lt (tgt := 44) hx hb dX9_state_32 (by decide) (fun c32 => ?_) (fun c32 => ?_)
      · have h := ite_t c32 h
        refine lv_bipush (v := -2) hx hb dX9_state_44 (by decide) ?_
        exact wz_iretE C hlk hr (so2 h).1 (so2 h).2 hW dX9_state_46
      · have h := ite_f c32 h
        refine lv_iload_n hx hb dX9_state_35 rfl (lv_at hl 5 rfl) ?_
        refine lv_aload hx hb dX9_state_36 (lv_at hl 0 rfl) ?_
        obtain ⟨x38, hg, h⟩ := ob h
        refine wz_gI C hW flX9_120 hg dX9_state_38 ?_
        refine lv_icmp_le (tgt := 47) hx hb dX9_state_41 (by decide) (fun c41 => ?_) (fun c41 => ?_)
        · have h := ite_t c41 h
          refine lv_aload_n hx hb dX9_state_47 rfl (lv_at hl 2 rfl) ?_
          obtain ⟨b48, hg, h⟩ := ob h
          refine wz_gN C hW flX9_39 hg dX9_state_48 ?_
          refine lv_aload hx hb dX9_state_51 (lv_at hl 1 rfl) ?_
          obtain ⟨z53, hq, h⟩ := ob h
          refine wz_rV (c' := 0) (s' := 0) hW (wz_runV (rest := []) C hW lVX9_127 (ck hq).1 rfl (ctX6_begin l G b48 b8 z hq) ⟨⟨rfl, rfl⟩, Nat.le_of_ble_eq_true rfl, Nat.le_of_ble_eq_true rfl⟩ rfl hl.1 rfl (Nat.le_of_ble_eq_true rfl) dX9_state_53 ⟨Nat.le_of_ble_eq_true rfl, Nat.le_of_ble_eq_true rfl⟩) rfl rfl (fun H locs hW => ?_)
          refine lv_aload_n hx hb dX9_state_56 rfl (lv_at hl 2 rfl) ?_
          obtain ⟨b57, hg, h⟩ := ob h
          refine wz_gN C hW flX9_39 hg dX9_state_57 ?_
          refine lv_aload hx hb dX9_state_60 (lv_at hl 0 rfl) ?_
          refine lv_iload_n hx hb dX9_state_62 rfl (lv_at hl 5 rfl) ?_
          obtain ⟨x63, z63, hq, h⟩ := ob2 h
          refine wz_rI (c' := 0) (s' := 0) hW (wz_runV (rest := []) C hW lVX9_130 (ck hq).1 rfl (ctX6_live l G b57 b19 l3 z53 hq) ⟨⟨rfl, rfl⟩, Nat.le_of_ble_eq_true rfl, Nat.le_of_ble_eq_true rfl⟩ rfl hl.1 rfl (Nat.le_of_ble_eq_true rfl) dX9_state_63 ⟨Nat.le_of_ble_eq_true rfl, Nat.le_of_ble_eq_true rfl⟩) rfl rfl (fun H locs hW => ?_)
          refine lv_iload_n hx hb dX9_state_66 rfl (lv_at hl 5 rfl) ?_
          refine lv_icmp_ge (tgt := 75) hx hb dX9_state_67 (by decide) (fun c67 => ?_) (fun c67 => ?_)
          · have h := ite_t c67 h
            refine lv_aload_n hx hb dX9_state_75 rfl (lv_at hl 2 rfl) ?_
            obtain ⟨b76, hg, h⟩ := ob h
            refine wz_gN C hW flX9_39 hg dX9_state_76 ?_
            refine lv_iload hx hb dX9_state_79 (lv_at hl 6 rfl) ?_
            obtain ⟨x81, hq, h⟩ := ob h
            refine wz_rI (c' := 0) (s' := 0) hW (wz_runV (rest := []) C hW lVX9_134 (ck hq).1 rfl (ctX6_answer l G b76 l4 z63 hq) ⟨⟨rfl, rfl⟩, Nat.le_of_ble_eq_true rfl, Nat.le_of_ble_eq_true rfl⟩ rfl hl.1 rfl (Nat.le_of_ble_eq_true rfl) dX9_state_81 ⟨Nat.le_of_ble_eq_true rfl, Nat.le_of_ble_eq_true rfl⟩) rfl rfl (fun H locs hW => ?_)
            exact wz_iretE C hlk hr (so2 h).1 (so2 h).2 hW dX9_state_84
          · have h := ite_f c67 h
            refine lv_bipush (v := -2) hx hb dX9_state_70 (by decide) ?_
            refine lv_goto (tgt := 84) hx hb dX9_state_72 (by decide) ?_
            exact wz_iretE C hlk hr (so2 h).1 (so2 h).2 hW dX9_state_84
        · have h := ite_f c41 h
          refine lv_bipush (v := -2) hx hb dX9_state_44 (by decide) ?_
          exact wz_iretE C hlk hr (so2 h).1 (so2 h).2 hW dX9_state_46
theorem lVX9_139 : LV RX9 139 yX6_isThere cX6_isThere 2 (some .boolean) 1 := ⟨tw 901 (by decide +kernel) rfl, tw 848 (by decide +kernel) rfl, tw 849 (by decide +kernel) rfl, tw 124 (by decide +kernel) rfl, tw 850 (by decide +kernel) rfl, ⟨by decide +kernel, by decide +kernel, by decide +kernel⟩⟩
theorem lVX9_142 : LV RX9 142 yX6_passHour cX6_passHour 2 (some .boolean) 0 := ⟨tw 902 (by decide +kernel) rfl, tw 880 (by decide +kernel) rfl, tw 881 (by decide +kernel) rfl, tw 124 (by decide +kernel) rfl, tw 882 (by decide +kernel) rfl, ⟨by decide +kernel, by decide +kernel, by decide +kernel⟩⟩
theorem lVX9_135 : LV RX9 135 yX0_hasThing cX0_hasThing 2 (some .boolean) 1 := ⟨tw 900 (by decide +kernel) rfl, tw 701 (by decide +kernel) rfl, tw 702 (by decide +kernel) rfl, tw 121 (by decide +kernel) rfl, tw 703 (by decide +kernel) rfl, ⟨by decide +kernel, by decide +kernel, by decide +kernel⟩⟩
theorem dX9_lasts_0 : decode cX9_lasts 0 = .ok (.aload_n 0, 1) := by decide +kernel
theorem dX9_lasts_1 : decode cX9_lasts 1 = .ok (.getfield 13, 3) := by decide +kernel
theorem dX9_lasts_4 : decode cX9_lasts 4 = .ok (.iload_n 1, 1) := by decide +kernel
theorem dX9_lasts_5 : decode cX9_lasts 5 = .ok (.invokevirtual 108, 3) := by decide +kernel
theorem dX9_lasts_8 : decode cX9_lasts 8 = .ok (.astore_n 3, 1) := by decide +kernel
theorem dX9_lasts_9 : decode cX9_lasts 9 = .ok (.aload_n 3, 1) := by decide +kernel
theorem dX9_lasts_10 : decode cX9_lasts 10 = .ok (.ifnull 11, 3) := by decide +kernel
theorem dX9_lasts_13 : decode cX9_lasts 13 = .ok (.aload_n 3, 1) := by decide +kernel
theorem dX9_lasts_14 : decode cX9_lasts 14 = .ok (.iload_n 2, 1) := by decide +kernel
theorem dX9_lasts_15 : decode cX9_lasts 15 = .ok (.invokevirtual 135, 3) := by decide +kernel
theorem dX9_lasts_18 : decode cX9_lasts 18 = .ok (.ifCond .ne 5, 3) := by decide +kernel
theorem dX9_lasts_21 : decode cX9_lasts 21 = .ok (.iconst (-1), 1) := by decide +kernel
theorem dX9_lasts_22 : decode cX9_lasts 22 = .ok (.ireturn, 1) := by decide +kernel
theorem dX9_lasts_23 : decode cX9_lasts 23 = .ok (.aload_n 0, 1) := by decide +kernel
theorem dX9_lasts_24 : decode cX9_lasts 24 = .ok (.getfield 39, 3) := by decide +kernel
theorem dX9_lasts_27 : decode cX9_lasts 27 = .ok (.aload_n 3, 1) := by decide +kernel
theorem dX9_lasts_28 : decode cX9_lasts 28 = .ok (.invokevirtual 127, 3) := by decide +kernel
theorem dX9_lasts_31 : decode cX9_lasts 31 = .ok (.iconst 0, 1) := by decide +kernel
theorem dX9_lasts_32 : decode cX9_lasts 32 = .ok (.istore 4, 2) := by decide +kernel
theorem dX9_lasts_34 : decode cX9_lasts 34 = .ok (.iload 4, 2) := by decide +kernel
theorem dX9_lasts_36 : decode cX9_lasts 36 = .ok (.bipush 99, 2) := by decide +kernel
theorem dX9_lasts_38 : decode cX9_lasts 38 = .ok (.if_icmp .gt 31, 3) := by decide +kernel
theorem dX9_lasts_41 : decode cX9_lasts 41 = .ok (.aload_n 0, 1) := by decide +kernel
theorem dX9_lasts_42 : decode cX9_lasts 42 = .ok (.getfield 39, 3) := by decide +kernel
theorem dX9_lasts_45 : decode cX9_lasts 45 = .ok (.iload_n 2, 1) := by decide +kernel
theorem dX9_lasts_46 : decode cX9_lasts 46 = .ok (.invokevirtual 139, 3) := by decide +kernel
theorem dX9_lasts_49 : decode cX9_lasts 49 = .ok (.ifCond .ne 6, 3) := by decide +kernel
theorem dX9_lasts_52 : decode cX9_lasts 52 = .ok (.iload 4, 2) := by decide +kernel
theorem dX9_lasts_54 : decode cX9_lasts 54 = .ok (.ireturn, 1) := by decide +kernel
theorem dX9_lasts_55 : decode cX9_lasts 55 = .ok (.aload_n 0, 1) := by decide +kernel
theorem dX9_lasts_56 : decode cX9_lasts 56 = .ok (.getfield 39, 3) := by decide +kernel
theorem dX9_lasts_59 : decode cX9_lasts 59 = .ok (.invokevirtual 142, 3) := by decide +kernel
theorem dX9_lasts_62 : decode cX9_lasts 62 = .ok (.pop, 1) := by decide +kernel
theorem dX9_lasts_63 : decode cX9_lasts 63 = .ok (.iinc 4 1, 3) := by decide +kernel
theorem dX9_lasts_66 : decode cX9_lasts 66 = .ok (.goto (-32), 3) := by decide +kernel
theorem dX9_lasts_69 : decode cX9_lasts 69 = .ok (.iconst (-1), 1) := by decide +kernel
theorem dX9_lasts_70 : decode cX9_lasts 70 = .ok (.ireturn, 1) := by decide +kernel
abbrev rmX9_lasts : Room := { frames := 3, cells := 0, slots := 0, locals := 123 }
def bX9_lasts_34 (k34 : Nat → Int32 → Int32 → AH → Option (Int32 × AH)) (a0 : Nat) (l2 : Int32) (l4 : Int32) (z : AH) : Option (Int32 × AH) :=
  if (99 : Int32) < l4 then (
    some ((-1 : Int32), z)
  ) else (
    (gN 8 4 z a0).bind fun b42 =>
    (fX6_isThere b42 l2 z).bind fun x46 =>
    if x46 = (0 : Int32) then (
      some (l4, z)
    ) else (
      (gN 8 4 z a0).bind fun b56 =>
      b2 (fX6_passHour b56 z) fun x59 z59 =>
      nm (l4 + (1 : Int32)) fun v63 =>
      k34 a0 l2 v63 z59
    )
  )
set_option maxHeartbeats 4000000 in
set_option maxRecDepth 100000 in
theorem kbX9_lasts_34 {p : Program} {l : Launch} {e : Env} {s : State} {m : MethodId} {args : Array Value} {below : List Frame} {meth : Method} {c : Code} {G : GW} {r : Int32} {z' : AH} (C : Cx p m c cX9_lasts 5 s args RX9 G) (hlk : meth.locks = false) (hr : meth.sig.returnType = (some .int)) (k34 : Nat → Int32 → Int32 → AH → Option (Int32 × AH)) (hk34 : ∀ (a0 : Nat) (l2 : Int32) (l4 : Int32) (z : AH) (H : Heap) (locs : List Loc) (ls : Array Slot), k34 a0 l2 l4 z = some (r, z') → Wb G z s H locs → lv_has ls 5 [(0, .ref (gB G + a0)), (2, .int l2), (4, .int l4)] → W p l e rmX9_lasts s m args below meth c H locs 0 0 (MQ below (Qi G r z') args s 0 0 (AA G)) (F0 m 34 ls [])) (a0 : Nat) (l2 : Int32) (l4 : Int32) {z : AH} {H : Heap} {locs : List Loc} {ls : Array Slot} (h : bX9_lasts_34 k34 a0 l2 l4 z = some (r, z')) (hW : Wb G z s H locs) (hl : lv_has ls 5 [(0, .ref (gB G + a0)), (2, .int l2), (4, .int l4)]) : W p l e rmX9_lasts s m args below meth c H locs 0 0 (MQ below (Qi G r z') args s 0 0 (AA G)) (F0 m 34 ls []) := by
  have hx := C.1
  have hb := C.2.1
  unfold bX9_lasts_34 at h
  refine lv_iload hx hb dX9_lasts_34 (lv_at hl 2 rfl) ?_
  refine lv_bipush (v := 99) hx hb dX9_lasts_36 (by decide) ?_
  refine lv_icmp_gt (tgt := 69) hx hb dX9_lasts_38 (by decide) (fun c38 => ?_) (fun c38 => ?_)
  · have h := ite_t c38 h
    refine lv_iconst (v := -1) hx hb dX9_lasts_69 (by decide) ?_
    exact wz_iretE C hlk hr (so2 h).1 (so2 h).2 hW dX9_lasts_70
  · have h := ite_f c38 h
    refine lv_aload_n hx hb dX9_lasts_41 rfl (lv_at hl 0 rfl) ?_
    obtain ⟨b42, hg, h⟩ := ob h
    refine wz_gN C hW flX9_39 hg dX9_lasts_42 ?_
    refine lv_iload_n hx hb dX9_lasts_45 rfl (lv_at hl 1 rfl) ?_
    obtain ⟨x46, hq, h⟩ := ob h
    refine wz_rI (c' := 0) (s' := 0) hW (wz_runV (rest := []) C hW lVX9_139 (ck hq).1 rfl (ctX6_isThere l G b42 l2 z hq) ⟨⟨rfl, rfl⟩, Nat.le_of_ble_eq_true rfl, Nat.le_of_ble_eq_true rfl⟩ rfl hl.1 rfl (Nat.le_of_ble_eq_true rfl) dX9_lasts_46 ⟨Nat.le_of_ble_eq_true rfl, Nat.le_of_ble_eq_true rfl⟩) rfl rfl (fun H locs hW => ?_)
    refine lv_if_ne (tgt := 55) hx hb dX9_lasts_49 (by decide) (fun c49 => ?_) (fun c49 => ?_)
    · have h := ite_f c49 h
      refine lv_aload_n hx hb dX9_lasts_55 rfl (lv_at hl 0 rfl) ?_
      obtain ⟨b56, hg, h⟩ := ob h
      refine wz_gN C hW flX9_39 hg dX9_lasts_56 ?_
      obtain ⟨x59, z59, hq, h⟩ := ob2 h
      refine wz_rI (c' := 0) (s' := 0) hW (wz_runV (rest := []) C hW lVX9_142 (ck hq).1 rfl (ctX6_passHour l G b56 z hq) ⟨⟨rfl, rfl⟩, Nat.le_of_ble_eq_true rfl, Nat.le_of_ble_eq_true rfl⟩ rfl hl.1 rfl (Nat.le_of_ble_eq_true rfl) dX9_lasts_59 ⟨Nat.le_of_ble_eq_true rfl, Nat.le_of_ble_eq_true rfl⟩) rfl rfl (fun H locs hW => ?_)
      refine lv_pop hx hb dX9_lasts_62 rfl ?_
      obtain ⟨v63, ev63⟩ : ∃ y : Int32, y = (l4 + (1 : Int32)) := ⟨_, rfl⟩
      have h := nm_to h ev63
      refine lv_iinc (v := v63) (lv' := [(4, .int v63), (0, .ref (gB G + a0)), (2, .int l2)]) hx hb dX9_lasts_63 hl (k := 2) rfl (by rw [ev63]; rfl) (by decide) rfl (fun ls hl => ?_)
      refine lv_goto (tgt := 34) hx hb dX9_lasts_66 (by decide) ?_
      exact hk34 a0 l2 v63 z59 _ _ _ h hW (lv_sub hl [1, 2, 0] rfl)
    · have h := ite_t c49 h
      refine lv_iload hx hb dX9_lasts_52 (lv_at hl 2 rfl) ?_
      exact wz_iretE C hlk hr (so2 h).1 (so2 h).2 hW dX9_lasts_54
def fX9_lasts_34 : Nat → Nat → Int32 → Int32 → AH → Option (Int32 × AH)
  | 0, _, _, _, _ => none
  | n + 1, a0, l2, l4, z => bX9_lasts_34 (fX9_lasts_34 n) a0 l2 l4 z
theorem klX9_lasts_34 {p : Program} {l : Launch} {e : Env} {s : State} {m : MethodId} {args : Array Value} {below : List Frame} {meth : Method} {c : Code} {G : GW} {r : Int32} {z' : AH} (C : Cx p m c cX9_lasts 5 s args RX9 G) (hlk : meth.locks = false) (hr : meth.sig.returnType = (some .int)) : ∀ (n : Nat) (a0 : Nat) (l2 : Int32) (l4 : Int32) (z : AH) (H : Heap) (locs : List Loc) (ls : Array Slot), fX9_lasts_34 n a0 l2 l4 z = some (r, z') → Wb G z s H locs → lv_has ls 5 [(0, .ref (gB G + a0)), (2, .int l2), (4, .int l4)] → W p l e rmX9_lasts s m args below meth c H locs 0 0 (MQ below (Qi G r z') args s 0 0 (AA G)) (F0 m 34 ls []) := by
  intro n
  induction n with
  | zero => intro a0 l2 l4 z H locs ls h; have h : (none : Option (Int32 × AH)) = some (r, z') := h; cases h
  | succ n ih => intro a0 l2 l4 z H locs ls h hW hl; exact kbX9_lasts_34 C hlk hr (fX9_lasts_34 n) (fun a0 l2 l4 z H locs ls h hW hl => ih a0 l2 l4 z H locs ls h hW hl) a0 l2 l4 h hW hl
def fX9_lasts (a0 : Nat) (l1 : Int32) (l2 : Int32) (z : AH) : Option (Int32 × AH) :=
  if isO 8 z a0 = true then
    (gN 8 0 z a0).bind fun b1 =>
    (fX7_countryAt b1 l1 z).bind fun q5_ =>
    nq q5_ (
      some ((-1 : Int32), z)
    ) fun b8 =>
    (fX0_hasThing b8 l2 z).bind fun x15 =>
    if x15 = (0 : Int32) then (
      some ((-1 : Int32), z)
    ) else (
      (gN 8 4 z a0).bind fun b24 =>
      (fX6_begin b24 b8 z).bind fun z28 =>
      fX9_lasts_34 FU a0 l2 (0 : Int32) z28
    )
  else none
set_option maxHeartbeats 4000000 in
set_option maxRecDepth 100000 in
theorem ctX9_lasts (l : Launch) (G : GW) (a0 : Nat) (l1 : Int32) (l2 : Int32) (z : AH) {r : Int32} {z' : AH} (h : fX9_lasts a0 l1 l2 z = some (r, z')) : Met l yX9_lasts (wy yX9_lasts cX9_lasts 5 (some .int)) rmX9_lasts (Pz G [.ref (gB G + a0), .int l1, .int l2] z) (Qi G r z') 0 0 (AA G) := by
  refine wz_ent (own := RX9) (by decide +kernel) rfl (fun p e s m below meth c ls C hlk hr hin hW hl => ?_) (Nat.le_of_ble_eq_true rfl)
  have hl : lv_has ls 5 [(0, .ref (gB G + a0)), (1, .int l1), (2, .int l2)] := hl
  have hx := C.1
  have hb := C.2.1
  unfold fX9_lasts at h
  obtain ⟨-, h⟩ := ck h
  refine lv_aload_n hx hb dX9_lasts_0 rfl (lv_at hl 0 rfl) ?_
  obtain ⟨b1, hg, h⟩ := ob h
  refine wz_gN C hW flX9_13 hg dX9_lasts_1 ?_
  refine lv_iload_n hx hb dX9_lasts_4 rfl (lv_at hl 1 rfl) ?_
  obtain ⟨q5_, hq, h⟩ := ob h
  refine wz_rQ (c' := 0) (s' := 0) hW (wz_runV (rest := []) C hW lVX9_108 (ck hq).1 rfl (ctX7_countryAt l G b1 l1 z hq) ⟨⟨rfl, rfl⟩, Nat.le_of_ble_eq_true rfl, Nat.le_of_ble_eq_true rfl⟩ rfl hl.1 rfl (Nat.le_of_ble_eq_true rfl) dX9_lasts_5 ⟨Nat.le_of_ble_eq_true rfl, Nat.le_of_ble_eq_true rfl⟩) rfl rfl (fun H locs hW => ?_)
  cases q5_ with
  | none =>
    have h := nq_n h
    refine lv_astore_nN (lv' := [(3, .null), (0, .ref (gB G + a0)), (1, .int l1), (2, .int l2)]) hx hb dX9_lasts_8 rfl hl (by decide) rfl (fun ls hl => ?_)
    refine lv_aload_nN hx hb dX9_lasts_9 rfl (lv_at hl 0 rfl) ?_
    refine lv_ifnullN (tgt := 21) hx hb dX9_lasts_10 (by decide) ?_
    refine lv_iconst (v := -1) hx hb dX9_lasts_21 (by decide) ?_
    exact wz_iretE C hlk hr (so2 h).1 (so2 h).2 hW dX9_lasts_22
  | some b8 =>
    have h := nq_s h
    refine lv_astore_n (lv' := [(3, .ref (gB G + b8)), (0, .ref (gB G + a0)), (1, .int l1), (2, .int l2)]) hx hb dX9_lasts_8 rfl hl (by decide) rfl (fun ls hl => ?_)
    refine lv_aload_n hx hb dX9_lasts_9 rfl (lv_at hl 0 rfl) ?_
    refine lv_ifnull hx hb dX9_lasts_10 ?_
    refine lv_aload_n hx hb dX9_lasts_13 rfl (lv_at hl 0 rfl) ?_
    refine lv_iload_n hx hb dX9_lasts_14 rfl (lv_at hl 3 rfl) ?_
    obtain ⟨x15, hq, h⟩ := ob h
    refine wz_rI (c' := 0) (s' := 0) hW (wz_runV (rest := []) C hW lVX9_135 (ck hq).1 rfl (ctX0_hasThing l G b8 l2 z hq) ⟨⟨rfl, rfl⟩, Nat.le_of_ble_eq_true rfl, Nat.le_of_ble_eq_true rfl⟩ rfl hl.1 rfl (Nat.le_of_ble_eq_true rfl) dX9_lasts_15 ⟨Nat.le_of_ble_eq_true rfl, Nat.le_of_ble_eq_true rfl⟩) rfl rfl (fun H locs hW => ?_)
    refine lv_if_ne (tgt := 23) hx hb dX9_lasts_18 (by decide) (fun c18 => ?_) (fun c18 => ?_)
    · have h := ite_f c18 h
      refine lv_aload_n hx hb dX9_lasts_23 rfl (lv_at hl 1 rfl) ?_
      obtain ⟨b24, hg, h⟩ := ob h
      refine wz_gN C hW flX9_39 hg dX9_lasts_24 ?_
      refine lv_aload_n hx hb dX9_lasts_27 rfl (lv_at hl 0 rfl) ?_
      obtain ⟨z28, hq, h⟩ := ob h
      refine wz_rV (c' := 0) (s' := 0) hW (wz_runV (rest := []) C hW lVX9_127 (ck hq).1 rfl (ctX6_begin l G b24 b8 z hq) ⟨⟨rfl, rfl⟩, Nat.le_of_ble_eq_true rfl, Nat.le_of_ble_eq_true rfl⟩ rfl hl.1 rfl (Nat.le_of_ble_eq_true rfl) dX9_lasts_28 ⟨Nat.le_of_ble_eq_true rfl, Nat.le_of_ble_eq_true rfl⟩) rfl rfl (fun H locs hW => ?_)
      refine lv_iconst (v := 0) hx hb dX9_lasts_31 (by decide) ?_
      refine lv_istore (lv' := [(4, .int (0 : Int32)), (3, .ref (gB G + b8)), (0, .ref (gB G + a0)), (1, .int l1), (2, .int l2)]) hx hb dX9_lasts_32 hl (by decide) rfl (fun ls hl => ?_)
      exact klX9_lasts_34 C hlk hr FU a0 l2 (0 : Int32) z28 _ _ _ h hW (lv_sub hl [2, 4, 0] rfl)
    · have h := ite_t c18 h
      refine lv_iconst (v := -1) hx hb dX9_lasts_21 (by decide) ?_
      exact wz_iretE C hlk hr (so2 h).1 (so2 h).2 hW dX9_lasts_22
theorem lVX9_164 : LV RX9 164 yX6_fewestHours cX6_fewestHours 5 (some .int) 2 := ⟨tw 954 (by decide +kernel) rfl, tw 955 (by decide +kernel) rfl, tw 956 (by decide +kernel) rfl, tw 124 (by decide +kernel) rfl, tw 957 (by decide +kernel) rfl, ⟨by decide +kernel, by decide +kernel, by decide +kernel⟩⟩
theorem lVX9_161 : LV RX9 161 yX6_surest cX6_surest 5 (some .int) 2 := ⟨tw 946 (by decide +kernel) rfl, tw 947 (by decide +kernel) rfl, tw 948 (by decide +kernel) rfl, tw 124 (by decide +kernel) rfl, tw 949 (by decide +kernel) rfl, ⟨by decide +kernel, by decide +kernel, by decide +kernel⟩⟩
theorem dX9_way_0 : decode cX9_way 0 = .ok (.aload_n 0, 1) := by decide +kernel
theorem dX9_way_1 : decode cX9_way 1 = .ok (.getfield 13, 3) := by decide +kernel
theorem dX9_way_4 : decode cX9_way 4 = .ok (.iload_n 1, 1) := by decide +kernel
theorem dX9_way_5 : decode cX9_way 5 = .ok (.invokevirtual 108, 3) := by decide +kernel
theorem dX9_way_8 : decode cX9_way 8 = .ok (.astore 5, 2) := by decide +kernel
theorem dX9_way_10 : decode cX9_way 10 = .ok (.aload 5, 2) := by decide +kernel
theorem dX9_way_12 : decode cX9_way 12 = .ok (.ifnull 21, 3) := by decide +kernel
theorem dX9_way_15 : decode cX9_way 15 = .ok (.aload 5, 2) := by decide +kernel
theorem dX9_way_17 : decode cX9_way 17 = .ok (.iload_n 2, 1) := by decide +kernel
theorem dX9_way_18 : decode cX9_way 18 = .ok (.invokevirtual 135, 3) := by decide +kernel
theorem dX9_way_21 : decode cX9_way 21 = .ok (.ifCond .eq 12, 3) := by decide +kernel
theorem dX9_way_24 : decode cX9_way 24 = .ok (.aload 5, 2) := by decide +kernel
theorem dX9_way_26 : decode cX9_way 26 = .ok (.iload_n 3, 1) := by decide +kernel
theorem dX9_way_27 : decode cX9_way 27 = .ok (.invokevirtual 135, 3) := by decide +kernel
theorem dX9_way_30 : decode cX9_way 30 = .ok (.ifCond .ne 5, 3) := by decide +kernel
theorem dX9_way_33 : decode cX9_way 33 = .ok (.iconst (-1), 1) := by decide +kernel
theorem dX9_way_34 : decode cX9_way 34 = .ok (.ireturn, 1) := by decide +kernel
theorem dX9_way_35 : decode cX9_way 35 = .ok (.aload_n 0, 1) := by decide +kernel
theorem dX9_way_36 : decode cX9_way 36 = .ok (.getfield 39, 3) := by decide +kernel
theorem dX9_way_39 : decode cX9_way 39 = .ok (.aload 5, 2) := by decide +kernel
theorem dX9_way_41 : decode cX9_way 41 = .ok (.invokevirtual 127, 3) := by decide +kernel
theorem dX9_way_44 : decode cX9_way 44 = .ok (.iload 4, 2) := by decide +kernel
theorem dX9_way_46 : decode cX9_way 46 = .ok (.ifCond .eq 15, 3) := by decide +kernel
theorem dX9_way_49 : decode cX9_way 49 = .ok (.aload_n 0, 1) := by decide +kernel
theorem dX9_way_50 : decode cX9_way 50 = .ok (.getfield 39, 3) := by decide +kernel
theorem dX9_way_53 : decode cX9_way 53 = .ok (.iload_n 2, 1) := by decide +kernel
theorem dX9_way_54 : decode cX9_way 54 = .ok (.iload_n 3, 1) := by decide +kernel
theorem dX9_way_55 : decode cX9_way 55 = .ok (.invokevirtual 161, 3) := by decide +kernel
theorem dX9_way_58 : decode cX9_way 58 = .ok (.goto 12, 3) := by decide +kernel
theorem dX9_way_61 : decode cX9_way 61 = .ok (.aload_n 0, 1) := by decide +kernel
theorem dX9_way_62 : decode cX9_way 62 = .ok (.getfield 39, 3) := by decide +kernel
theorem dX9_way_65 : decode cX9_way 65 = .ok (.iload_n 2, 1) := by decide +kernel
theorem dX9_way_66 : decode cX9_way 66 = .ok (.iload_n 3, 1) := by decide +kernel
theorem dX9_way_67 : decode cX9_way 67 = .ok (.invokevirtual 164, 3) := by decide +kernel
theorem dX9_way_70 : decode cX9_way 70 = .ok (.ireturn, 1) := by decide +kernel
abbrev rmX9_way : Room := { frames := 4, cells := 0, slots := 0, locals := 123 }
def fX9_way (a0 : Nat) (l1 : Int32) (l2 : Int32) (l3 : Int32) (l4 : Int32) (z : AH) : Option (Int32 × AH) :=
  if isO 8 z a0 = true then
    (gN 8 0 z a0).bind fun b1 =>
    (fX7_countryAt b1 l1 z).bind fun q5_ =>
    nq q5_ (
      some ((-1 : Int32), z)
    ) fun b8 =>
    (fX0_hasThing b8 l2 z).bind fun x18 =>
    if x18 = (0 : Int32) then (
      some ((-1 : Int32), z)
    ) else (
      (fX0_hasThing b8 l3 z).bind fun x27 =>
      if x27 = (0 : Int32) then (
        some ((-1 : Int32), z)
      ) else (
        (gN 8 4 z a0).bind fun b36 =>
        (fX6_begin b36 b8 z).bind fun z41 =>
        if l4 = (0 : Int32) then (
          (gN 8 4 z41 a0).bind fun b62 =>
          b2 (fX6_fewestHours b62 l2 l3 z41) fun x67 z67 =>
          some (x67, z67)
        ) else (
          (gN 8 4 z41 a0).bind fun b50 =>
          b2 (fX6_surest b50 l2 l3 z41) fun x55 z55 =>
          some (x55, z55)
        )
      )
    )
  else none
set_option maxHeartbeats 4000000 in
set_option maxRecDepth 100000 in
theorem ctX9_way (l : Launch) (G : GW) (a0 : Nat) (l1 : Int32) (l2 : Int32) (l3 : Int32) (l4 : Int32) (z : AH) {r : Int32} {z' : AH} (h : fX9_way a0 l1 l2 l3 l4 z = some (r, z')) : Met l yX9_way (wy yX9_way cX9_way 6 (some .int)) rmX9_way (Pz G [.ref (gB G + a0), .int l1, .int l2, .int l3, .int l4] z) (Qi G r z') 0 0 (AA G) := by
  refine wz_ent (own := RX9) (by decide +kernel) rfl (fun p e s m below meth c ls C hlk hr hin hW hl => ?_) (Nat.le_of_ble_eq_true rfl)
  have hl : lv_has ls 6 [(0, .ref (gB G + a0)), (1, .int l1), (2, .int l2), (3, .int l3), (4, .int l4)] := hl
  have hx := C.1
  have hb := C.2.1
  unfold fX9_way at h
  obtain ⟨-, h⟩ := ck h
  refine lv_aload_n hx hb dX9_way_0 rfl (lv_at hl 0 rfl) ?_
  obtain ⟨b1, hg, h⟩ := ob h
  refine wz_gN C hW flX9_13 hg dX9_way_1 ?_
  refine lv_iload_n hx hb dX9_way_4 rfl (lv_at hl 1 rfl) ?_
  obtain ⟨q5_, hq, h⟩ := ob h
  refine wz_rQ (c' := 0) (s' := 0) hW (wz_runV (rest := []) C hW lVX9_108 (ck hq).1 rfl (ctX7_countryAt l G b1 l1 z hq) ⟨⟨rfl, rfl⟩, Nat.le_of_ble_eq_true rfl, Nat.le_of_ble_eq_true rfl⟩ rfl hl.1 rfl (Nat.le_of_ble_eq_true rfl) dX9_way_5 ⟨Nat.le_of_ble_eq_true rfl, Nat.le_of_ble_eq_true rfl⟩) rfl rfl (fun H locs hW => ?_)
  cases q5_ with
  | none =>
    have h := nq_n h
    refine lv_astoreN (lv' := [(5, .null), (0, .ref (gB G + a0)), (1, .int l1), (2, .int l2), (3, .int l3), (4, .int l4)]) hx hb dX9_way_8 hl (by decide) rfl (fun ls hl => ?_)
    refine lv_aloadN hx hb dX9_way_10 (lv_at hl 0 rfl) ?_
    refine lv_ifnullN (tgt := 33) hx hb dX9_way_12 (by decide) ?_
    refine lv_iconst (v := -1) hx hb dX9_way_33 (by decide) ?_
    exact wz_iretE C hlk hr (so2 h).1 (so2 h).2 hW dX9_way_34
  | some b8 =>
    have h := nq_s h
    refine lv_astore (lv' := [(5, .ref (gB G + b8)), (0, .ref (gB G + a0)), (1, .int l1), (2, .int l2), (3, .int l3), (4, .int l4)]) hx hb dX9_way_8 hl (by decide) rfl (fun ls hl => ?_)
    refine lv_aload hx hb dX9_way_10 (lv_at hl 0 rfl) ?_
    refine lv_ifnull hx hb dX9_way_12 ?_
    refine lv_aload hx hb dX9_way_15 (lv_at hl 0 rfl) ?_
    refine lv_iload_n hx hb dX9_way_17 rfl (lv_at hl 3 rfl) ?_
    obtain ⟨x18, hq, h⟩ := ob h
    refine wz_rI (c' := 0) (s' := 0) hW (wz_runV (rest := []) C hW lVX9_135 (ck hq).1 rfl (ctX0_hasThing l G b8 l2 z hq) ⟨⟨rfl, rfl⟩, Nat.le_of_ble_eq_true rfl, Nat.le_of_ble_eq_true rfl⟩ rfl hl.1 rfl (Nat.le_of_ble_eq_true rfl) dX9_way_18 ⟨Nat.le_of_ble_eq_true rfl, Nat.le_of_ble_eq_true rfl⟩) rfl rfl (fun H locs hW => ?_)
    refine lv_if_eq (tgt := 33) hx hb dX9_way_21 (by decide) (fun c21 => ?_) (fun c21 => ?_)
    · have h := ite_t c21 h
      refine lv_iconst (v := -1) hx hb dX9_way_33 (by decide) ?_
      exact wz_iretE C hlk hr (so2 h).1 (so2 h).2 hW dX9_way_34
    · have h := ite_f c21 h
      refine lv_aload hx hb dX9_way_24 (lv_at hl 0 rfl) ?_
      refine lv_iload_n hx hb dX9_way_26 rfl (lv_at hl 4 rfl) ?_
      obtain ⟨x27, hq, h⟩ := ob h
      refine wz_rI (c' := 0) (s' := 0) hW (wz_runV (rest := []) C hW lVX9_135 (ck hq).1 rfl (ctX0_hasThing l G b8 l3 z hq) ⟨⟨rfl, rfl⟩, Nat.le_of_ble_eq_true rfl, Nat.le_of_ble_eq_true rfl⟩ rfl hl.1 rfl (Nat.le_of_ble_eq_true rfl) dX9_way_27 ⟨Nat.le_of_ble_eq_true rfl, Nat.le_of_ble_eq_true rfl⟩) rfl rfl (fun H locs hW => ?_)
      refine lv_if_ne (tgt := 35) hx hb dX9_way_30 (by decide) (fun c30 => ?_) (fun c30 => ?_)
      · have h := ite_f c30 h
        refine lv_aload_n hx hb dX9_way_35 rfl (lv_at hl 1 rfl) ?_
        obtain ⟨b36, hg, h⟩ := ob h
        refine wz_gN C hW flX9_39 hg dX9_way_36 ?_
        refine lv_aload hx hb dX9_way_39 (lv_at hl 0 rfl) ?_
        obtain ⟨z41, hq, h⟩ := ob h
        refine wz_rV (c' := 0) (s' := 0) hW (wz_runV (rest := []) C hW lVX9_127 (ck hq).1 rfl (ctX6_begin l G b36 b8 z hq) ⟨⟨rfl, rfl⟩, Nat.le_of_ble_eq_true rfl, Nat.le_of_ble_eq_true rfl⟩ rfl hl.1 rfl (Nat.le_of_ble_eq_true rfl) dX9_way_41 ⟨Nat.le_of_ble_eq_true rfl, Nat.le_of_ble_eq_true rfl⟩) rfl rfl (fun H locs hW => ?_)
        refine lv_iload hx hb dX9_way_44 (lv_at hl 5 rfl) ?_
        refine lv_if_eq (tgt := 61) hx hb dX9_way_46 (by decide) (fun c46 => ?_) (fun c46 => ?_)
        · have h := ite_t c46 h
          refine lv_aload_n hx hb dX9_way_61 rfl (lv_at hl 1 rfl) ?_
          obtain ⟨b62, hg, h⟩ := ob h
          refine wz_gN C hW flX9_39 hg dX9_way_62 ?_
          refine lv_iload_n hx hb dX9_way_65 rfl (lv_at hl 3 rfl) ?_
          refine lv_iload_n hx hb dX9_way_66 rfl (lv_at hl 4 rfl) ?_
          obtain ⟨x67, z67, hq, h⟩ := ob2 h
          refine wz_rI (c' := 0) (s' := 0) hW (wz_runV (rest := []) C hW lVX9_164 (ck hq).1 rfl (ctX6_fewestHours l G b62 l2 l3 z41 hq) ⟨⟨rfl, rfl⟩, Nat.le_of_ble_eq_true rfl, Nat.le_of_ble_eq_true rfl⟩ rfl hl.1 rfl (Nat.le_of_ble_eq_true rfl) dX9_way_67 ⟨Nat.le_of_ble_eq_true rfl, Nat.le_of_ble_eq_true rfl⟩) rfl rfl (fun H locs hW => ?_)
          exact wz_iretE C hlk hr (so2 h).1 (so2 h).2 hW dX9_way_70
        · have h := ite_f c46 h
          refine lv_aload_n hx hb dX9_way_49 rfl (lv_at hl 1 rfl) ?_
          obtain ⟨b50, hg, h⟩ := ob h
          refine wz_gN C hW flX9_39 hg dX9_way_50 ?_
          refine lv_iload_n hx hb dX9_way_53 rfl (lv_at hl 3 rfl) ?_
          refine lv_iload_n hx hb dX9_way_54 rfl (lv_at hl 4 rfl) ?_
          obtain ⟨x55, z55, hq, h⟩ := ob2 h
          refine wz_rI (c' := 0) (s' := 0) hW (wz_runV (rest := []) C hW lVX9_161 (ck hq).1 rfl (ctX6_surest l G b50 l2 l3 z41 hq) ⟨⟨rfl, rfl⟩, Nat.le_of_ble_eq_true rfl, Nat.le_of_ble_eq_true rfl⟩ rfl hl.1 rfl (Nat.le_of_ble_eq_true rfl) dX9_way_55 ⟨Nat.le_of_ble_eq_true rfl, Nat.le_of_ble_eq_true rfl⟩) rfl rfl (fun H locs hW => ?_)
          refine lv_goto (tgt := 70) hx hb dX9_way_58 (by decide) ?_
          exact wz_iretE C hlk hr (so2 h).1 (so2 h).2 hW dX9_way_70
      · have h := ite_t c30 h
        refine lv_iconst (v := -1) hx hb dX9_way_33 (by decide) ?_
        exact wz_iretE C hlk hr (so2 h).1 (so2 h).2 hW dX9_way_34
theorem flX9_53 : FL RX9 53 8 6 := ⟨_, rfl, Nat.le_of_ble_eq_true rfl, tw 479 (by decide +kernel) rfl, rfl⟩
theorem lVX9_167 : LV RX9 167 yX1_marry cX1_marry 4 none 1 := ⟨tw 967 (by decide +kernel) rfl, tw 968 (by decide +kernel) rfl, tw 969 (by decide +kernel) rfl, tw 126 (by decide +kernel) rfl, tw 970 (by decide +kernel) rfl, ⟨by decide +kernel, by decide +kernel, by decide +kernel⟩⟩
theorem flX9_181 : FL RX9 181 1 0 := ⟨_, rfl, Nat.le_of_ble_eq_true rfl, tw 448 (by decide +kernel) rfl, rfl⟩
theorem flX9_184 : FL RX9 184 0 10 := ⟨_, rfl, Nat.le_of_ble_eq_true rfl, tw 177 (by decide +kernel) rfl, rfl⟩
theorem lTX9_177 : LT RX9 177 yX9_pick cX9_pick 3 (some .int) 3 := ⟨tw 995 (by decide +kernel) rfl, tw 523 (by decide +kernel) rfl, tw 120 (by decide +kernel) rfl, tw 524 (by decide +kernel) rfl, ⟨by decide +kernel, by decide +kernel, by decide +kernel⟩⟩
theorem flX9_170 : FL RX9 170 1 1 := ⟨_, rfl, Nat.le_of_ble_eq_true rfl, tw 450 (by decide +kernel) rfl, rfl⟩
theorem flX9_174 : FL RX9 174 0 11 := ⟨_, rfl, Nat.le_of_ble_eq_true rfl, tw 181 (by decide +kernel) rfl, rfl⟩
theorem dX9_married_0 : decode cX9_married 0 = .ok (.aload_n 0, 1) := by decide +kernel
theorem dX9_married_1 : decode cX9_married 1 = .ok (.getfield 13, 3) := by decide +kernel
theorem dX9_married_4 : decode cX9_married 4 = .ok (.iload_n 1, 1) := by decide +kernel
theorem dX9_married_5 : decode cX9_married 5 = .ok (.invokevirtual 108, 3) := by decide +kernel
theorem dX9_married_8 : decode cX9_married 8 = .ok (.astore 4, 2) := by decide +kernel
theorem dX9_married_10 : decode cX9_married 10 = .ok (.aload 4, 2) := by decide +kernel
theorem dX9_married_12 : decode cX9_married 12 = .ok (.ifnonnull 6, 3) := by decide +kernel
theorem dX9_married_15 : decode cX9_married 15 = .ok (.bipush (-2), 2) := by decide +kernel
theorem dX9_married_17 : decode cX9_married 17 = .ok (.ireturn, 1) := by decide +kernel
theorem dX9_married_18 : decode cX9_married 18 = .ok (.aload_n 0, 1) := by decide +kernel
theorem dX9_married_19 : decode cX9_married 19 = .ok (.getfield 53, 3) := by decide +kernel
theorem dX9_married_22 : decode cX9_married 22 = .ok (.aload 4, 2) := by decide +kernel
theorem dX9_married_24 : decode cX9_married 24 = .ok (.invokevirtual 167, 3) := by decide +kernel
theorem dX9_married_27 : decode cX9_married 27 = .ok (.iload_n 3, 1) := by decide +kernel
theorem dX9_married_28 : decode cX9_married 28 = .ok (.ifCond .eq 22, 3) := by decide +kernel
theorem dX9_married_31 : decode cX9_married 31 = .ok (.aload_n 0, 1) := by decide +kernel
theorem dX9_married_32 : decode cX9_married 32 = .ok (.getfield 53, 3) := by decide +kernel
theorem dX9_married_35 : decode cX9_married 35 = .ok (.getfield 170, 3) := by decide +kernel
theorem dX9_married_38 : decode cX9_married 38 = .ok (.aload 4, 2) := by decide +kernel
theorem dX9_married_40 : decode cX9_married 40 = .ok (.getfield 174, 3) := by decide +kernel
theorem dX9_married_43 : decode cX9_married 43 = .ok (.iload_n 2, 1) := by decide +kernel
theorem dX9_married_44 : decode cX9_married 44 = .ok (.invokestatic 177, 3) := by decide +kernel
theorem dX9_married_47 : decode cX9_married 47 = .ok (.goto 19, 3) := by decide +kernel
theorem dX9_married_50 : decode cX9_married 50 = .ok (.aload_n 0, 1) := by decide +kernel
theorem dX9_married_51 : decode cX9_married 51 = .ok (.getfield 53, 3) := by decide +kernel
theorem dX9_married_54 : decode cX9_married 54 = .ok (.getfield 181, 3) := by decide +kernel
theorem dX9_married_57 : decode cX9_married 57 = .ok (.aload 4, 2) := by decide +kernel
theorem dX9_married_59 : decode cX9_married 59 = .ok (.getfield 184, 3) := by decide +kernel
theorem dX9_married_62 : decode cX9_married 62 = .ok (.iload_n 2, 1) := by decide +kernel
theorem dX9_married_63 : decode cX9_married 63 = .ok (.invokestatic 177, 3) := by decide +kernel
theorem dX9_married_66 : decode cX9_married 66 = .ok (.ireturn, 1) := by decide +kernel
abbrev rmX9_married : Room := { frames := 5, cells := 0, slots := 0, locals := 115 }
def fX9_married (a0 : Nat) (l1 : Int32) (l2 : Int32) (l3 : Int32) (z : AH) : Option (Int32 × AH) :=
  if isO 8 z a0 = true then
    (gN 8 0 z a0).bind fun b1 =>
    (fX7_countryAt b1 l1 z).bind fun q5_ =>
    nq q5_ (
      some ((-2 : Int32), z)
    ) fun b8 =>
    (gN 8 6 z a0).bind fun b19 =>
    (fX1_marry b19 b8 z).bind fun z24 =>
    if l3 = (0 : Int32) then (
      (gN 8 6 z24 a0).bind fun b51 =>
      (gN 1 0 z24 b51).bind fun b54 =>
      (gI 0 10 z24 b8).bind fun x59 =>
      (fX9_pick b54 x59 l2 z24).bind fun x63 =>
      some (x63, z24)
    ) else (
      (gN 8 6 z24 a0).bind fun b32 =>
      (gN 1 1 z24 b32).bind fun b35 =>
      (gI 0 11 z24 b8).bind fun x40 =>
      (fX9_pick b35 x40 l2 z24).bind fun x44 =>
      some (x44, z24)
    )
  else none
set_option maxHeartbeats 4000000 in
set_option maxRecDepth 100000 in
theorem ctX9_married (l : Launch) (G : GW) (a0 : Nat) (l1 : Int32) (l2 : Int32) (l3 : Int32) (z : AH) {r : Int32} {z' : AH} (h : fX9_married a0 l1 l2 l3 z = some (r, z')) : Met l yX9_married (wy yX9_married cX9_married 5 (some .int)) rmX9_married (Pz G [.ref (gB G + a0), .int l1, .int l2, .int l3] z) (Qi G r z') 0 0 (AA G) := by
  refine wz_ent (own := RX9) (by decide +kernel) rfl (fun p e s m below meth c ls C hlk hr hin hW hl => ?_) (Nat.le_of_ble_eq_true rfl)
  have hl : lv_has ls 5 [(0, .ref (gB G + a0)), (1, .int l1), (2, .int l2), (3, .int l3)] := hl
  have hx := C.1
  have hb := C.2.1
  unfold fX9_married at h
  obtain ⟨-, h⟩ := ck h
  refine lv_aload_n hx hb dX9_married_0 rfl (lv_at hl 0 rfl) ?_
  obtain ⟨b1, hg, h⟩ := ob h
  refine wz_gN C hW flX9_13 hg dX9_married_1 ?_
  refine lv_iload_n hx hb dX9_married_4 rfl (lv_at hl 1 rfl) ?_
  obtain ⟨q5_, hq, h⟩ := ob h
  refine wz_rQ (c' := 0) (s' := 0) hW (wz_runV (rest := []) C hW lVX9_108 (ck hq).1 rfl (ctX7_countryAt l G b1 l1 z hq) ⟨⟨rfl, rfl⟩, Nat.le_of_ble_eq_true rfl, Nat.le_of_ble_eq_true rfl⟩ rfl hl.1 rfl (Nat.le_of_ble_eq_true rfl) dX9_married_5 ⟨Nat.le_of_ble_eq_true rfl, Nat.le_of_ble_eq_true rfl⟩) rfl rfl (fun H locs hW => ?_)
  cases q5_ with
  | none =>
    have h := nq_n h
    refine lv_astoreN (lv' := [(4, .null), (0, .ref (gB G + a0)), (1, .int l1), (2, .int l2), (3, .int l3)]) hx hb dX9_married_8 hl (by decide) rfl (fun ls hl => ?_)
    refine lv_aloadN hx hb dX9_married_10 (lv_at hl 0 rfl) ?_
    refine lv_ifnonnullN hx hb dX9_married_12 ?_
    refine lv_bipush (v := -2) hx hb dX9_married_15 (by decide) ?_
    exact wz_iretE C hlk hr (so2 h).1 (so2 h).2 hW dX9_married_17
  | some b8 =>
    have h := nq_s h
    refine lv_astore (lv' := [(4, .ref (gB G + b8)), (0, .ref (gB G + a0)), (1, .int l1), (2, .int l2), (3, .int l3)]) hx hb dX9_married_8 hl (by decide) rfl (fun ls hl => ?_)
    refine lv_aload hx hb dX9_married_10 (lv_at hl 0 rfl) ?_
    refine lv_ifnonnull (tgt := 18) hx hb dX9_married_12 (by decide) ?_
    refine lv_aload_n hx hb dX9_married_18 rfl (lv_at hl 1 rfl) ?_
    obtain ⟨b19, hg, h⟩ := ob h
    refine wz_gN C hW flX9_53 hg dX9_married_19 ?_
    refine lv_aload hx hb dX9_married_22 (lv_at hl 0 rfl) ?_
    obtain ⟨z24, hq, h⟩ := ob h
    refine wz_rV (c' := 0) (s' := 0) hW (wz_runV (rest := []) C hW lVX9_167 (ck hq).1 rfl (ctX1_marry l G b19 b8 z hq) ⟨⟨rfl, rfl⟩, Nat.le_of_ble_eq_true rfl, Nat.le_of_ble_eq_true rfl⟩ rfl hl.1 rfl (Nat.le_of_ble_eq_true rfl) dX9_married_24 ⟨Nat.le_of_ble_eq_true rfl, Nat.le_of_ble_eq_true rfl⟩) rfl rfl (fun H locs hW => ?_)
    refine lv_iload_n hx hb dX9_married_27 rfl (lv_at hl 4 rfl) ?_
    refine lv_if_eq (tgt := 50) hx hb dX9_married_28 (by decide) (fun c28 => ?_) (fun c28 => ?_)
    · have h := ite_t c28 h
      refine lv_aload_n hx hb dX9_married_50 rfl (lv_at hl 1 rfl) ?_
      obtain ⟨b51, hg, h⟩ := ob h
      refine wz_gN C hW flX9_53 hg dX9_married_51 ?_
      obtain ⟨b54, hg, h⟩ := ob h
      refine wz_gN C hW flX9_181 hg dX9_married_54 ?_
      refine lv_aload hx hb dX9_married_57 (lv_at hl 0 rfl) ?_
      obtain ⟨x59, hg, h⟩ := ob h
      refine wz_gI C hW flX9_184 hg dX9_married_59 ?_
      refine lv_iload_n hx hb dX9_married_62 rfl (lv_at hl 3 rfl) ?_
      obtain ⟨x63, hq, h⟩ := ob h
      refine wz_rI (c' := 0) (s' := 0) hW (wz_runS (rest := []) C hW lTX9_177 (ctX9_pick l G b54 x59 l2 z24 hq) ⟨⟨rfl, rfl⟩, Nat.le_of_ble_eq_true rfl, Nat.le_of_ble_eq_true rfl⟩ rfl hl.1 rfl (Nat.le_of_ble_eq_true rfl) dX9_married_63 ⟨Nat.le_of_ble_eq_true rfl, Nat.le_of_ble_eq_true rfl⟩) rfl rfl (fun H locs hW => ?_)
      exact wz_iretE C hlk hr (so2 h).1 (so2 h).2 hW dX9_married_66
    · have h := ite_f c28 h
      refine lv_aload_n hx hb dX9_married_31 rfl (lv_at hl 1 rfl) ?_
      obtain ⟨b32, hg, h⟩ := ob h
      refine wz_gN C hW flX9_53 hg dX9_married_32 ?_
      obtain ⟨b35, hg, h⟩ := ob h
      refine wz_gN C hW flX9_170 hg dX9_married_35 ?_
      refine lv_aload hx hb dX9_married_38 (lv_at hl 0 rfl) ?_
      obtain ⟨x40, hg, h⟩ := ob h
      refine wz_gI C hW flX9_174 hg dX9_married_40 ?_
      refine lv_iload_n hx hb dX9_married_43 rfl (lv_at hl 3 rfl) ?_
      obtain ⟨x44, hq, h⟩ := ob h
      refine wz_rI (c' := 0) (s' := 0) hW (wz_runS (rest := []) C hW lTX9_177 (ctX9_pick l G b35 x40 l2 z24 hq) ⟨⟨rfl, rfl⟩, Nat.le_of_ble_eq_true rfl, Nat.le_of_ble_eq_true rfl⟩ rfl hl.1 rfl (Nat.le_of_ble_eq_true rfl) dX9_married_44 ⟨Nat.le_of_ble_eq_true rfl, Nat.le_of_ble_eq_true rfl⟩) rfl rfl (fun H locs hW => ?_)
      refine lv_goto (tgt := 66) hx hb dX9_married_47 (by decide) ?_
      exact wz_iretE C hlk hr (so2 h).1 (so2 h).2 hW dX9_married_66
theorem lVX9_187 : LV RX9 187 yX1_countUnhappy cX1_countUnhappy 5 (some .int) 1 := ⟨tw 1000 (by decide +kernel) rfl, tw 1001 (by decide +kernel) rfl, tw 1002 (by decide +kernel) rfl, tw 126 (by decide +kernel) rfl, tw 1003 (by decide +kernel) rfl, ⟨by decide +kernel, by decide +kernel, by decide +kernel⟩⟩
theorem dX9_unhappy_0 : decode cX9_unhappy 0 = .ok (.aload_n 0, 1) := by decide +kernel
theorem dX9_unhappy_1 : decode cX9_unhappy 1 = .ok (.getfield 13, 3) := by decide +kernel
theorem dX9_unhappy_4 : decode cX9_unhappy 4 = .ok (.iload_n 1, 1) := by decide +kernel
theorem dX9_unhappy_5 : decode cX9_unhappy 5 = .ok (.invokevirtual 108, 3) := by decide +kernel
theorem dX9_unhappy_8 : decode cX9_unhappy 8 = .ok (.astore_n 2, 1) := by decide +kernel
theorem dX9_unhappy_9 : decode cX9_unhappy 9 = .ok (.aload_n 2, 1) := by decide +kernel
theorem dX9_unhappy_10 : decode cX9_unhappy 10 = .ok (.ifnonnull 7, 3) := by decide +kernel
theorem dX9_unhappy_13 : decode cX9_unhappy 13 = .ok (.iconst (-1), 1) := by decide +kernel
theorem dX9_unhappy_14 : decode cX9_unhappy 14 = .ok (.goto 11, 3) := by decide +kernel
theorem dX9_unhappy_17 : decode cX9_unhappy 17 = .ok (.aload_n 0, 1) := by decide +kernel
theorem dX9_unhappy_18 : decode cX9_unhappy 18 = .ok (.getfield 53, 3) := by decide +kernel
theorem dX9_unhappy_21 : decode cX9_unhappy 21 = .ok (.aload_n 2, 1) := by decide +kernel
theorem dX9_unhappy_22 : decode cX9_unhappy 22 = .ok (.invokevirtual 187, 3) := by decide +kernel
theorem dX9_unhappy_25 : decode cX9_unhappy 25 = .ok (.ireturn, 1) := by decide +kernel
abbrev rmX9_unhappy : Room := { frames := 4, cells := 0, slots := 0, locals := 92 }
def fX9_unhappy (a0 : Nat) (l1 : Int32) (z : AH) : Option (Int32 × AH) :=
  if isO 8 z a0 = true then
    (gN 8 0 z a0).bind fun b1 =>
    (fX7_countryAt b1 l1 z).bind fun q5_ =>
    nq q5_ (
      some ((-1 : Int32), z)
    ) fun b8 =>
    (gN 8 6 z a0).bind fun b18 =>
    b2 (fX1_countUnhappy b18 b8 z) fun x22 z22 =>
    some (x22, z22)
  else none
set_option maxHeartbeats 4000000 in
set_option maxRecDepth 100000 in
theorem ctX9_unhappy (l : Launch) (G : GW) (a0 : Nat) (l1 : Int32) (z : AH) {r : Int32} {z' : AH} (h : fX9_unhappy a0 l1 z = some (r, z')) : Met l yX9_unhappy (wy yX9_unhappy cX9_unhappy 3 (some .int)) rmX9_unhappy (Pz G [.ref (gB G + a0), .int l1] z) (Qi G r z') 0 0 (AA G) := by
  refine wz_ent (own := RX9) (by decide +kernel) rfl (fun p e s m below meth c ls C hlk hr hin hW hl => ?_) (Nat.le_of_ble_eq_true rfl)
  have hl : lv_has ls 3 [(0, .ref (gB G + a0)), (1, .int l1)] := hl
  have hx := C.1
  have hb := C.2.1
  unfold fX9_unhappy at h
  obtain ⟨-, h⟩ := ck h
  refine lv_aload_n hx hb dX9_unhappy_0 rfl (lv_at hl 0 rfl) ?_
  obtain ⟨b1, hg, h⟩ := ob h
  refine wz_gN C hW flX9_13 hg dX9_unhappy_1 ?_
  refine lv_iload_n hx hb dX9_unhappy_4 rfl (lv_at hl 1 rfl) ?_
  obtain ⟨q5_, hq, h⟩ := ob h
  refine wz_rQ (c' := 0) (s' := 0) hW (wz_runV (rest := []) C hW lVX9_108 (ck hq).1 rfl (ctX7_countryAt l G b1 l1 z hq) ⟨⟨rfl, rfl⟩, Nat.le_of_ble_eq_true rfl, Nat.le_of_ble_eq_true rfl⟩ rfl hl.1 rfl (Nat.le_of_ble_eq_true rfl) dX9_unhappy_5 ⟨Nat.le_of_ble_eq_true rfl, Nat.le_of_ble_eq_true rfl⟩) rfl rfl (fun H locs hW => ?_)
  cases q5_ with
  | none =>
    have h := nq_n h
    refine lv_astore_nN (lv' := [(2, .null), (0, .ref (gB G + a0)), (1, .int l1)]) hx hb dX9_unhappy_8 rfl hl (by decide) rfl (fun ls hl => ?_)
    refine lv_aload_nN hx hb dX9_unhappy_9 rfl (lv_at hl 0 rfl) ?_
    refine lv_ifnonnullN hx hb dX9_unhappy_10 ?_
    refine lv_iconst (v := -1) hx hb dX9_unhappy_13 (by decide) ?_
    refine lv_goto (tgt := 25) hx hb dX9_unhappy_14 (by decide) ?_
    exact wz_iretE C hlk hr (so2 h).1 (so2 h).2 hW dX9_unhappy_25
  | some b8 =>
    have h := nq_s h
    refine lv_astore_n (lv' := [(2, .ref (gB G + b8)), (0, .ref (gB G + a0)), (1, .int l1)]) hx hb dX9_unhappy_8 rfl hl (by decide) rfl (fun ls hl => ?_)
    refine lv_aload_n hx hb dX9_unhappy_9 rfl (lv_at hl 0 rfl) ?_
    refine lv_ifnonnull (tgt := 17) hx hb dX9_unhappy_10 (by decide) ?_
    refine lv_aload_n hx hb dX9_unhappy_17 rfl (lv_at hl 1 rfl) ?_
    obtain ⟨b18, hg, h⟩ := ob h
    refine wz_gN C hW flX9_53 hg dX9_unhappy_18 ?_
    refine lv_aload_n hx hb dX9_unhappy_21 rfl (lv_at hl 0 rfl) ?_
    obtain ⟨x22, z22, hq, h⟩ := ob2 h
    refine wz_rI (c' := 0) (s' := 0) hW (wz_runV (rest := []) C hW lVX9_187 (ck hq).1 rfl (ctX1_countUnhappy l G b18 b8 z hq) ⟨⟨rfl, rfl⟩, Nat.le_of_ble_eq_true rfl, Nat.le_of_ble_eq_true rfl⟩ rfl hl.1 rfl (Nat.le_of_ble_eq_true rfl) dX9_unhappy_22 ⟨Nat.le_of_ble_eq_true rfl, Nat.le_of_ble_eq_true rfl⟩) rfl rfl (fun H locs hW => ?_)
    exact wz_iretE C hlk hr (so2 h).1 (so2 h).2 hW dX9_unhappy_25
theorem dX9_isNumber_0 : decode cX9_isNumber 0 = .ok (.iload_n 0, 1) := by decide +kernel
theorem dX9_isNumber_1 : decode cX9_isNumber 1 = .ok (.ifCond .lt 13, 3) := by decide +kernel
theorem dX9_isNumber_4 : decode cX9_isNumber 4 = .ok (.iload_n 0, 1) := by decide +kernel
theorem dX9_isNumber_5 : decode cX9_isNumber 5 = .ok (.bipush 99, 2) := by decide +kernel
theorem dX9_isNumber_7 : decode cX9_isNumber 7 = .ok (.if_icmp .gt 7, 3) := by decide +kernel
theorem dX9_isNumber_10 : decode cX9_isNumber 10 = .ok (.iconst 1, 1) := by decide +kernel
theorem dX9_isNumber_11 : decode cX9_isNumber 11 = .ok (.goto 4, 3) := by decide +kernel
theorem dX9_isNumber_14 : decode cX9_isNumber 14 = .ok (.iconst 0, 1) := by decide +kernel
theorem dX9_isNumber_15 : decode cX9_isNumber 15 = .ok (.ireturn, 1) := by decide +kernel
abbrev rmX9_isNumber : Room := { frames := 0, cells := 0, slots := 0, locals := 0 }
def fX9_isNumber (l0 : Int32) : Int32 :=
  if l0 < (0 : Int32) then (
    (0 : Int32)
  ) else (
    if (99 : Int32) < l0 then (
      (0 : Int32)
    ) else (
      (1 : Int32)
    )
  )
set_option maxHeartbeats 4000000 in
set_option maxRecDepth 100000 in
theorem ctX9_isNumber (l : Launch) (G : GW) (l0 : Int32) (z : AH) {r : Int32} (h : fX9_isNumber l0 = r) : Met l yX9_isNumber (wy yX9_isNumber cX9_isNumber 1 (some .boolean)) rmX9_isNumber (Pz G [.int l0] z) (Qi G r z) 0 0 (AA G) := by
  refine wz_ent (own := RX9) (by decide +kernel) rfl (fun p e s m below meth c ls C hlk hr hin hW hl => ?_) (Nat.le_of_ble_eq_true rfl)
  have hl : lv_has ls 1 [(0, .int l0)] := hl
  have hx := C.1
  have hb := C.2.1
  unfold fX9_isNumber at h
  refine lv_iload_n hx hb dX9_isNumber_0 rfl (lv_at hl 0 rfl) ?_
  refine lv_if_lt (tgt := 14) hx hb dX9_isNumber_1 (by decide) (fun c1 => ?_) (fun c1 => ?_)
  · have h := ite_t c1 h
    refine lv_iconst (v := 0) hx hb dX9_isNumber_14 (by decide) ?_
    exact wz_zretE C hlk hr (Or.inl rfl) h rfl hW dX9_isNumber_15
  · have h := ite_f c1 h
    refine lv_iload_n hx hb dX9_isNumber_4 rfl (lv_at hl 0 rfl) ?_
    refine lv_bipush (v := 99) hx hb dX9_isNumber_5 (by decide) ?_
    refine lv_icmp_gt (tgt := 14) hx hb dX9_isNumber_7 (by decide) (fun c7 => ?_) (fun c7 => ?_)
    · have h := ite_t c7 h
      refine lv_iconst (v := 0) hx hb dX9_isNumber_14 (by decide) ?_
      exact wz_zretE C hlk hr (Or.inl rfl) h rfl hW dX9_isNumber_15
    · have h := ite_f c7 h
      refine lv_iconst (v := 1) hx hb dX9_isNumber_10 (by decide) ?_
      refine lv_goto (tgt := 15) hx hb dX9_isNumber_11 (by decide) ?_
      exact wz_zretE C hlk hr (Or.inr rfl) h rfl hW dX9_isNumber_15
theorem lTX9_191 : LT RX9 191 yX9_isNumber cX9_isNumber 1 (some .boolean) 1 := ⟨tw 1020 (by decide +kernel) rfl, tw 1021 (by decide +kernel) rfl, tw 120 (by decide +kernel) rfl, tw 1022 (by decide +kernel) rfl, ⟨by decide +kernel, by decide +kernel, by decide +kernel⟩⟩
theorem dX9_agree_0 : decode cX9_agree 0 = .ok (.iload_n 1, 1) := by decide +kernel
theorem dX9_agree_1 : decode cX9_agree 1 = .ok (.invokestatic 191, 3) := by decide +kernel
theorem dX9_agree_4 : decode cX9_agree 4 = .ok (.ifCond .eq 29, 3) := by decide +kernel
theorem dX9_agree_7 : decode cX9_agree 7 = .ok (.iload_n 2, 1) := by decide +kernel
theorem dX9_agree_8 : decode cX9_agree 8 = .ok (.invokestatic 191, 3) := by decide +kernel
theorem dX9_agree_11 : decode cX9_agree 11 = .ok (.ifCond .eq 22, 3) := by decide +kernel
theorem dX9_agree_14 : decode cX9_agree 14 = .ok (.iload_n 3, 1) := by decide +kernel
theorem dX9_agree_15 : decode cX9_agree 15 = .ok (.invokestatic 191, 3) := by decide +kernel
theorem dX9_agree_18 : decode cX9_agree 18 = .ok (.ifCond .eq 15, 3) := by decide +kernel
theorem dX9_agree_21 : decode cX9_agree 21 = .ok (.iload 4, 2) := by decide +kernel
theorem dX9_agree_23 : decode cX9_agree 23 = .ok (.ifCond .lt 10, 3) := by decide +kernel
theorem dX9_agree_26 : decode cX9_agree 26 = .ok (.iload 4, 2) := by decide +kernel
theorem dX9_agree_28 : decode cX9_agree 28 = .ok (.bipush 9, 2) := by decide +kernel
theorem dX9_agree_30 : decode cX9_agree 30 = .ok (.if_icmp .le 5, 3) := by decide +kernel
theorem dX9_agree_33 : decode cX9_agree 33 = .ok (.iconst (-1), 1) := by decide +kernel
theorem dX9_agree_34 : decode cX9_agree 34 = .ok (.ireturn, 1) := by decide +kernel
theorem dX9_agree_35 : decode cX9_agree 35 = .ok (.iload_n 1, 1) := by decide +kernel
theorem dX9_agree_36 : decode cX9_agree 36 = .ok (.iload_n 2, 1) := by decide +kernel
theorem dX9_agree_37 : decode cX9_agree 37 = .ok (.isub, 1) := by decide +kernel
theorem dX9_agree_38 : decode cX9_agree 38 = .ok (.invokestatic 194, 3) := by decide +kernel
theorem dX9_agree_41 : decode cX9_agree 41 = .ok (.istore 6, 2) := by decide +kernel
theorem dX9_agree_43 : decode cX9_agree 43 = .ok (.iload_n 1, 1) := by decide +kernel
theorem dX9_agree_44 : decode cX9_agree 44 = .ok (.iload_n 3, 1) := by decide +kernel
theorem dX9_agree_45 : decode cX9_agree 45 = .ok (.isub, 1) := by decide +kernel
theorem dX9_agree_46 : decode cX9_agree 46 = .ok (.invokestatic 194, 3) := by decide +kernel
theorem dX9_agree_49 : decode cX9_agree 49 = .ok (.istore 7, 2) := by decide +kernel
theorem dX9_agree_51 : decode cX9_agree 51 = .ok (.iload_n 2, 1) := by decide +kernel
theorem dX9_agree_52 : decode cX9_agree 52 = .ok (.iload_n 3, 1) := by decide +kernel
theorem dX9_agree_53 : decode cX9_agree 53 = .ok (.isub, 1) := by decide +kernel
theorem dX9_agree_54 : decode cX9_agree 54 = .ok (.invokestatic 194, 3) := by decide +kernel
theorem dX9_agree_57 : decode cX9_agree 57 = .ok (.istore 8, 2) := by decide +kernel
theorem dX9_agree_59 : decode cX9_agree 59 = .ok (.iload 6, 2) := by decide +kernel
theorem dX9_agree_61 : decode cX9_agree 61 = .ok (.iload 7, 2) := by decide +kernel
theorem dX9_agree_63 : decode cX9_agree 63 = .ok (.iload 8, 2) := by decide +kernel
theorem dX9_agree_65 : decode cX9_agree 65 = .ok (.invokestatic 199, 3) := by decide +kernel
theorem dX9_agree_68 : decode cX9_agree 68 = .ok (.invokestatic 199, 3) := by decide +kernel
theorem dX9_agree_71 : decode cX9_agree 71 = .ok (.istore 9, 2) := by decide +kernel
theorem dX9_agree_73 : decode cX9_agree 73 = .ok (.iload 9, 2) := by decide +kernel
theorem dX9_agree_75 : decode cX9_agree 75 = .ok (.iload 4, 2) := by decide +kernel
theorem dX9_agree_77 : decode cX9_agree 77 = .ok (.if_icmp .le 5, 3) := by decide +kernel
theorem dX9_agree_80 : decode cX9_agree 80 = .ok (.iconst (-1), 1) := by decide +kernel
theorem dX9_agree_81 : decode cX9_agree 81 = .ok (.ireturn, 1) := by decide +kernel
theorem dX9_agree_82 : decode cX9_agree 82 = .ok (.iload 6, 2) := by decide +kernel
theorem dX9_agree_84 : decode cX9_agree 84 = .ok (.iload 9, 2) := by decide +kernel
theorem dX9_agree_86 : decode cX9_agree 86 = .ok (.if_icmp .ne 18, 3) := by decide +kernel
theorem dX9_agree_89 : decode cX9_agree 89 = .ok (.iload 5, 2) := by decide +kernel
theorem dX9_agree_91 : decode cX9_agree 91 = .ok (.ifCond .eq 11, 3) := by decide +kernel
theorem dX9_agree_94 : decode cX9_agree 94 = .ok (.iload_n 1, 1) := by decide +kernel
theorem dX9_agree_95 : decode cX9_agree 95 = .ok (.iload_n 2, 1) := by decide +kernel
theorem dX9_agree_96 : decode cX9_agree 96 = .ok (.iadd, 1) := by decide +kernel
theorem dX9_agree_97 : decode cX9_agree 97 = .ok (.iconst 2, 1) := by decide +kernel
theorem dX9_agree_98 : decode cX9_agree 98 = .ok (.idiv, 1) := by decide +kernel
theorem dX9_agree_99 : decode cX9_agree 99 = .ok (.goto 4, 3) := by decide +kernel
theorem dX9_agree_102 : decode cX9_agree 102 = .ok (.iconst 0, 1) := by decide +kernel
theorem dX9_agree_103 : decode cX9_agree 103 = .ok (.ireturn, 1) := by decide +kernel
theorem dX9_agree_104 : decode cX9_agree 104 = .ok (.iload 7, 2) := by decide +kernel
theorem dX9_agree_106 : decode cX9_agree 106 = .ok (.iload 9, 2) := by decide +kernel
theorem dX9_agree_108 : decode cX9_agree 108 = .ok (.if_icmp .ne 18, 3) := by decide +kernel
theorem dX9_agree_111 : decode cX9_agree 111 = .ok (.iload 5, 2) := by decide +kernel
theorem dX9_agree_113 : decode cX9_agree 113 = .ok (.ifCond .eq 11, 3) := by decide +kernel
theorem dX9_agree_116 : decode cX9_agree 116 = .ok (.iload_n 1, 1) := by decide +kernel
theorem dX9_agree_117 : decode cX9_agree 117 = .ok (.iload_n 3, 1) := by decide +kernel
theorem dX9_agree_118 : decode cX9_agree 118 = .ok (.iadd, 1) := by decide +kernel
theorem dX9_agree_119 : decode cX9_agree 119 = .ok (.iconst 2, 1) := by decide +kernel
theorem dX9_agree_120 : decode cX9_agree 120 = .ok (.idiv, 1) := by decide +kernel
theorem dX9_agree_121 : decode cX9_agree 121 = .ok (.goto 4, 3) := by decide +kernel
theorem dX9_agree_124 : decode cX9_agree 124 = .ok (.iconst 1, 1) := by decide +kernel
theorem dX9_agree_125 : decode cX9_agree 125 = .ok (.ireturn, 1) := by decide +kernel
theorem dX9_agree_126 : decode cX9_agree 126 = .ok (.iload 5, 2) := by decide +kernel
theorem dX9_agree_128 : decode cX9_agree 128 = .ok (.ifCond .eq 11, 3) := by decide +kernel
theorem dX9_agree_131 : decode cX9_agree 131 = .ok (.iload_n 2, 1) := by decide +kernel
theorem dX9_agree_132 : decode cX9_agree 132 = .ok (.iload_n 3, 1) := by decide +kernel
theorem dX9_agree_133 : decode cX9_agree 133 = .ok (.iadd, 1) := by decide +kernel
theorem dX9_agree_134 : decode cX9_agree 134 = .ok (.iconst 2, 1) := by decide +kernel
theorem dX9_agree_135 : decode cX9_agree 135 = .ok (.idiv, 1) := by decide +kernel
theorem dX9_agree_136 : decode cX9_agree 136 = .ok (.goto 4, 3) := by decide +kernel
theorem dX9_agree_139 : decode cX9_agree 139 = .ok (.iconst 2, 1) := by decide +kernel
theorem dX9_agree_140 : decode cX9_agree 140 = .ok (.ireturn, 1) := by decide +kernel
abbrev rmX9_agree : Room := { frames := 1, cells := 0, slots := 0, locals := 24 }
def fX9_agree (a0 : Nat) (l1 : Int32) (l2 : Int32) (l3 : Int32) (l4 : Int32) (l5 : Int32) (z : AH) : Option (Int32) :=
  if isO 8 z a0 = true then
    if (fX9_isNumber l1) = (0 : Int32) then (
      some (-1 : Int32)
    ) else (
      if (fX9_isNumber l2) = (0 : Int32) then (
        some (-1 : Int32)
      ) else (
        if (fX9_isNumber l3) = (0 : Int32) then (
          some (-1 : Int32)
        ) else (
          if l4 < (0 : Int32) then (
            some (-1 : Int32)
          ) else (
            if l4 ≤ (9 : Int32) then (
              nm (iabs (l1 - l2)) fun v41 =>
              nm (iabs (l1 - l3)) fun v49 =>
              nm (iabs (l2 - l3)) fun v57 =>
              nm (imin v41 (imin v49 v57)) fun v71 =>
              if v71 ≤ l4 then (
                if v41 = v71 then (
                  if l5 = (0 : Int32) then (
                    some (0 : Int32)
                  ) else (
                    some ((l1 + l2) / (2 : Int32))
                  )
                ) else (
                  if v49 = v71 then (
                    if l5 = (0 : Int32) then (
                      some (1 : Int32)
                    ) else (
                      some ((l1 + l3) / (2 : Int32))
                    )
                  ) else (
                    if l5 = (0 : Int32) then (
                      some (2 : Int32)
                    ) else (
                      some ((l2 + l3) / (2 : Int32))
                    )
                  )
                )
              ) else (
                some (-1 : Int32)
              )
            ) else (
              some (-1 : Int32)
            )
          )
        )
      )
    )
  else none
set_option maxHeartbeats 4000000 in
set_option maxRecDepth 100000 in
theorem ctX9_agree (l : Launch) (G : GW) (a0 : Nat) (l1 : Int32) (l2 : Int32) (l3 : Int32) (l4 : Int32) (l5 : Int32) (z : AH) {r : Int32} (h : fX9_agree a0 l1 l2 l3 l4 l5 z = some r) : Met l yX9_agree (wy yX9_agree cX9_agree 10 (some .int)) rmX9_agree (Pz G [.ref (gB G + a0), .int l1, .int l2, .int l3, .int l4, .int l5] z) (Qi G r z) 0 0 (AA G) := by
  refine wz_ent (own := RX9) (by decide +kernel) rfl (fun p e s m below meth c ls C hlk hr hin hW hl => ?_) (Nat.le_of_ble_eq_true rfl)
  have hl : lv_has ls 10 [(0, .ref (gB G + a0)), (1, .int l1), (2, .int l2), (3, .int l3), (4, .int l4), (5, .int l5)] := hl
  have hx := C.1
  have hb := C.2.1
  unfold fX9_agree at h
  obtain ⟨-, h⟩ := ck h
  refine lv_iload_n hx hb dX9_agree_0 rfl (lv_at hl 1 rfl) ?_
  refine wz_rI (c' := 0) (s' := 0) hW (wz_runS (rest := []) C hW lTX9_191 (ctX9_isNumber l G l1 z rfl) ⟨⟨rfl, rfl⟩, Nat.le_of_ble_eq_true rfl, Nat.le_of_ble_eq_true rfl⟩ rfl hl.1 rfl (Nat.le_of_ble_eq_true rfl) dX9_agree_1 ⟨Nat.le_of_ble_eq_true rfl, Nat.le_of_ble_eq_true rfl⟩) rfl rfl (fun H locs hW => ?_)
  refine lv_if_eq (tgt := 33) hx hb dX9_agree_4 (by decide) (fun c4 => ?_) (fun c4 => ?_)
  · have h := ite_t c4 h
    refine lv_iconst (v := -1) hx hb dX9_agree_33 (by decide) ?_
    exact wz_iretE C hlk hr (Option.some.inj h) rfl hW dX9_agree_34
  · have h := ite_f c4 h
    refine lv_iload_n hx hb dX9_agree_7 rfl (lv_at hl 2 rfl) ?_
    refine wz_rI (c' := 0) (s' := 0) hW (wz_runS (rest := []) C hW lTX9_191 (ctX9_isNumber l G l2 z rfl) ⟨⟨rfl, rfl⟩, Nat.le_of_ble_eq_true rfl, Nat.le_of_ble_eq_true rfl⟩ rfl hl.1 rfl (Nat.le_of_ble_eq_true rfl) dX9_agree_8 ⟨Nat.le_of_ble_eq_true rfl, Nat.le_of_ble_eq_true rfl⟩) rfl rfl (fun H locs hW => ?_)
    refine lv_if_eq (tgt := 33) hx hb dX9_agree_11 (by decide) (fun c11 => ?_) (fun c11 => ?_)
    · have h := ite_t c11 h
      refine lv_iconst (v := -1) hx hb dX9_agree_33 (by decide) ?_
      exact wz_iretE C hlk hr (Option.some.inj h) rfl hW dX9_agree_34
    · have h := ite_f c11 h
      refine lv_iload_n hx hb dX9_agree_14 rfl (lv_at hl 3 rfl) ?_
      refine wz_rI (c' := 0) (s' := 0) hW (wz_runS (rest := []) C hW lTX9_191 (ctX9_isNumber l G l3 z rfl) ⟨⟨rfl, rfl⟩, Nat.le_of_ble_eq_true rfl, Nat.le_of_ble_eq_true rfl⟩ rfl hl.1 rfl (Nat.le_of_ble_eq_true rfl) dX9_agree_15 ⟨Nat.le_of_ble_eq_true rfl, Nat.le_of_ble_eq_true rfl⟩) rfl rfl (fun H locs hW => ?_)
      refine lv_if_eq (tgt := 33) hx hb dX9_agree_18 (by decide) (fun c18 => ?_) (fun c18 => ?_)
      · have h := ite_t c18 h
        refine lv_iconst (v := -1) hx hb dX9_agree_33 (by decide) ?_
        exact wz_iretE C hlk hr (Option.some.inj h) rfl hW dX9_agree_34
      · have h := ite_f c18 h
        refine lv_iload hx hb dX9_agree_21 (lv_at hl 4 rfl) ?_
        refine lv_if_lt (tgt := 33) hx hb dX9_agree_23 (by decide) (fun c23 => ?_) (fun c23 => ?_)
        · have h := ite_t c23 h
          refine lv_iconst (v := -1) hx hb dX9_agree_33 (by decide) ?_
          exact wz_iretE C hlk hr (Option.some.inj h) rfl hW dX9_agree_34
        · have h := ite_f c23 h
          refine lv_iload hx hb dX9_agree_26 (lv_at hl 4 rfl) ?_
          refine lv_bipush (v := 9) hx hb dX9_agree_28 (by decide) ?_
          refine lv_icmp_le (tgt := 35) hx hb dX9_agree_30 (by decide) (fun c30 => ?_) (fun c30 => ?_)
          · have h := ite_t c30 h
            refine lv_iload_n hx hb dX9_agree_35 rfl (lv_at hl 1 rfl) ?_
            refine lv_iload_n hx hb dX9_agree_36 rfl (lv_at hl 2 rfl) ?_
            refine lv_isub hx hb dX9_agree_37 ?_
            refine wz_abs ⟨tw 1023 (by decide +kernel) rfl, tw 865 (by decide +kernel) rfl, tw 129 (by decide +kernel) rfl, tw 866 (by decide +kernel) rfl⟩ C hl.1 ⟨⟨Nat.le_of_ble_eq_true rfl, Nat.le_of_ble_eq_true rfl⟩, Nat.le_of_ble_eq_true rfl, Nat.le_of_ble_eq_true rfl⟩ (Nat.le_of_ble_eq_true rfl) dX9_agree_38 ?_
            refine lv_topi (fun v41 ev41 => ?_)
            have h := nm_to h ev41
            refine lv_istore (lv' := [(6, .int v41), (0, .ref (gB G + a0)), (1, .int l1), (2, .int l2), (3, .int l3), (4, .int l4), (5, .int l5)]) hx hb dX9_agree_41 hl (by decide) rfl (fun ls hl => ?_)
            refine lv_iload_n hx hb dX9_agree_43 rfl (lv_at hl 2 rfl) ?_
            refine lv_iload_n hx hb dX9_agree_44 rfl (lv_at hl 4 rfl) ?_
            refine lv_isub hx hb dX9_agree_45 ?_
            refine wz_abs ⟨tw 1023 (by decide +kernel) rfl, tw 865 (by decide +kernel) rfl, tw 129 (by decide +kernel) rfl, tw 866 (by decide +kernel) rfl⟩ C hl.1 ⟨⟨Nat.le_of_ble_eq_true rfl, Nat.le_of_ble_eq_true rfl⟩, Nat.le_of_ble_eq_true rfl, Nat.le_of_ble_eq_true rfl⟩ (Nat.le_of_ble_eq_true rfl) dX9_agree_46 ?_
            refine lv_topi (fun v49 ev49 => ?_)
            have h := nm_to h ev49
            refine lv_istore (lv' := [(7, .int v49), (6, .int v41), (0, .ref (gB G + a0)), (1, .int l1), (2, .int l2), (3, .int l3), (4, .int l4), (5, .int l5)]) hx hb dX9_agree_49 hl (by decide) rfl (fun ls hl => ?_)
            refine lv_iload_n hx hb dX9_agree_51 rfl (lv_at hl 4 rfl) ?_
            refine lv_iload_n hx hb dX9_agree_52 rfl (lv_at hl 5 rfl) ?_
            refine lv_isub hx hb dX9_agree_53 ?_
            refine wz_abs ⟨tw 1023 (by decide +kernel) rfl, tw 865 (by decide +kernel) rfl, tw 129 (by decide +kernel) rfl, tw 866 (by decide +kernel) rfl⟩ C hl.1 ⟨⟨Nat.le_of_ble_eq_true rfl, Nat.le_of_ble_eq_true rfl⟩, Nat.le_of_ble_eq_true rfl, Nat.le_of_ble_eq_true rfl⟩ (Nat.le_of_ble_eq_true rfl) dX9_agree_54 ?_
            refine lv_topi (fun v57 ev57 => ?_)
            have h := nm_to h ev57
            refine lv_istore (lv' := [(8, .int v57), (7, .int v49), (6, .int v41), (0, .ref (gB G + a0)), (1, .int l1), (2, .int l2), (3, .int l3), (4, .int l4), (5, .int l5)]) hx hb dX9_agree_57 hl (by decide) rfl (fun ls hl => ?_)
            refine lv_iload hx hb dX9_agree_59 (lv_at hl 2 rfl) ?_
            refine lv_iload hx hb dX9_agree_61 (lv_at hl 1 rfl) ?_
            refine lv_iload hx hb dX9_agree_63 (lv_at hl 0 rfl) ?_
            refine wz_min ⟨tw 1024 (by decide +kernel) rfl, tw 530 (by decide +kernel) rfl, tw 129 (by decide +kernel) rfl, tw 531 (by decide +kernel) rfl⟩ C hl.1 ⟨⟨Nat.le_of_ble_eq_true rfl, Nat.le_of_ble_eq_true rfl⟩, Nat.le_of_ble_eq_true rfl, Nat.le_of_ble_eq_true rfl⟩ (Nat.le_of_ble_eq_true rfl) dX9_agree_65 ?_
            refine wz_min ⟨tw 1024 (by decide +kernel) rfl, tw 530 (by decide +kernel) rfl, tw 129 (by decide +kernel) rfl, tw 531 (by decide +kernel) rfl⟩ C hl.1 ⟨⟨Nat.le_of_ble_eq_true rfl, Nat.le_of_ble_eq_true rfl⟩, Nat.le_of_ble_eq_true rfl, Nat.le_of_ble_eq_true rfl⟩ (Nat.le_of_ble_eq_true rfl) dX9_agree_68 ?_
            refine lv_topi (fun v71 ev71 => ?_)
            have h := nm_to h ev71
            refine lv_istore (lv' := [(9, .int v71), (8, .int v57), (7, .int v49), (6, .int v41), (0, .ref (gB G + a0)), (1, .int l1), (2, .int l2), (3, .int l3), (4, .int l4), (5, .int l5)]) hx hb dX9_agree_71 hl (by decide) rfl (fun ls hl => ?_)
            refine lv_iload hx hb dX9_agree_73 (lv_at hl 0 rfl) ?_
            refine lv_iload hx hb dX9_agree_75 (lv_at hl 8 rfl) ?_
            refine lv_icmp_le (tgt := 82) hx hb dX9_agree_77 (by decide) (fun c77 => ?_) (fun c77 => ?_)
            · have h := ite_t c77 h
              refine lv_iload hx hb dX9_agree_82 (lv_at hl 3 rfl) ?_
              refine lv_iload hx hb dX9_agree_84 (lv_at hl 0 rfl) ?_
              refine lv_icmp_ne (tgt := 104) hx hb dX9_agree_86 (by decide) (fun c86 => ?_) (fun c86 => ?_)
              · have h := ite_f c86 h
                refine lv_iload hx hb dX9_agree_104 (lv_at hl 2 rfl) ?_
                refine lv_iload hx hb dX9_agree_106 (lv_at hl 0 rfl) ?_
                refine lv_icmp_ne (tgt := 126) hx hb dX9_agree_108 (by decide) (fun c108 => ?_) (fun c108 => ?_)
                · have h := ite_f c108 h
                  refine lv_iload hx hb dX9_agree_126 (lv_at hl 9 rfl) ?_
                  refine lv_if_eq (tgt := 139) hx hb dX9_agree_128 (by decide) (fun c128 => ?_) (fun c128 => ?_)
                  · have h := ite_t c128 h
                    refine lv_iconst (v := 2) hx hb dX9_agree_139 (by decide) ?_
                    exact wz_iretE C hlk hr (Option.some.inj h) rfl hW dX9_agree_140
                  · have h := ite_f c128 h
                    refine lv_iload_n hx hb dX9_agree_131 rfl (lv_at hl 6 rfl) ?_
                    refine lv_iload_n hx hb dX9_agree_132 rfl (lv_at hl 7 rfl) ?_
                    refine lv_iadd hx hb dX9_agree_133 ?_
                    refine lv_iconst (v := 2) hx hb dX9_agree_134 (by decide) ?_
                    refine lv_idiv hx hb dX9_agree_135 (by decide) ?_
                    refine lv_goto (tgt := 140) hx hb dX9_agree_136 (by decide) ?_
                    exact wz_iretE C hlk hr (Option.some.inj h) rfl hW dX9_agree_140
                · have h := ite_t c108 h
                  refine lv_iload hx hb dX9_agree_111 (lv_at hl 9 rfl) ?_
                  refine lv_if_eq (tgt := 124) hx hb dX9_agree_113 (by decide) (fun c113 => ?_) (fun c113 => ?_)
                  · have h := ite_t c113 h
                    refine lv_iconst (v := 1) hx hb dX9_agree_124 (by decide) ?_
                    exact wz_iretE C hlk hr (Option.some.inj h) rfl hW dX9_agree_125
                  · have h := ite_f c113 h
                    refine lv_iload_n hx hb dX9_agree_116 rfl (lv_at hl 5 rfl) ?_
                    refine lv_iload_n hx hb dX9_agree_117 rfl (lv_at hl 7 rfl) ?_
                    refine lv_iadd hx hb dX9_agree_118 ?_
                    refine lv_iconst (v := 2) hx hb dX9_agree_119 (by decide) ?_
                    refine lv_idiv hx hb dX9_agree_120 (by decide) ?_
                    refine lv_goto (tgt := 125) hx hb dX9_agree_121 (by decide) ?_
                    exact wz_iretE C hlk hr (Option.some.inj h) rfl hW dX9_agree_125
              · have h := ite_t c86 h
                refine lv_iload hx hb dX9_agree_89 (lv_at hl 9 rfl) ?_
                refine lv_if_eq (tgt := 102) hx hb dX9_agree_91 (by decide) (fun c91 => ?_) (fun c91 => ?_)
                · have h := ite_t c91 h
                  refine lv_iconst (v := 0) hx hb dX9_agree_102 (by decide) ?_
                  exact wz_iretE C hlk hr (Option.some.inj h) rfl hW dX9_agree_103
                · have h := ite_f c91 h
                  refine lv_iload_n hx hb dX9_agree_94 rfl (lv_at hl 5 rfl) ?_
                  refine lv_iload_n hx hb dX9_agree_95 rfl (lv_at hl 6 rfl) ?_
                  refine lv_iadd hx hb dX9_agree_96 ?_
                  refine lv_iconst (v := 2) hx hb dX9_agree_97 (by decide) ?_
                  refine lv_idiv hx hb dX9_agree_98 (by decide) ?_
                  refine lv_goto (tgt := 103) hx hb dX9_agree_99 (by decide) ?_
                  exact wz_iretE C hlk hr (Option.some.inj h) rfl hW dX9_agree_103
            · have h := ite_f c77 h
              refine lv_iconst (v := -1) hx hb dX9_agree_80 (by decide) ?_
              exact wz_iretE C hlk hr (Option.some.inj h) rfl hW dX9_agree_81
          · have h := ite_f c30 h
            refine lv_iconst (v := -1) hx hb dX9_agree_33 (by decide) ?_
            exact wz_iretE C hlk hr (Option.some.inj h) rfl hW dX9_agree_34
theorem dX9_view_0 : decode cX9_view 0 = .ok (.aload_n 0, 1) := by decide +kernel
theorem dX9_view_1 : decode cX9_view 1 = .ok (.getfield 13, 3) := by decide +kernel
theorem dX9_view_4 : decode cX9_view 4 = .ok (.iconst 2, 1) := by decide +kernel
theorem dX9_view_5 : decode cX9_view 5 = .ok (.iload_n 1, 1) := by decide +kernel
theorem dX9_view_6 : decode cX9_view 6 = .ok (.invokevirtual 116, 3) := by decide +kernel
theorem dX9_view_9 : decode cX9_view 9 = .ok (.astore 4, 2) := by decide +kernel
theorem dX9_view_11 : decode cX9_view 11 = .ok (.aload 4, 2) := by decide +kernel
theorem dX9_view_13 : decode cX9_view 13 = .ok (.ifnonnull 6, 3) := by decide +kernel
theorem dX9_view_16 : decode cX9_view 16 = .ok (.bipush (-2), 2) := by decide +kernel
theorem dX9_view_18 : decode cX9_view 18 = .ok (.ireturn, 1) := by decide +kernel
theorem dX9_view_19 : decode cX9_view 19 = .ok (.iload_n 2, 1) := by decide +kernel
theorem dX9_view_20 : decode cX9_view 20 = .ok (.iconst (-1), 1) := by decide +kernel
theorem dX9_view_21 : decode cX9_view 21 = .ok (.if_icmp .ne 18, 3) := by decide +kernel
theorem dX9_view_24 : decode cX9_view 24 = .ok (.iload_n 3, 1) := by decide +kernel
theorem dX9_view_25 : decode cX9_view 25 = .ok (.ifCond .ne 11, 3) := by decide +kernel
theorem dX9_view_28 : decode cX9_view 28 = .ok (.aload 4, 2) := by decide +kernel
theorem dX9_view_30 : decode cX9_view 30 = .ok (.getfield 120, 3) := by decide +kernel
theorem dX9_view_33 : decode cX9_view 33 = .ok (.goto 5, 3) := by decide +kernel
theorem dX9_view_36 : decode cX9_view 36 = .ok (.bipush (-2), 2) := by decide +kernel
theorem dX9_view_38 : decode cX9_view 38 = .ok (.ireturn, 1) := by decide +kernel
theorem dX9_view_39 : decode cX9_view 39 = .ok (.iload_n 3, 1) := by decide +kernel
theorem dX9_view_40 : decode cX9_view 40 = .ok (.iconst 2, 1) := by decide +kernel
theorem dX9_view_41 : decode cX9_view 41 = .ok (.if_icmp .ne 8, 3) := by decide +kernel
theorem dX9_view_44 : decode cX9_view 44 = .ok (.bipush (-2), 2) := by decide +kernel
theorem dX9_view_46 : decode cX9_view 46 = .ok (.goto 10, 3) := by decide +kernel
theorem dX9_view_49 : decode cX9_view 49 = .ok (.aload 4, 2) := by decide +kernel
theorem dX9_view_51 : decode cX9_view 51 = .ok (.iload_n 2, 1) := by decide +kernel
theorem dX9_view_52 : decode cX9_view 52 = .ok (.iload_n 3, 1) := by decide +kernel
theorem dX9_view_53 : decode cX9_view 53 = .ok (.invokevirtual 125, 3) := by decide +kernel
theorem dX9_view_56 : decode cX9_view 56 = .ok (.ireturn, 1) := by decide +kernel
abbrev rmX9_view : Room := { frames := 3, cells := 0, slots := 0, locals := 65 }
def fX9_view (a0 : Nat) (l1 : Int32) (l2 : Int32) (l3 : Int32) (z : AH) : Option (Int32) :=
  if isO 8 z a0 = true then
    (gN 8 0 z a0).bind fun b1 =>
    (fX7_rowsAt b1 (2 : Int32) l1 z).bind fun q6_ =>
    nq q6_ (
      some (-2 : Int32)
    ) fun b9 =>
    if l2 = (-1 : Int32) then (
      if l3 = (0 : Int32) then (
        (gI 4 3 z b9).bind fun x30 =>
        some x30
      ) else (
        some (-2 : Int32)
      )
    ) else (
      if l3 = (2 : Int32) then (
        some (-2 : Int32)
      ) else (
        (fX5_answer b9 l2 l3 z).bind fun x53 =>
        some x53
      )
    )
  else none
set_option maxHeartbeats 4000000 in
set_option maxRecDepth 100000 in
theorem ctX9_view (l : Launch) (G : GW) (a0 : Nat) (l1 : Int32) (l2 : Int32) (l3 : Int32) (z : AH) {r : Int32} (h : fX9_view a0 l1 l2 l3 z = some r) : Met l yX9_view (wy yX9_view cX9_view 5 (some .int)) rmX9_view (Pz G [.ref (gB G + a0), .int l1, .int l2, .int l3] z) (Qi G r z) 0 0 (AA G) := by
  refine wz_ent (own := RX9) (by decide +kernel) rfl (fun p e s m below meth c ls C hlk hr hin hW hl => ?_) (Nat.le_of_ble_eq_true rfl)
  have hl : lv_has ls 5 [(0, .ref (gB G + a0)), (1, .int l1), (2, .int l2), (3, .int l3)] := hl
  have hx := C.1
  have hb := C.2.1
  unfold fX9_view at h
  obtain ⟨-, h⟩ := ck h
  refine lv_aload_n hx hb dX9_view_0 rfl (lv_at hl 0 rfl) ?_
  obtain ⟨b1, hg, h⟩ := ob h
  refine wz_gN C hW flX9_13 hg dX9_view_1 ?_
  refine lv_iconst (v := 2) hx hb dX9_view_4 (by decide) ?_
  refine lv_iload_n hx hb dX9_view_5 rfl (lv_at hl 1 rfl) ?_
  obtain ⟨q6_, hq, h⟩ := ob h
  refine wz_rQ (c' := 0) (s' := 0) hW (wz_runV (rest := []) C hW lVX9_116 (ck hq).1 rfl (ctX7_rowsAt l G b1 (2 : Int32) l1 z hq) ⟨⟨rfl, rfl⟩, Nat.le_of_ble_eq_true rfl, Nat.le_of_ble_eq_true rfl⟩ rfl hl.1 rfl (Nat.le_of_ble_eq_true rfl) dX9_view_6 ⟨Nat.le_of_ble_eq_true rfl, Nat.le_of_ble_eq_true rfl⟩) rfl rfl (fun H locs hW => ?_)
  cases q6_ with
  | none =>
    have h := nq_n h
    refine lv_astoreN (lv' := [(4, .null), (0, .ref (gB G + a0)), (1, .int l1), (2, .int l2), (3, .int l3)]) hx hb dX9_view_9 hl (by decide) rfl (fun ls hl => ?_)
    refine lv_aloadN hx hb dX9_view_11 (lv_at hl 0 rfl) ?_
    refine lv_ifnonnullN hx hb dX9_view_13 ?_
    refine lv_bipush (v := -2) hx hb dX9_view_16 (by decide) ?_
    exact wz_iretE C hlk hr (Option.some.inj h) rfl hW dX9_view_18
  | some b9 =>
    have h := nq_s h
    refine lv_astore (lv' := [(4, .ref (gB G + b9)), (0, .ref (gB G + a0)), (1, .int l1), (2, .int l2), (3, .int l3)]) hx hb dX9_view_9 hl (by decide) rfl (fun ls hl => ?_)
    refine lv_aload hx hb dX9_view_11 (lv_at hl 0 rfl) ?_
    refine lv_ifnonnull (tgt := 19) hx hb dX9_view_13 (by decide) ?_
    refine lv_iload_n hx hb dX9_view_19 rfl (lv_at hl 3 rfl) ?_
    refine lv_iconst (v := -1) hx hb dX9_view_20 (by decide) ?_
    refine lv_icmp_ne (tgt := 39) hx hb dX9_view_21 (by decide) (fun c21 => ?_) (fun c21 => ?_)
    · have h := ite_f c21 h
      refine lv_iload_n hx hb dX9_view_39 rfl (lv_at hl 4 rfl) ?_
      refine lv_iconst (v := 2) hx hb dX9_view_40 (by decide) ?_
      refine lv_icmp_ne (tgt := 49) hx hb dX9_view_41 (by decide) (fun c41 => ?_) (fun c41 => ?_)
      · have h := ite_f c41 h
        refine lv_aload hx hb dX9_view_49 (lv_at hl 0 rfl) ?_
        refine lv_iload_n hx hb dX9_view_51 rfl (lv_at hl 3 rfl) ?_
        refine lv_iload_n hx hb dX9_view_52 rfl (lv_at hl 4 rfl) ?_
        obtain ⟨x53, hq, h⟩ := ob h
        refine wz_rI (c' := 0) (s' := 0) hW (wz_runV (rest := []) C hW lVX9_125 (ck hq).1 rfl (ctX5_answer l G b9 l2 l3 z hq) ⟨⟨rfl, rfl⟩, Nat.le_of_ble_eq_true rfl, Nat.le_of_ble_eq_true rfl⟩ rfl hl.1 rfl (Nat.le_of_ble_eq_true rfl) dX9_view_53 ⟨Nat.le_of_ble_eq_true rfl, Nat.le_of_ble_eq_true rfl⟩) rfl rfl (fun H locs hW => ?_)
        exact wz_iretE C hlk hr (Option.some.inj h) rfl hW dX9_view_56
      · have h := ite_t c41 h
        refine lv_bipush (v := -2) hx hb dX9_view_44 (by decide) ?_
        refine lv_goto (tgt := 56) hx hb dX9_view_46 (by decide) ?_
        exact wz_iretE C hlk hr (Option.some.inj h) rfl hW dX9_view_56
    · have h := ite_t c21 h
      refine lv_iload_n hx hb dX9_view_24 rfl (lv_at hl 4 rfl) ?_
      refine lv_if_ne (tgt := 36) hx hb dX9_view_25 (by decide) (fun c25 => ?_) (fun c25 => ?_)
      · have h := ite_f c25 h
        refine lv_bipush (v := -2) hx hb dX9_view_36 (by decide) ?_
        exact wz_iretE C hlk hr (Option.some.inj h) rfl hW dX9_view_38
      · have h := ite_t c25 h
        refine lv_aload hx hb dX9_view_28 (lv_at hl 0 rfl) ?_
        obtain ⟨x30, hg, h⟩ := ob h
        refine wz_gI C hW flX9_120 hg dX9_view_30 ?_
        refine lv_goto (tgt := 38) hx hb dX9_view_33 (by decide) ?_
        exact wz_iretE C hlk hr (Option.some.inj h) rfl hW dX9_view_38
theorem lTX9_202 : LT RX9 202 yX2_isError cX2_isError 1 (some .boolean) 1 := ⟨tw 1033 (by decide +kernel) rfl, tw 1034 (by decide +kernel) rfl, tw 127 (by decide +kernel) rfl, tw 1035 (by decide +kernel) rfl, ⟨by decide +kernel, by decide +kernel, by decide +kernel⟩⟩
theorem flX9_60 : FL RX9 60 8 7 := ⟨_, rfl, Nat.le_of_ble_eq_true rfl, tw 480 (by decide +kernel) rfl, rfl⟩
theorem lVX9_205 : LV RX9 205 yX2_gather cX2_gather 5 none 3 := ⟨tw 1036 (by decide +kernel) rfl, tw 1037 (by decide +kernel) rfl, tw 1038 (by decide +kernel) rfl, tw 127 (by decide +kernel) rfl, tw 1039 (by decide +kernel) rfl, ⟨by decide +kernel, by decide +kernel, by decide +kernel⟩⟩
theorem lVX9_210 : LV RX9 210 yX2_cellAt cX2_cellAt 2 (some .int) 1 := ⟨tw 1047 (by decide +kernel) rfl, tw 1048 (by decide +kernel) rfl, tw 1049 (by decide +kernel) rfl, tw 127 (by decide +kernel) rfl, tw 1050 (by decide +kernel) rfl, ⟨by decide +kernel, by decide +kernel, by decide +kernel⟩⟩
theorem lVX9_213 : LV RX9 213 yX2_nextView cX2_nextView 7 (some .int) 1 := ⟨tw 1052 (by decide +kernel) rfl, tw 1053 (by decide +kernel) rfl, tw 1054 (by decide +kernel) rfl, tw 127 (by decide +kernel) rfl, tw 1055 (by decide +kernel) rfl, ⟨by decide +kernel, by decide +kernel, by decide +kernel⟩⟩
theorem flX9_209 : FL RX9 209 2 1 := ⟨_, rfl, Nat.le_of_ble_eq_true rfl, tw 467 (by decide +kernel) rfl, rfl⟩
theorem dX9_fits_0 : decode cX9_fits 0 = .ok (.aload_n 0, 1) := by decide +kernel
theorem dX9_fits_1 : decode cX9_fits 1 = .ok (.getfield 13, 3) := by decide +kernel
theorem dX9_fits_4 : decode cX9_fits 4 = .ok (.iconst 2, 1) := by decide +kernel
theorem dX9_fits_5 : decode cX9_fits 5 = .ok (.iload_n 1, 1) := by decide +kernel
theorem dX9_fits_6 : decode cX9_fits 6 = .ok (.invokevirtual 116, 3) := by decide +kernel
theorem dX9_fits_9 : decode cX9_fits 9 = .ok (.astore 4, 2) := by decide +kernel
theorem dX9_fits_11 : decode cX9_fits 11 = .ok (.aload 4, 2) := by decide +kernel
theorem dX9_fits_13 : decode cX9_fits 13 = .ok (.ifnull 10, 3) := by decide +kernel
theorem dX9_fits_16 : decode cX9_fits 16 = .ok (.iload_n 2, 1) := by decide +kernel
theorem dX9_fits_17 : decode cX9_fits 17 = .ok (.invokestatic 202, 3) := by decide +kernel
theorem dX9_fits_20 : decode cX9_fits 20 = .ok (.ifCond .ne 6, 3) := by decide +kernel
theorem dX9_fits_23 : decode cX9_fits 23 = .ok (.bipush (-2), 2) := by decide +kernel
theorem dX9_fits_25 : decode cX9_fits 25 = .ok (.ireturn, 1) := by decide +kernel
theorem dX9_fits_26 : decode cX9_fits 26 = .ok (.aload_n 0, 1) := by decide +kernel
theorem dX9_fits_27 : decode cX9_fits 27 = .ok (.getfield 60, 3) := by decide +kernel
theorem dX9_fits_30 : decode cX9_fits 30 = .ok (.aload 4, 2) := by decide +kernel
theorem dX9_fits_32 : decode cX9_fits 32 = .ok (.iload_n 2, 1) := by decide +kernel
theorem dX9_fits_33 : decode cX9_fits 33 = .ok (.iconst (-1), 1) := by decide +kernel
theorem dX9_fits_34 : decode cX9_fits 34 = .ok (.invokevirtual 205, 3) := by decide +kernel
theorem dX9_fits_37 : decode cX9_fits 37 = .ok (.iload_n 3, 1) := by decide +kernel
theorem dX9_fits_38 : decode cX9_fits 38 = .ok (.ifCond .ne 11, 3) := by decide +kernel
theorem dX9_fits_41 : decode cX9_fits 41 = .ok (.aload_n 0, 1) := by decide +kernel
theorem dX9_fits_42 : decode cX9_fits 42 = .ok (.getfield 60, 3) := by decide +kernel
theorem dX9_fits_45 : decode cX9_fits 45 = .ok (.getfield 209, 3) := by decide +kernel
theorem dX9_fits_48 : decode cX9_fits 48 = .ok (.ireturn, 1) := by decide +kernel
theorem dX9_fits_49 : decode cX9_fits 49 = .ok (.iload_n 3, 1) := by decide +kernel
theorem dX9_fits_50 : decode cX9_fits 50 = .ok (.iconst 1, 1) := by decide +kernel
theorem dX9_fits_51 : decode cX9_fits 51 = .ok (.if_icmp .ne 27, 3) := by decide +kernel
theorem dX9_fits_54 : decode cX9_fits 54 = .ok (.aload_n 0, 1) := by decide +kernel
theorem dX9_fits_55 : decode cX9_fits 55 = .ok (.getfield 60, 3) := by decide +kernel
theorem dX9_fits_58 : decode cX9_fits 58 = .ok (.getfield 209, 3) := by decide +kernel
theorem dX9_fits_61 : decode cX9_fits 61 = .ok (.iconst 1, 1) := by decide +kernel
theorem dX9_fits_62 : decode cX9_fits 62 = .ok (.if_icmp .ne 14, 3) := by decide +kernel
theorem dX9_fits_65 : decode cX9_fits 65 = .ok (.aload_n 0, 1) := by decide +kernel
theorem dX9_fits_66 : decode cX9_fits 66 = .ok (.getfield 60, 3) := by decide +kernel
theorem dX9_fits_69 : decode cX9_fits 69 = .ok (.iconst 0, 1) := by decide +kernel
theorem dX9_fits_70 : decode cX9_fits 70 = .ok (.invokevirtual 210, 3) := by decide +kernel
theorem dX9_fits_73 : decode cX9_fits 73 = .ok (.goto 4, 3) := by decide +kernel
theorem dX9_fits_76 : decode cX9_fits 76 = .ok (.iconst (-1), 1) := by decide +kernel
theorem dX9_fits_77 : decode cX9_fits 77 = .ok (.ireturn, 1) := by decide +kernel
theorem dX9_fits_78 : decode cX9_fits 78 = .ok (.iload_n 3, 1) := by decide +kernel
theorem dX9_fits_79 : decode cX9_fits 79 = .ok (.iconst 2, 1) := by decide +kernel
theorem dX9_fits_80 : decode cX9_fits 80 = .ok (.if_icmp .ne 12, 3) := by decide +kernel
theorem dX9_fits_83 : decode cX9_fits 83 = .ok (.aload_n 0, 1) := by decide +kernel
theorem dX9_fits_84 : decode cX9_fits 84 = .ok (.getfield 60, 3) := by decide +kernel
theorem dX9_fits_87 : decode cX9_fits 87 = .ok (.iload_n 2, 1) := by decide +kernel
theorem dX9_fits_88 : decode cX9_fits 88 = .ok (.invokevirtual 213, 3) := by decide +kernel
theorem dX9_fits_91 : decode cX9_fits 91 = .ok (.ireturn, 1) := by decide +kernel
theorem dX9_fits_92 : decode cX9_fits 92 = .ok (.iload_n 3, 1) := by decide +kernel
theorem dX9_fits_93 : decode cX9_fits 93 = .ok (.bipush 10, 2) := by decide +kernel
theorem dX9_fits_95 : decode cX9_fits 95 = .ok (.if_icmp .ge 8, 3) := by decide +kernel
theorem dX9_fits_98 : decode cX9_fits 98 = .ok (.bipush (-2), 2) := by decide +kernel
theorem dX9_fits_100 : decode cX9_fits 100 = .ok (.goto 14, 3) := by decide +kernel
theorem dX9_fits_103 : decode cX9_fits 103 = .ok (.aload_n 0, 1) := by decide +kernel
theorem dX9_fits_104 : decode cX9_fits 104 = .ok (.getfield 60, 3) := by decide +kernel
theorem dX9_fits_107 : decode cX9_fits 107 = .ok (.iload_n 3, 1) := by decide +kernel
theorem dX9_fits_108 : decode cX9_fits 108 = .ok (.bipush 10, 2) := by decide +kernel
theorem dX9_fits_110 : decode cX9_fits 110 = .ok (.isub, 1) := by decide +kernel
theorem dX9_fits_111 : decode cX9_fits 111 = .ok (.invokevirtual 210, 3) := by decide +kernel
theorem dX9_fits_114 : decode cX9_fits 114 = .ok (.ireturn, 1) := by decide +kernel
abbrev rmX9_fits : Room := { frames := 4, cells := 0, slots := 0, locals := 97 }
def fX9_fits (a0 : Nat) (l1 : Int32) (l2 : Int32) (l3 : Int32) (z : AH) : Option (Int32 × AH) :=
  if isO 8 z a0 = true then
    (gN 8 0 z a0).bind fun b1 =>
    (fX7_rowsAt b1 (2 : Int32) l1 z).bind fun q6_ =>
    nq q6_ (
      some ((-2 : Int32), z)
    ) fun b9 =>
    if (fX2_isError l2) = (0 : Int32) then (
      some ((-2 : Int32), z)
    ) else (
      (gN 8 7 z a0).bind fun b27 =>
      (fX2_gather b27 b9 l2 (-1 : Int32) z).bind fun z34 =>
      if l3 = (0 : Int32) then (
        (gN 8 7 z34 a0).bind fun b42 =>
        (gI 2 1 z34 b42).bind fun x45 =>
        some (x45, z34)
      ) else (
        if l3 = (1 : Int32) then (
          (gN 8 7 z34 a0).bind fun b55 =>
          (gI 2 1 z34 b55).bind fun x58 =>
          if x58 = (1 : Int32) then (
            (gN 8 7 z34 a0).bind fun b66 =>
            (fX2_cellAt b66 (0 : Int32) z34).bind fun x70 =>
            some (x70, z34)
          ) else (
            some ((-1 : Int32), z34)
          )
        ) else (
          if l3 = (2 : Int32) then (
            (gN 8 7 z34 a0).bind fun b84 =>
            (fX2_nextView b84 l2 z34).bind fun x88 =>
            some (x88, z34)
          ) else (
            if (10 : Int32) ≤ l3 then (
              (gN 8 7 z34 a0).bind fun b104 =>
              (fX2_cellAt b104 (l3 - (10 : Int32)) z34).bind fun x111 =>
              some (x111, z34)
            ) else (
              some ((-2 : Int32), z34)
            )
          )
        )
      )
    )
  else none
set_option maxHeartbeats 4000000 in
set_option maxRecDepth 100000 in
theorem ctX9_fits (l : Launch) (G : GW) (a0 : Nat) (l1 : Int32) (l2 : Int32) (l3 : Int32) (z : AH) {r : Int32} {z' : AH} (h : fX9_fits a0 l1 l2 l3 z = some (r, z')) : Met l yX9_fits (wy yX9_fits cX9_fits 5 (some .int)) rmX9_fits (Pz G [.ref (gB G + a0), .int l1, .int l2, .int l3] z) (Qi G r z') 0 0 (AA G) := by
  refine wz_ent (own := RX9) (by decide +kernel) rfl (fun p e s m below meth c ls C hlk hr hin hW hl => ?_) (Nat.le_of_ble_eq_true rfl)
  have hl : lv_has ls 5 [(0, .ref (gB G + a0)), (1, .int l1), (2, .int l2), (3, .int l3)] := hl
  have hx := C.1
  have hb := C.2.1
  unfold fX9_fits at h
  obtain ⟨-, h⟩ := ck h
  refine lv_aload_n hx hb dX9_fits_0 rfl (lv_at hl 0 rfl) ?_
  obtain ⟨b1, hg, h⟩ := ob h
  refine wz_gN C hW flX9_13 hg dX9_fits_1 ?_
  refine lv_iconst (v := 2) hx hb dX9_fits_4 (by decide) ?_
  refine lv_iload_n hx hb dX9_fits_5 rfl (lv_at hl 1 rfl) ?_
  obtain ⟨q6_, hq, h⟩ := ob h
  refine wz_rQ (c' := 0) (s' := 0) hW (wz_runV (rest := []) C hW lVX9_116 (ck hq).1 rfl (ctX7_rowsAt l G b1 (2 : Int32) l1 z hq) ⟨⟨rfl, rfl⟩, Nat.le_of_ble_eq_true rfl, Nat.le_of_ble_eq_true rfl⟩ rfl hl.1 rfl (Nat.le_of_ble_eq_true rfl) dX9_fits_6 ⟨Nat.le_of_ble_eq_true rfl, Nat.le_of_ble_eq_true rfl⟩) rfl rfl (fun H locs hW => ?_)
  cases q6_ with
  | none =>
    have h := nq_n h
    refine lv_astoreN (lv' := [(4, .null), (0, .ref (gB G + a0)), (1, .int l1), (2, .int l2), (3, .int l3)]) hx hb dX9_fits_9 hl (by decide) rfl (fun ls hl => ?_)
    refine lv_aloadN hx hb dX9_fits_11 (lv_at hl 0 rfl) ?_
    refine lv_ifnullN (tgt := 23) hx hb dX9_fits_13 (by decide) ?_
    refine lv_bipush (v := -2) hx hb dX9_fits_23 (by decide) ?_
    exact wz_iretE C hlk hr (so2 h).1 (so2 h).2 hW dX9_fits_25
  | some b9 =>
    have h := nq_s h
    refine lv_astore (lv' := [(4, .ref (gB G + b9)), (0, .ref (gB G + a0)), (1, .int l1), (2, .int l2), (3, .int l3)]) hx hb dX9_fits_9 hl (by decide) rfl (fun ls hl => ?_)
    refine lv_aload hx hb dX9_fits_11 (lv_at hl 0 rfl) ?_
    refine lv_ifnull hx hb dX9_fits_13 ?_
    refine lv_iload_n hx hb dX9_fits_16 rfl (lv_at hl 3 rfl) ?_
    refine wz_rI (c' := 0) (s' := 0) hW (wz_runS (rest := []) C hW lTX9_202 (ctX2_isError l G l2 z rfl) ⟨⟨rfl, rfl⟩, Nat.le_of_ble_eq_true rfl, Nat.le_of_ble_eq_true rfl⟩ rfl hl.1 rfl (Nat.le_of_ble_eq_true rfl) dX9_fits_17 ⟨Nat.le_of_ble_eq_true rfl, Nat.le_of_ble_eq_true rfl⟩) rfl rfl (fun H locs hW => ?_)
    refine lv_if_ne (tgt := 26) hx hb dX9_fits_20 (by decide) (fun c20 => ?_) (fun c20 => ?_)
    · have h := ite_f c20 h
      refine lv_aload_n hx hb dX9_fits_26 rfl (lv_at hl 1 rfl) ?_
      obtain ⟨b27, hg, h⟩ := ob h
      refine wz_gN C hW flX9_60 hg dX9_fits_27 ?_
      refine lv_aload hx hb dX9_fits_30 (lv_at hl 0 rfl) ?_
      refine lv_iload_n hx hb dX9_fits_32 rfl (lv_at hl 3 rfl) ?_
      refine lv_iconst (v := -1) hx hb dX9_fits_33 (by decide) ?_
      obtain ⟨z34, hq, h⟩ := ob h
      refine wz_rV (c' := 0) (s' := 0) hW (wz_runV (rest := []) C hW lVX9_205 (ck hq).1 rfl (ctX2_gather l G b27 b9 l2 (-1 : Int32) z hq) ⟨⟨rfl, rfl⟩, Nat.le_of_ble_eq_true rfl, Nat.le_of_ble_eq_true rfl⟩ rfl hl.1 rfl (Nat.le_of_ble_eq_true rfl) dX9_fits_34 ⟨Nat.le_of_ble_eq_true rfl, Nat.le_of_ble_eq_true rfl⟩) rfl rfl (fun H locs hW => ?_)
      refine lv_iload_n hx hb dX9_fits_37 rfl (lv_at hl 4 rfl) ?_
      refine lv_if_ne (tgt := 49) hx hb dX9_fits_38 (by decide) (fun c38 => ?_) (fun c38 => ?_)
      · have h := ite_f c38 h
        refine lv_iload_n hx hb dX9_fits_49 rfl (lv_at hl 4 rfl) ?_
        refine lv_iconst (v := 1) hx hb dX9_fits_50 (by decide) ?_
        refine lv_icmp_ne (tgt := 78) hx hb dX9_fits_51 (by decide) (fun c51 => ?_) (fun c51 => ?_)
        · have h := ite_f c51 h
          refine lv_iload_n hx hb dX9_fits_78 rfl (lv_at hl 4 rfl) ?_
          refine lv_iconst (v := 2) hx hb dX9_fits_79 (by decide) ?_
          refine lv_icmp_ne (tgt := 92) hx hb dX9_fits_80 (by decide) (fun c80 => ?_) (fun c80 => ?_)
          · have h := ite_f c80 h
            refine lv_iload_n hx hb dX9_fits_92 rfl (lv_at hl 4 rfl) ?_
            refine lv_bipush (v := 10) hx hb dX9_fits_93 (by decide) ?_
            refine lv_icmp_ge (tgt := 103) hx hb dX9_fits_95 (by decide) (fun c95 => ?_) (fun c95 => ?_)
            · have h := ite_t c95 h
              refine lv_aload_n hx hb dX9_fits_103 rfl (lv_at hl 1 rfl) ?_
              obtain ⟨b104, hg, h⟩ := ob h
              refine wz_gN C hW flX9_60 hg dX9_fits_104 ?_
              refine lv_iload_n hx hb dX9_fits_107 rfl (lv_at hl 4 rfl) ?_
              refine lv_bipush (v := 10) hx hb dX9_fits_108 (by decide) ?_
              refine lv_isub hx hb dX9_fits_110 ?_
              obtain ⟨x111, hq, h⟩ := ob h
              refine wz_rI (c' := 0) (s' := 0) hW (wz_runV (rest := []) C hW lVX9_210 (ck hq).1 rfl (ctX2_cellAt l G b104 (l3 - (10 : Int32)) z34 hq) ⟨⟨rfl, rfl⟩, Nat.le_of_ble_eq_true rfl, Nat.le_of_ble_eq_true rfl⟩ rfl hl.1 rfl (Nat.le_of_ble_eq_true rfl) dX9_fits_111 ⟨Nat.le_of_ble_eq_true rfl, Nat.le_of_ble_eq_true rfl⟩) rfl rfl (fun H locs hW => ?_)
              exact wz_iretE C hlk hr (so2 h).1 (so2 h).2 hW dX9_fits_114
            · have h := ite_f c95 h
              refine lv_bipush (v := -2) hx hb dX9_fits_98 (by decide) ?_
              refine lv_goto (tgt := 114) hx hb dX9_fits_100 (by decide) ?_
              exact wz_iretE C hlk hr (so2 h).1 (so2 h).2 hW dX9_fits_114
          · have h := ite_t c80 h
            refine lv_aload_n hx hb dX9_fits_83 rfl (lv_at hl 1 rfl) ?_
            obtain ⟨b84, hg, h⟩ := ob h
            refine wz_gN C hW flX9_60 hg dX9_fits_84 ?_
            refine lv_iload_n hx hb dX9_fits_87 rfl (lv_at hl 3 rfl) ?_
            obtain ⟨x88, hq, h⟩ := ob h
            refine wz_rI (c' := 0) (s' := 0) hW (wz_runV (rest := []) C hW lVX9_213 (ck hq).1 rfl (ctX2_nextView l G b84 l2 z34 hq) ⟨⟨rfl, rfl⟩, Nat.le_of_ble_eq_true rfl, Nat.le_of_ble_eq_true rfl⟩ rfl hl.1 rfl (Nat.le_of_ble_eq_true rfl) dX9_fits_88 ⟨Nat.le_of_ble_eq_true rfl, Nat.le_of_ble_eq_true rfl⟩) rfl rfl (fun H locs hW => ?_)
            exact wz_iretE C hlk hr (so2 h).1 (so2 h).2 hW dX9_fits_91
        · have h := ite_t c51 h
          refine lv_aload_n hx hb dX9_fits_54 rfl (lv_at hl 1 rfl) ?_
          obtain ⟨b55, hg, h⟩ := ob h
          refine wz_gN C hW flX9_60 hg dX9_fits_55 ?_
          obtain ⟨x58, hg, h⟩ := ob h
          refine wz_gI C hW flX9_209 hg dX9_fits_58 ?_
          refine lv_iconst (v := 1) hx hb dX9_fits_61 (by decide) ?_
          refine lv_icmp_ne (tgt := 76) hx hb dX9_fits_62 (by decide) (fun c62 => ?_) (fun c62 => ?_)
          · have h := ite_f c62 h
            refine lv_iconst (v := -1) hx hb dX9_fits_76 (by decide) ?_
            exact wz_iretE C hlk hr (so2 h).1 (so2 h).2 hW dX9_fits_77
          · have h := ite_t c62 h
            refine lv_aload_n hx hb dX9_fits_65 rfl (lv_at hl 1 rfl) ?_
            obtain ⟨b66, hg, h⟩ := ob h
            refine wz_gN C hW flX9_60 hg dX9_fits_66 ?_
            refine lv_iconst (v := 0) hx hb dX9_fits_69 (by decide) ?_
            obtain ⟨x70, hq, h⟩ := ob h
            refine wz_rI (c' := 0) (s' := 0) hW (wz_runV (rest := []) C hW lVX9_210 (ck hq).1 rfl (ctX2_cellAt l G b66 (0 : Int32) z34 hq) ⟨⟨rfl, rfl⟩, Nat.le_of_ble_eq_true rfl, Nat.le_of_ble_eq_true rfl⟩ rfl hl.1 rfl (Nat.le_of_ble_eq_true rfl) dX9_fits_70 ⟨Nat.le_of_ble_eq_true rfl, Nat.le_of_ble_eq_true rfl⟩) rfl rfl (fun H locs hW => ?_)
            refine lv_goto (tgt := 77) hx hb dX9_fits_73 (by decide) ?_
            exact wz_iretE C hlk hr (so2 h).1 (so2 h).2 hW dX9_fits_77
      · have h := ite_t c38 h
        refine lv_aload_n hx hb dX9_fits_41 rfl (lv_at hl 1 rfl) ?_
        obtain ⟨b42, hg, h⟩ := ob h
        refine wz_gN C hW flX9_60 hg dX9_fits_42 ?_
        obtain ⟨x45, hg, h⟩ := ob h
        refine wz_gI C hW flX9_209 hg dX9_fits_45 ?_
        exact wz_iretE C hlk hr (so2 h).1 (so2 h).2 hW dX9_fits_48
    · have h := ite_t c20 h
      refine lv_bipush (v := -2) hx hb dX9_fits_23 (by decide) ?_
      exact wz_iretE C hlk hr (so2 h).1 (so2 h).2 hW dX9_fits_25
theorem dX9_fact_0 : decode cX9_fact 0 = .ok (.aload_n 0, 1) := by decide +kernel
theorem dX9_fact_1 : decode cX9_fact 1 = .ok (.getfield 13, 3) := by decide +kernel
theorem dX9_fact_4 : decode cX9_fact 4 = .ok (.iconst 3, 1) := by decide +kernel
theorem dX9_fact_5 : decode cX9_fact 5 = .ok (.iload_n 1, 1) := by decide +kernel
theorem dX9_fact_6 : decode cX9_fact 6 = .ok (.invokevirtual 116, 3) := by decide +kernel
theorem dX9_fact_9 : decode cX9_fact 9 = .ok (.astore 4, 2) := by decide +kernel
theorem dX9_fact_11 : decode cX9_fact 11 = .ok (.aload 4, 2) := by decide +kernel
theorem dX9_fact_13 : decode cX9_fact 13 = .ok (.ifnonnull 6, 3) := by decide +kernel
theorem dX9_fact_16 : decode cX9_fact 16 = .ok (.bipush (-2), 2) := by decide +kernel
theorem dX9_fact_18 : decode cX9_fact 18 = .ok (.ireturn, 1) := by decide +kernel
theorem dX9_fact_19 : decode cX9_fact 19 = .ok (.iload_n 2, 1) := by decide +kernel
theorem dX9_fact_20 : decode cX9_fact 20 = .ok (.iconst (-1), 1) := by decide +kernel
theorem dX9_fact_21 : decode cX9_fact 21 = .ok (.if_icmp .ne 18, 3) := by decide +kernel
theorem dX9_fact_24 : decode cX9_fact 24 = .ok (.iload_n 3, 1) := by decide +kernel
theorem dX9_fact_25 : decode cX9_fact 25 = .ok (.ifCond .ne 11, 3) := by decide +kernel
theorem dX9_fact_28 : decode cX9_fact 28 = .ok (.aload 4, 2) := by decide +kernel
theorem dX9_fact_30 : decode cX9_fact 30 = .ok (.getfield 120, 3) := by decide +kernel
theorem dX9_fact_33 : decode cX9_fact 33 = .ok (.goto 5, 3) := by decide +kernel
theorem dX9_fact_36 : decode cX9_fact 36 = .ok (.bipush (-2), 2) := by decide +kernel
theorem dX9_fact_38 : decode cX9_fact 38 = .ok (.ireturn, 1) := by decide +kernel
theorem dX9_fact_39 : decode cX9_fact 39 = .ok (.aload 4, 2) := by decide +kernel
theorem dX9_fact_41 : decode cX9_fact 41 = .ok (.iload_n 2, 1) := by decide +kernel
theorem dX9_fact_42 : decode cX9_fact 42 = .ok (.iconst 0, 1) := by decide +kernel
theorem dX9_fact_43 : decode cX9_fact 43 = .ok (.invokevirtual 125, 3) := by decide +kernel
theorem dX9_fact_46 : decode cX9_fact 46 = .ok (.istore 5, 2) := by decide +kernel
theorem dX9_fact_48 : decode cX9_fact 48 = .ok (.iload 5, 2) := by decide +kernel
theorem dX9_fact_50 : decode cX9_fact 50 = .ok (.ifCond .ne 23, 3) := by decide +kernel
theorem dX9_fact_53 : decode cX9_fact 53 = .ok (.iload_n 3, 1) := by decide +kernel
theorem dX9_fact_54 : decode cX9_fact 54 = .ok (.iconst 1, 1) := by decide +kernel
theorem dX9_fact_55 : decode cX9_fact 55 = .ok (.if_icmp .eq 8, 3) := by decide +kernel
theorem dX9_fact_58 : decode cX9_fact 58 = .ok (.iload_n 3, 1) := by decide +kernel
theorem dX9_fact_59 : decode cX9_fact 59 = .ok (.iconst 2, 1) := by decide +kernel
theorem dX9_fact_60 : decode cX9_fact 60 = .ok (.if_icmp .ne 13, 3) := by decide +kernel
theorem dX9_fact_63 : decode cX9_fact 63 = .ok (.aload 4, 2) := by decide +kernel
theorem dX9_fact_65 : decode cX9_fact 65 = .ok (.iload_n 2, 1) := by decide +kernel
theorem dX9_fact_66 : decode cX9_fact 66 = .ok (.iconst 3, 1) := by decide +kernel
theorem dX9_fact_67 : decode cX9_fact 67 = .ok (.iload_n 3, 1) := by decide +kernel
theorem dX9_fact_68 : decode cX9_fact 68 = .ok (.isub, 1) := by decide +kernel
theorem dX9_fact_69 : decode cX9_fact 69 = .ok (.invokevirtual 125, 3) := by decide +kernel
theorem dX9_fact_72 : decode cX9_fact 72 = .ok (.ireturn, 1) := by decide +kernel
theorem dX9_fact_73 : decode cX9_fact 73 = .ok (.aload 4, 2) := by decide +kernel
theorem dX9_fact_75 : decode cX9_fact 75 = .ok (.iload_n 2, 1) := by decide +kernel
theorem dX9_fact_76 : decode cX9_fact 76 = .ok (.iload_n 3, 1) := by decide +kernel
theorem dX9_fact_77 : decode cX9_fact 77 = .ok (.invokevirtual 125, 3) := by decide +kernel
theorem dX9_fact_80 : decode cX9_fact 80 = .ok (.ireturn, 1) := by decide +kernel
abbrev rmX9_fact : Room := { frames := 3, cells := 0, slots := 0, locals := 65 }
def bX9_fact_73 (l2 : Int32) (l3 : Int32) (a4 : Nat) (z : AH) : Option (Int32) :=
  (fX5_answer a4 l2 l3 z).bind fun x77 =>
  some x77
set_option maxHeartbeats 4000000 in
set_option maxRecDepth 100000 in
theorem kbX9_fact_73 {p : Program} {l : Launch} {e : Env} {s : State} {m : MethodId} {args : Array Value} {below : List Frame} {meth : Method} {c : Code} {G : GW} {r : Int32} (C : Cx p m c cX9_fact 6 s args RX9 G) (hlk : meth.locks = false) (hr : meth.sig.returnType = (some .int)) {z : AH} (l2 : Int32) (l3 : Int32) (a4 : Nat) {H : Heap} {locs : List Loc} {ls : Array Slot} (h : bX9_fact_73 l2 l3 a4 z = some r) (hW : Wb G z s H locs) (hl : lv_has ls 6 [(2, .int l2), (3, .int l3), (4, .ref (gB G + a4))]) : W p l e rmX9_fact s m args below meth c H locs 0 0 (MQ below (Qi G r z) args s 0 0 (AA G)) (F0 m 73 ls []) := by
  have hx := C.1
  have hb := C.2.1
  unfold bX9_fact_73 at h
  refine lv_aload hx hb dX9_fact_73 (lv_at hl 2 rfl) ?_
  refine lv_iload_n hx hb dX9_fact_75 rfl (lv_at hl 0 rfl) ?_
  refine lv_iload_n hx hb dX9_fact_76 rfl (lv_at hl 1 rfl) ?_
  obtain ⟨x77, hq, h⟩ := ob h
  refine wz_rI (c' := 0) (s' := 0) hW (wz_runV (rest := []) C hW lVX9_125 (ck hq).1 rfl (ctX5_answer l G a4 l2 l3 z hq) ⟨⟨rfl, rfl⟩, Nat.le_of_ble_eq_true rfl, Nat.le_of_ble_eq_true rfl⟩ rfl hl.1 rfl (Nat.le_of_ble_eq_true rfl) dX9_fact_77 ⟨Nat.le_of_ble_eq_true rfl, Nat.le_of_ble_eq_true rfl⟩) rfl rfl (fun H locs hW => ?_)
  exact wz_iretE C hlk hr (Option.some.inj h) rfl hW dX9_fact_80
def bX9_fact_63 (l2 : Int32) (l3 : Int32) (a4 : Nat) (z : AH) : Option (Int32) :=
  (fX5_answer a4 l2 ((3 : Int32) - l3) z).bind fun x69 =>
  some x69
set_option maxHeartbeats 4000000 in
set_option maxRecDepth 100000 in
theorem kbX9_fact_63 {p : Program} {l : Launch} {e : Env} {s : State} {m : MethodId} {args : Array Value} {below : List Frame} {meth : Method} {c : Code} {G : GW} {r : Int32} (C : Cx p m c cX9_fact 6 s args RX9 G) (hlk : meth.locks = false) (hr : meth.sig.returnType = (some .int)) {z : AH} (l2 : Int32) (l3 : Int32) (a4 : Nat) {H : Heap} {locs : List Loc} {ls : Array Slot} (h : bX9_fact_63 l2 l3 a4 z = some r) (hW : Wb G z s H locs) (hl : lv_has ls 6 [(2, .int l2), (3, .int l3), (4, .ref (gB G + a4))]) : W p l e rmX9_fact s m args below meth c H locs 0 0 (MQ below (Qi G r z) args s 0 0 (AA G)) (F0 m 63 ls []) := by
  have hx := C.1
  have hb := C.2.1
  unfold bX9_fact_63 at h
  refine lv_aload hx hb dX9_fact_63 (lv_at hl 2 rfl) ?_
  refine lv_iload_n hx hb dX9_fact_65 rfl (lv_at hl 0 rfl) ?_
  refine lv_iconst (v := 3) hx hb dX9_fact_66 (by decide) ?_
  refine lv_iload_n hx hb dX9_fact_67 rfl (lv_at hl 1 rfl) ?_
  refine lv_isub hx hb dX9_fact_68 ?_
  obtain ⟨x69, hq, h⟩ := ob h
  refine wz_rI (c' := 0) (s' := 0) hW (wz_runV (rest := []) C hW lVX9_125 (ck hq).1 rfl (ctX5_answer l G a4 l2 ((3 : Int32) - l3) z hq) ⟨⟨rfl, rfl⟩, Nat.le_of_ble_eq_true rfl, Nat.le_of_ble_eq_true rfl⟩ rfl hl.1 rfl (Nat.le_of_ble_eq_true rfl) dX9_fact_69 ⟨Nat.le_of_ble_eq_true rfl, Nat.le_of_ble_eq_true rfl⟩) rfl rfl (fun H locs hW => ?_)
  exact wz_iretE C hlk hr (Option.some.inj h) rfl hW dX9_fact_72
def fX9_fact (a0 : Nat) (l1 : Int32) (l2 : Int32) (l3 : Int32) (z : AH) : Option (Int32) :=
  if isO 8 z a0 = true then
    (gN 8 0 z a0).bind fun b1 =>
    (fX7_rowsAt b1 (3 : Int32) l1 z).bind fun q6_ =>
    nq q6_ (
      some (-2 : Int32)
    ) fun b9 =>
    if l2 = (-1 : Int32) then (
      if l3 = (0 : Int32) then (
        (gI 4 3 z b9).bind fun x30 =>
        some x30
      ) else (
        some (-2 : Int32)
      )
    ) else (
      (fX5_answer b9 l2 (0 : Int32) z).bind fun x43 =>
      if x43 = (0 : Int32) then (
        if l3 = (1 : Int32) then (
          bX9_fact_63 l2 l3 b9 z
        ) else (
          if l3 = (2 : Int32) then (
            bX9_fact_63 l2 l3 b9 z
          ) else (
            bX9_fact_73 l2 l3 b9 z
          )
        )
      ) else (
        bX9_fact_73 l2 l3 b9 z
      )
    )
  else none
set_option maxHeartbeats 4000000 in
set_option maxRecDepth 100000 in
theorem ctX9_fact (l : Launch) (G : GW) (a0 : Nat) (l1 : Int32) (l2 : Int32) (l3 : Int32) (z : AH) {r : Int32} (h : fX9_fact a0 l1 l2 l3 z = some r) : Met l yX9_fact (wy yX9_fact cX9_fact 6 (some .int)) rmX9_fact (Pz G [.ref (gB G + a0), .int l1, .int l2, .int l3] z) (Qi G r z) 0 0 (AA G) := by
  refine wz_ent (own := RX9) (by decide +kernel) rfl (fun p e s m below meth c ls C hlk hr hin hW hl => ?_) (Nat.le_of_ble_eq_true rfl)
  have hl : lv_has ls 6 [(0, .ref (gB G + a0)), (1, .int l1), (2, .int l2), (3, .int l3)] := hl
  have hx := C.1
  have hb := C.2.1
  unfold fX9_fact at h
  obtain ⟨-, h⟩ := ck h
  refine lv_aload_n hx hb dX9_fact_0 rfl (lv_at hl 0 rfl) ?_
  obtain ⟨b1, hg, h⟩ := ob h
  refine wz_gN C hW flX9_13 hg dX9_fact_1 ?_
  refine lv_iconst (v := 3) hx hb dX9_fact_4 (by decide) ?_
  refine lv_iload_n hx hb dX9_fact_5 rfl (lv_at hl 1 rfl) ?_
  obtain ⟨q6_, hq, h⟩ := ob h
  refine wz_rQ (c' := 0) (s' := 0) hW (wz_runV (rest := []) C hW lVX9_116 (ck hq).1 rfl (ctX7_rowsAt l G b1 (3 : Int32) l1 z hq) ⟨⟨rfl, rfl⟩, Nat.le_of_ble_eq_true rfl, Nat.le_of_ble_eq_true rfl⟩ rfl hl.1 rfl (Nat.le_of_ble_eq_true rfl) dX9_fact_6 ⟨Nat.le_of_ble_eq_true rfl, Nat.le_of_ble_eq_true rfl⟩) rfl rfl (fun H locs hW => ?_)
  cases q6_ with
  | none =>
    have h := nq_n h
    refine lv_astoreN (lv' := [(4, .null), (0, .ref (gB G + a0)), (1, .int l1), (2, .int l2), (3, .int l3)]) hx hb dX9_fact_9 hl (by decide) rfl (fun ls hl => ?_)
    refine lv_aloadN hx hb dX9_fact_11 (lv_at hl 0 rfl) ?_
    refine lv_ifnonnullN hx hb dX9_fact_13 ?_
    refine lv_bipush (v := -2) hx hb dX9_fact_16 (by decide) ?_
    exact wz_iretE C hlk hr (Option.some.inj h) rfl hW dX9_fact_18
  | some b9 =>
    have h := nq_s h
    refine lv_astore (lv' := [(4, .ref (gB G + b9)), (0, .ref (gB G + a0)), (1, .int l1), (2, .int l2), (3, .int l3)]) hx hb dX9_fact_9 hl (by decide) rfl (fun ls hl => ?_)
    refine lv_aload hx hb dX9_fact_11 (lv_at hl 0 rfl) ?_
    refine lv_ifnonnull (tgt := 19) hx hb dX9_fact_13 (by decide) ?_
    refine lv_iload_n hx hb dX9_fact_19 rfl (lv_at hl 3 rfl) ?_
    refine lv_iconst (v := -1) hx hb dX9_fact_20 (by decide) ?_
    refine lv_icmp_ne (tgt := 39) hx hb dX9_fact_21 (by decide) (fun c21 => ?_) (fun c21 => ?_)
    · have h := ite_f c21 h
      refine lv_aload hx hb dX9_fact_39 (lv_at hl 0 rfl) ?_
      refine lv_iload_n hx hb dX9_fact_41 rfl (lv_at hl 3 rfl) ?_
      refine lv_iconst (v := 0) hx hb dX9_fact_42 (by decide) ?_
      obtain ⟨x43, hq, h⟩ := ob h
      refine wz_rI (c' := 0) (s' := 0) hW (wz_runV (rest := []) C hW lVX9_125 (ck hq).1 rfl (ctX5_answer l G b9 l2 (0 : Int32) z hq) ⟨⟨rfl, rfl⟩, Nat.le_of_ble_eq_true rfl, Nat.le_of_ble_eq_true rfl⟩ rfl hl.1 rfl (Nat.le_of_ble_eq_true rfl) dX9_fact_43 ⟨Nat.le_of_ble_eq_true rfl, Nat.le_of_ble_eq_true rfl⟩) rfl rfl (fun H locs hW => ?_)
      refine lv_istore (lv' := [(5, .int x43), (4, .ref (gB G + b9)), (0, .ref (gB G + a0)), (1, .int l1), (2, .int l2), (3, .int l3)]) hx hb dX9_fact_46 hl (by decide) rfl (fun ls hl => ?_)
      refine lv_iload hx hb dX9_fact_48 (lv_at hl 0 rfl) ?_
      refine lv_if_ne (tgt := 73) hx hb dX9_fact_50 (by decide) (fun c50 => ?_) (fun c50 => ?_)
      · have h := ite_f c50 h
        exact kbX9_fact_73 C hlk hr l2 l3 b9 h hW (lv_sub hl [4, 5, 1] rfl)
      · have h := ite_t c50 h
        refine lv_iload_n hx hb dX9_fact_53 rfl (lv_at hl 5 rfl) ?_
        refine lv_iconst (v := 1) hx hb dX9_fact_54 (by decide) ?_
        refine lv_icmp_eq (tgt := 63) hx hb dX9_fact_55 (by decide) (fun c55 => ?_) (fun c55 => ?_)
        · have h := ite_t c55 h
          exact kbX9_fact_63 C hlk hr l2 l3 b9 h hW (lv_sub hl [4, 5, 1] rfl)
        · have h := ite_f c55 h
          refine lv_iload_n hx hb dX9_fact_58 rfl (lv_at hl 5 rfl) ?_
          refine lv_iconst (v := 2) hx hb dX9_fact_59 (by decide) ?_
          refine lv_icmp_ne (tgt := 73) hx hb dX9_fact_60 (by decide) (fun c60 => ?_) (fun c60 => ?_)
          · have h := ite_f c60 h
            exact kbX9_fact_73 C hlk hr l2 l3 b9 h hW (lv_sub hl [4, 5, 1] rfl)
          · have h := ite_t c60 h
            exact kbX9_fact_63 C hlk hr l2 l3 b9 h hW (lv_sub hl [4, 5, 1] rfl)
    · have h := ite_t c21 h
      refine lv_iload_n hx hb dX9_fact_24 rfl (lv_at hl 4 rfl) ?_
      refine lv_if_ne (tgt := 36) hx hb dX9_fact_25 (by decide) (fun c25 => ?_) (fun c25 => ?_)
      · have h := ite_f c25 h
        refine lv_bipush (v := -2) hx hb dX9_fact_36 (by decide) ?_
        exact wz_iretE C hlk hr (Option.some.inj h) rfl hW dX9_fact_38
      · have h := ite_t c25 h
        refine lv_aload hx hb dX9_fact_28 (lv_at hl 0 rfl) ?_
        obtain ⟨x30, hg, h⟩ := ob h
        refine wz_gI C hW flX9_120 hg dX9_fact_30 ?_
        refine lv_goto (tgt := 38) hx hb dX9_fact_33 (by decide) ?_
        exact wz_iretE C hlk hr (Option.some.inj h) rfl hW dX9_fact_38
theorem lTX9_216 : LT RX9 216 yX3_fitting cX3_fitting 4 (some .int) 1 := ⟨tw 1065 (by decide +kernel) rfl, tw 1066 (by decide +kernel) rfl, tw 137 (by decide +kernel) rfl, tw 1067 (by decide +kernel) rfl, ⟨by decide +kernel, by decide +kernel, by decide +kernel⟩⟩
theorem lTX9_233 : LT RX9 233 yX3_setAt cX3_setAt 4 (some .int) 2 := ⟨tw 1084 (by decide +kernel) rfl, tw 1085 (by decide +kernel) rfl, tw 137 (by decide +kernel) rfl, tw 1086 (by decide +kernel) rfl, ⟨by decide +kernel, by decide +kernel, by decide +kernel⟩⟩
theorem lTX9_230 : LT RX9 230 yX3_fewest cX3_fewest 3 (some .int) 1 := ⟨tw 1080 (by decide +kernel) rfl, tw 1081 (by decide +kernel) rfl, tw 137 (by decide +kernel) rfl, tw 1082 (by decide +kernel) rfl, ⟨by decide +kernel, by decide +kernel, by decide +kernel⟩⟩
theorem lTX9_227 : LT RX9 227 yX3_inAll cX3_inAll 3 (some .int) 1 := ⟨tw 1076 (by decide +kernel) rfl, tw 1077 (by decide +kernel) rfl, tw 137 (by decide +kernel) rfl, tw 1078 (by decide +kernel) rfl, ⟨by decide +kernel, by decide +kernel, by decide +kernel⟩⟩
theorem lTX9_222 : LT RX9 222 yJ6_bitCount_0f7a4 cJ6_bitCount_0f7a4 1 (some .int) 1 := ⟨tw 1075 (by decide +kernel) rfl, tw 929 (by decide +kernel) rfl, tw 136 (by decide +kernel) rfl, tw 930 (by decide +kernel) rfl, ⟨by decide +kernel, by decide +kernel, by decide +kernel⟩⟩
theorem dX9_words_0 : decode cX9_words 0 = .ok (.aload_n 0, 1) := by decide +kernel
theorem dX9_words_1 : decode cX9_words 1 = .ok (.getfield 13, 3) := by decide +kernel
theorem dX9_words_4 : decode cX9_words 4 = .ok (.iconst 3, 1) := by decide +kernel
theorem dX9_words_5 : decode cX9_words 5 = .ok (.iload_n 1, 1) := by decide +kernel
theorem dX9_words_6 : decode cX9_words 6 = .ok (.invokevirtual 116, 3) := by decide +kernel
theorem dX9_words_9 : decode cX9_words 9 = .ok (.astore_n 3, 1) := by decide +kernel
theorem dX9_words_10 : decode cX9_words 10 = .ok (.aload_n 3, 1) := by decide +kernel
theorem dX9_words_11 : decode cX9_words 11 = .ok (.ifnonnull 6, 3) := by decide +kernel
theorem dX9_words_14 : decode cX9_words 14 = .ok (.bipush (-2), 2) := by decide +kernel
theorem dX9_words_16 : decode cX9_words 16 = .ok (.ireturn, 1) := by decide +kernel
theorem dX9_words_17 : decode cX9_words 17 = .ok (.aload_n 3, 1) := by decide +kernel
theorem dX9_words_18 : decode cX9_words 18 = .ok (.invokestatic 216, 3) := by decide +kernel
theorem dX9_words_21 : decode cX9_words 21 = .ok (.istore 4, 2) := by decide +kernel
theorem dX9_words_23 : decode cX9_words 23 = .ok (.iload_n 2, 1) := by decide +kernel
theorem dX9_words_24 : decode cX9_words 24 = .ok (.ifCond .ne 9, 3) := by decide +kernel
theorem dX9_words_27 : decode cX9_words 27 = .ok (.iload 4, 2) := by decide +kernel
theorem dX9_words_29 : decode cX9_words 29 = .ok (.invokestatic 222, 3) := by decide +kernel
theorem dX9_words_32 : decode cX9_words 32 = .ok (.ireturn, 1) := by decide +kernel
theorem dX9_words_33 : decode cX9_words 33 = .ok (.iload_n 2, 1) := by decide +kernel
theorem dX9_words_34 : decode cX9_words 34 = .ok (.iconst 1, 1) := by decide +kernel
theorem dX9_words_35 : decode cX9_words 35 = .ok (.if_icmp .ne 9, 3) := by decide +kernel
theorem dX9_words_38 : decode cX9_words 38 = .ok (.iload 4, 2) := by decide +kernel
theorem dX9_words_40 : decode cX9_words 40 = .ok (.invokestatic 227, 3) := by decide +kernel
theorem dX9_words_43 : decode cX9_words 43 = .ok (.ireturn, 1) := by decide +kernel
theorem dX9_words_44 : decode cX9_words 44 = .ok (.iload_n 2, 1) := by decide +kernel
theorem dX9_words_45 : decode cX9_words 45 = .ok (.iconst 2, 1) := by decide +kernel
theorem dX9_words_46 : decode cX9_words 46 = .ok (.if_icmp .ne 9, 3) := by decide +kernel
theorem dX9_words_49 : decode cX9_words 49 = .ok (.iload 4, 2) := by decide +kernel
theorem dX9_words_51 : decode cX9_words 51 = .ok (.invokestatic 230, 3) := by decide +kernel
theorem dX9_words_54 : decode cX9_words 54 = .ok (.ireturn, 1) := by decide +kernel
theorem dX9_words_55 : decode cX9_words 55 = .ok (.iload_n 2, 1) := by decide +kernel
theorem dX9_words_56 : decode cX9_words 56 = .ok (.bipush 10, 2) := by decide +kernel
theorem dX9_words_58 : decode cX9_words 58 = .ok (.if_icmp .ge 8, 3) := by decide +kernel
theorem dX9_words_61 : decode cX9_words 61 = .ok (.bipush (-2), 2) := by decide +kernel
theorem dX9_words_63 : decode cX9_words 63 = .ok (.goto 12, 3) := by decide +kernel
theorem dX9_words_66 : decode cX9_words 66 = .ok (.iload 4, 2) := by decide +kernel
theorem dX9_words_68 : decode cX9_words 68 = .ok (.iload_n 2, 1) := by decide +kernel
theorem dX9_words_69 : decode cX9_words 69 = .ok (.bipush 10, 2) := by decide +kernel
theorem dX9_words_71 : decode cX9_words 71 = .ok (.isub, 1) := by decide +kernel
theorem dX9_words_72 : decode cX9_words 72 = .ok (.invokestatic 233, 3) := by decide +kernel
theorem dX9_words_75 : decode cX9_words 75 = .ok (.ireturn, 1) := by decide +kernel
abbrev rmX9_words : Room := { frames := 3, cells := 0, slots := 0, locals := 65 }
def fX9_words (a0 : Nat) (l1 : Int32) (l2 : Int32) (z : AH) : Option (Int32) :=
  if isO 8 z a0 = true then
    (gN 8 0 z a0).bind fun b1 =>
    (fX7_rowsAt b1 (3 : Int32) l1 z).bind fun q6_ =>
    nq q6_ (
      some (-2 : Int32)
    ) fun b9 =>
    (fX3_fitting b9 z).bind fun x18 =>
    if l2 = (0 : Int32) then (
      some (fJ6_bitCount_0f7a4 x18)
    ) else (
      if l2 = (1 : Int32) then (
        (fX3_inAll x18).bind fun x40 =>
        some x40
      ) else (
        if l2 = (2 : Int32) then (
          (fX3_fewest x18).bind fun x51 =>
          some x51
        ) else (
          if (10 : Int32) ≤ l2 then (
            (fX3_setAt x18 (l2 - (10 : Int32))).bind fun x72 =>
            some x72
          ) else (
            some (-2 : Int32)
          )
        )
      )
    )
  else none
set_option maxHeartbeats 4000000 in
set_option maxRecDepth 100000 in
theorem ctX9_words (l : Launch) (G : GW) (a0 : Nat) (l1 : Int32) (l2 : Int32) (z : AH) {r : Int32} (h : fX9_words a0 l1 l2 z = some r) : Met l yX9_words (wy yX9_words cX9_words 5 (some .int)) rmX9_words (Pz G [.ref (gB G + a0), .int l1, .int l2] z) (Qi G r z) 0 0 (AA G) := by
  refine wz_ent (own := RX9) (by decide +kernel) rfl (fun p e s m below meth c ls C hlk hr hin hW hl => ?_) (Nat.le_of_ble_eq_true rfl)
  have hl : lv_has ls 5 [(0, .ref (gB G + a0)), (1, .int l1), (2, .int l2)] := hl
  have hx := C.1
  have hb := C.2.1
  unfold fX9_words at h
  obtain ⟨-, h⟩ := ck h
  refine lv_aload_n hx hb dX9_words_0 rfl (lv_at hl 0 rfl) ?_
  obtain ⟨b1, hg, h⟩ := ob h
  refine wz_gN C hW flX9_13 hg dX9_words_1 ?_
  refine lv_iconst (v := 3) hx hb dX9_words_4 (by decide) ?_
  refine lv_iload_n hx hb dX9_words_5 rfl (lv_at hl 1 rfl) ?_
  obtain ⟨q6_, hq, h⟩ := ob h
  refine wz_rQ (c' := 0) (s' := 0) hW (wz_runV (rest := []) C hW lVX9_116 (ck hq).1 rfl (ctX7_rowsAt l G b1 (3 : Int32) l1 z hq) ⟨⟨rfl, rfl⟩, Nat.le_of_ble_eq_true rfl, Nat.le_of_ble_eq_true rfl⟩ rfl hl.1 rfl (Nat.le_of_ble_eq_true rfl) dX9_words_6 ⟨Nat.le_of_ble_eq_true rfl, Nat.le_of_ble_eq_true rfl⟩) rfl rfl (fun H locs hW => ?_)
  cases q6_ with
  | none =>
    have h := nq_n h
    refine lv_astore_nN (lv' := [(3, .null), (0, .ref (gB G + a0)), (1, .int l1), (2, .int l2)]) hx hb dX9_words_9 rfl hl (by decide) rfl (fun ls hl => ?_)
    refine lv_aload_nN hx hb dX9_words_10 rfl (lv_at hl 0 rfl) ?_
    refine lv_ifnonnullN hx hb dX9_words_11 ?_
    refine lv_bipush (v := -2) hx hb dX9_words_14 (by decide) ?_
    exact wz_iretE C hlk hr (Option.some.inj h) rfl hW dX9_words_16
  | some b9 =>
    have h := nq_s h
    refine lv_astore_n (lv' := [(3, .ref (gB G + b9)), (0, .ref (gB G + a0)), (1, .int l1), (2, .int l2)]) hx hb dX9_words_9 rfl hl (by decide) rfl (fun ls hl => ?_)
    refine lv_aload_n hx hb dX9_words_10 rfl (lv_at hl 0 rfl) ?_
    refine lv_ifnonnull (tgt := 17) hx hb dX9_words_11 (by decide) ?_
    refine lv_aload_n hx hb dX9_words_17 rfl (lv_at hl 0 rfl) ?_
    obtain ⟨x18, hq, h⟩ := ob h
    refine wz_rI (c' := 0) (s' := 0) hW (wz_runS (rest := []) C hW lTX9_216 (ctX3_fitting l G b9 z hq) ⟨⟨rfl, rfl⟩, Nat.le_of_ble_eq_true rfl, Nat.le_of_ble_eq_true rfl⟩ rfl hl.1 rfl (Nat.le_of_ble_eq_true rfl) dX9_words_18 ⟨Nat.le_of_ble_eq_true rfl, Nat.le_of_ble_eq_true rfl⟩) rfl rfl (fun H locs hW => ?_)
    refine lv_istore (lv' := [(4, .int x18), (3, .ref (gB G + b9)), (0, .ref (gB G + a0)), (1, .int l1), (2, .int l2)]) hx hb dX9_words_21 hl (by decide) rfl (fun ls hl => ?_)
    refine lv_iload_n hx hb dX9_words_23 rfl (lv_at hl 4 rfl) ?_
    refine lv_if_ne (tgt := 33) hx hb dX9_words_24 (by decide) (fun c24 => ?_) (fun c24 => ?_)
    · have h := ite_f c24 h
      refine lv_iload_n hx hb dX9_words_33 rfl (lv_at hl 4 rfl) ?_
      refine lv_iconst (v := 1) hx hb dX9_words_34 (by decide) ?_
      refine lv_icmp_ne (tgt := 44) hx hb dX9_words_35 (by decide) (fun c35 => ?_) (fun c35 => ?_)
      · have h := ite_f c35 h
        refine lv_iload_n hx hb dX9_words_44 rfl (lv_at hl 4 rfl) ?_
        refine lv_iconst (v := 2) hx hb dX9_words_45 (by decide) ?_
        refine lv_icmp_ne (tgt := 55) hx hb dX9_words_46 (by decide) (fun c46 => ?_) (fun c46 => ?_)
        · have h := ite_f c46 h
          refine lv_iload_n hx hb dX9_words_55 rfl (lv_at hl 4 rfl) ?_
          refine lv_bipush (v := 10) hx hb dX9_words_56 (by decide) ?_
          refine lv_icmp_ge (tgt := 66) hx hb dX9_words_58 (by decide) (fun c58 => ?_) (fun c58 => ?_)
          · have h := ite_t c58 h
            refine lv_iload hx hb dX9_words_66 (lv_at hl 0 rfl) ?_
            refine lv_iload_n hx hb dX9_words_68 rfl (lv_at hl 4 rfl) ?_
            refine lv_bipush (v := 10) hx hb dX9_words_69 (by decide) ?_
            refine lv_isub hx hb dX9_words_71 ?_
            obtain ⟨x72, hq, h⟩ := ob h
            refine wz_rI (c' := 0) (s' := 0) hW (wz_runS (rest := []) C hW lTX9_233 (ctX3_setAt l G x18 (l2 - (10 : Int32)) z hq) ⟨⟨rfl, rfl⟩, Nat.le_of_ble_eq_true rfl, Nat.le_of_ble_eq_true rfl⟩ rfl hl.1 rfl (Nat.le_of_ble_eq_true rfl) dX9_words_72 ⟨Nat.le_of_ble_eq_true rfl, Nat.le_of_ble_eq_true rfl⟩) rfl rfl (fun H locs hW => ?_)
            exact wz_iretE C hlk hr (Option.some.inj h) rfl hW dX9_words_75
          · have h := ite_f c58 h
            refine lv_bipush (v := -2) hx hb dX9_words_61 (by decide) ?_
            refine lv_goto (tgt := 75) hx hb dX9_words_63 (by decide) ?_
            exact wz_iretE C hlk hr (Option.some.inj h) rfl hW dX9_words_75
        · have h := ite_t c46 h
          refine lv_iload hx hb dX9_words_49 (lv_at hl 0 rfl) ?_
          obtain ⟨x51, hq, h⟩ := ob h
          refine wz_rI (c' := 0) (s' := 0) hW (wz_runS (rest := []) C hW lTX9_230 (ctX3_fewest l G x18 z hq) ⟨⟨rfl, rfl⟩, Nat.le_of_ble_eq_true rfl, Nat.le_of_ble_eq_true rfl⟩ rfl hl.1 rfl (Nat.le_of_ble_eq_true rfl) dX9_words_51 ⟨Nat.le_of_ble_eq_true rfl, Nat.le_of_ble_eq_true rfl⟩) rfl rfl (fun H locs hW => ?_)
          exact wz_iretE C hlk hr (Option.some.inj h) rfl hW dX9_words_54
      · have h := ite_t c35 h
        refine lv_iload hx hb dX9_words_38 (lv_at hl 0 rfl) ?_
        obtain ⟨x40, hq, h⟩ := ob h
        refine wz_rI (c' := 0) (s' := 0) hW (wz_runS (rest := []) C hW lTX9_227 (ctX3_inAll l G x18 z hq) ⟨⟨rfl, rfl⟩, Nat.le_of_ble_eq_true rfl, Nat.le_of_ble_eq_true rfl⟩ rfl hl.1 rfl (Nat.le_of_ble_eq_true rfl) dX9_words_40 ⟨Nat.le_of_ble_eq_true rfl, Nat.le_of_ble_eq_true rfl⟩) rfl rfl (fun H locs hW => ?_)
        exact wz_iretE C hlk hr (Option.some.inj h) rfl hW dX9_words_43
    · have h := ite_t c24 h
      refine lv_iload hx hb dX9_words_27 (lv_at hl 0 rfl) ?_
      refine wz_rI (c' := 0) (s' := 0) hW (wz_runS (rest := []) C hW lTX9_222 (ctJ6_bitCount_0f7a4 l G x18 z rfl) ⟨⟨rfl, rfl⟩, Nat.le_of_ble_eq_true rfl, Nat.le_of_ble_eq_true rfl⟩ rfl hl.1 rfl (Nat.le_of_ble_eq_true rfl) dX9_words_29 ⟨Nat.le_of_ble_eq_true rfl, Nat.le_of_ble_eq_true rfl⟩) rfl rfl (fun H locs hW => ?_)
      exact wz_iretE C hlk hr (Option.some.inj h) rfl hW dX9_words_32
