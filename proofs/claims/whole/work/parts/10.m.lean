theorem flX0_21 : FL RX0 21 0 4 := ⟨_, rfl, Nat.le_of_ble_eq_true rfl, tw 163 (by decide +kernel) rfl, rfl⟩
theorem flX0_11 : FL RX0 11 0 1 := ⟨_, rfl, Nat.le_of_ble_eq_true rfl, tw 157 (by decide +kernel) rfl, rfl⟩
theorem flX0_15 : FL RX0 15 0 2 := ⟨_, rfl, Nat.le_of_ble_eq_true rfl, tw 159 (by decide +kernel) rfl, rfl⟩
theorem flX0_18 : FL RX0 18 0 3 := ⟨_, rfl, Nat.le_of_ble_eq_true rfl, tw 161 (by decide +kernel) rfl, rfl⟩
theorem flX0_24 : FL RX0 24 0 5 := ⟨_, rfl, Nat.le_of_ble_eq_true rfl, tw 165 (by decide +kernel) rfl, rfl⟩
theorem flX0_27 : FL RX0 27 0 6 := ⟨_, rfl, Nat.le_of_ble_eq_true rfl, tw 167 (by decide +kernel) rfl, rfl⟩
theorem flX0_30 : FL RX0 30 0 8 := ⟨_, rfl, Nat.le_of_ble_eq_true rfl, tw 171 (by decide +kernel) rfl, rfl⟩
theorem flX0_33 : FL RX0 33 0 9 := ⟨_, rfl, Nat.le_of_ble_eq_true rfl, tw 173 (by decide +kernel) rfl, rfl⟩
theorem flX0_36 : FL RX0 36 0 12 := ⟨_, rfl, Nat.le_of_ble_eq_true rfl, tw 183 (by decide +kernel) rfl, rfl⟩
theorem flX0_39 : FL RX0 39 0 13 := ⟨_, rfl, Nat.le_of_ble_eq_true rfl, tw 185 (by decide +kernel) rfl, rfl⟩
theorem flX0_42 : FL RX0 42 0 15 := ⟨_, rfl, Nat.le_of_ble_eq_true rfl, tw 192 (by decide +kernel) rfl, rfl⟩
theorem flX0_45 : FL RX0 45 0 16 := ⟨_, rfl, Nat.le_of_ble_eq_true rfl, tw 194 (by decide +kernel) rfl, rfl⟩
theorem flX0_48 : FL RX0 48 0 17 := ⟨_, rfl, Nat.le_of_ble_eq_true rfl, tw 196 (by decide +kernel) rfl, rfl⟩
theorem flX0_51 : FL RX0 51 0 18 := ⟨_, rfl, Nat.le_of_ble_eq_true rfl, tw 199 (by decide +kernel) rfl, rfl⟩
theorem flX0_54 : FL RX0 54 0 19 := ⟨_, rfl, Nat.le_of_ble_eq_true rfl, tw 202 (by decide +kernel) rfl, rfl⟩
theorem dX0_init_0 : decode cX0_init 0 = .ok (.aload_n 0, 1) := by decide +kernel
theorem dX0_init_1 : decode cX0_init 1 = .ok (.invokespecial 3, 3) := by decide +kernel
theorem dX0_init_4 : decode cX0_init 4 = .ok (.aload_n 0, 1) := by decide +kernel
theorem dX0_init_5 : decode cX0_init 5 = .ok (.bipush 8, 2) := by decide +kernel
theorem dX0_init_7 : decode cX0_init 7 = .ok (.newarray .int, 2) := by decide +kernel
theorem dX0_init_9 : decode cX0_init 9 = .ok (.putfield 11, 3) := by decide +kernel
theorem dX0_init_12 : decode cX0_init 12 = .ok (.aload_n 0, 1) := by decide +kernel
theorem dX0_init_13 : decode cX0_init 13 = .ok (.bipush 8, 2) := by decide +kernel
theorem dX0_init_15 : decode cX0_init 15 = .ok (.newarray .int, 2) := by decide +kernel
theorem dX0_init_17 : decode cX0_init 17 = .ok (.putfield 15, 3) := by decide +kernel
theorem dX0_init_20 : decode cX0_init 20 = .ok (.aload_n 0, 1) := by decide +kernel
theorem dX0_init_21 : decode cX0_init 21 = .ok (.bipush 8, 2) := by decide +kernel
theorem dX0_init_23 : decode cX0_init 23 = .ok (.newarray .int, 2) := by decide +kernel
theorem dX0_init_25 : decode cX0_init 25 = .ok (.putfield 18, 3) := by decide +kernel
theorem dX0_init_28 : decode cX0_init 28 = .ok (.aload_n 0, 1) := by decide +kernel
theorem dX0_init_29 : decode cX0_init 29 = .ok (.bipush 8, 2) := by decide +kernel
theorem dX0_init_31 : decode cX0_init 31 = .ok (.newarray .int, 2) := by decide +kernel
theorem dX0_init_33 : decode cX0_init 33 = .ok (.putfield 21, 3) := by decide +kernel
theorem dX0_init_36 : decode cX0_init 36 = .ok (.aload_n 0, 1) := by decide +kernel
theorem dX0_init_37 : decode cX0_init 37 = .ok (.bipush 8, 2) := by decide +kernel
theorem dX0_init_39 : decode cX0_init 39 = .ok (.newarray .int, 2) := by decide +kernel
theorem dX0_init_41 : decode cX0_init 41 = .ok (.putfield 24, 3) := by decide +kernel
theorem dX0_init_44 : decode cX0_init 44 = .ok (.aload_n 0, 1) := by decide +kernel
theorem dX0_init_45 : decode cX0_init 45 = .ok (.bipush 8, 2) := by decide +kernel
theorem dX0_init_47 : decode cX0_init 47 = .ok (.newarray .int, 2) := by decide +kernel
theorem dX0_init_49 : decode cX0_init 49 = .ok (.putfield 27, 3) := by decide +kernel
theorem dX0_init_52 : decode cX0_init 52 = .ok (.aload_n 0, 1) := by decide +kernel
theorem dX0_init_53 : decode cX0_init 53 = .ok (.bipush 12, 2) := by decide +kernel
theorem dX0_init_55 : decode cX0_init 55 = .ok (.newarray .int, 2) := by decide +kernel
theorem dX0_init_57 : decode cX0_init 57 = .ok (.putfield 30, 3) := by decide +kernel
theorem dX0_init_60 : decode cX0_init 60 = .ok (.aload_n 0, 1) := by decide +kernel
theorem dX0_init_61 : decode cX0_init 61 = .ok (.bipush 12, 2) := by decide +kernel
theorem dX0_init_63 : decode cX0_init 63 = .ok (.newarray .int, 2) := by decide +kernel
theorem dX0_init_65 : decode cX0_init 65 = .ok (.putfield 33, 3) := by decide +kernel
theorem dX0_init_68 : decode cX0_init 68 = .ok (.aload_n 0, 1) := by decide +kernel
theorem dX0_init_69 : decode cX0_init 69 = .ok (.iconst 4, 1) := by decide +kernel
theorem dX0_init_70 : decode cX0_init 70 = .ok (.newarray .int, 2) := by decide +kernel
theorem dX0_init_72 : decode cX0_init 72 = .ok (.putfield 36, 3) := by decide +kernel
theorem dX0_init_75 : decode cX0_init 75 = .ok (.aload_n 0, 1) := by decide +kernel
theorem dX0_init_76 : decode cX0_init 76 = .ok (.iconst 4, 1) := by decide +kernel
theorem dX0_init_77 : decode cX0_init 77 = .ok (.newarray .int, 2) := by decide +kernel
theorem dX0_init_79 : decode cX0_init 79 = .ok (.putfield 39, 3) := by decide +kernel
theorem dX0_init_82 : decode cX0_init 82 = .ok (.aload_n 0, 1) := by decide +kernel
theorem dX0_init_83 : decode cX0_init 83 = .ok (.iconst 4, 1) := by decide +kernel
theorem dX0_init_84 : decode cX0_init 84 = .ok (.newarray .int, 2) := by decide +kernel
theorem dX0_init_86 : decode cX0_init 86 = .ok (.putfield 42, 3) := by decide +kernel
theorem dX0_init_89 : decode cX0_init 89 = .ok (.aload_n 0, 1) := by decide +kernel
theorem dX0_init_90 : decode cX0_init 90 = .ok (.iconst 4, 1) := by decide +kernel
theorem dX0_init_91 : decode cX0_init 91 = .ok (.newarray .int, 2) := by decide +kernel
theorem dX0_init_93 : decode cX0_init 93 = .ok (.putfield 45, 3) := by decide +kernel
theorem dX0_init_96 : decode cX0_init 96 = .ok (.aload_n 0, 1) := by decide +kernel
theorem dX0_init_97 : decode cX0_init 97 = .ok (.bipush 16, 2) := by decide +kernel
theorem dX0_init_99 : decode cX0_init 99 = .ok (.newarray .int, 2) := by decide +kernel
theorem dX0_init_101 : decode cX0_init 101 = .ok (.putfield 48, 3) := by decide +kernel
theorem dX0_init_104 : decode cX0_init 104 = .ok (.aload_n 0, 1) := by decide +kernel
theorem dX0_init_105 : decode cX0_init 105 = .ok (.bipush 16, 2) := by decide +kernel
theorem dX0_init_107 : decode cX0_init 107 = .ok (.newarray .int, 2) := by decide +kernel
theorem dX0_init_109 : decode cX0_init 109 = .ok (.putfield 51, 3) := by decide +kernel
theorem dX0_init_112 : decode cX0_init 112 = .ok (.aload_n 0, 1) := by decide +kernel
theorem dX0_init_113 : decode cX0_init 113 = .ok (.iconst 3, 1) := by decide +kernel
theorem dX0_init_114 : decode cX0_init 114 = .ok (.putfield 54, 3) := by decide +kernel
theorem dX0_init_117 : decode cX0_init 117 = .ok (.iconst 0, 1) := by decide +kernel
theorem dX0_init_118 : decode cX0_init 118 = .ok (.istore_n 1, 1) := by decide +kernel
theorem dX0_init_119 : decode cX0_init 119 = .ok (.iload_n 1, 1) := by decide +kernel
theorem dX0_init_120 : decode cX0_init 120 = .ok (.bipush 8, 2) := by decide +kernel
theorem dX0_init_122 : decode cX0_init 122 = .ok (.if_icmp .ge 16, 3) := by decide +kernel
theorem dX0_init_125 : decode cX0_init 125 = .ok (.aload_n 0, 1) := by decide +kernel
theorem dX0_init_126 : decode cX0_init 126 = .ok (.getfield 21, 3) := by decide +kernel
theorem dX0_init_129 : decode cX0_init 129 = .ok (.iload_n 1, 1) := by decide +kernel
theorem dX0_init_130 : decode cX0_init 130 = .ok (.iconst (-1), 1) := by decide +kernel
theorem dX0_init_131 : decode cX0_init 131 = .ok (.iastore, 1) := by decide +kernel
theorem dX0_init_132 : decode cX0_init 132 = .ok (.iinc 1 1, 3) := by decide +kernel
theorem dX0_init_135 : decode cX0_init 135 = .ok (.goto (-16), 3) := by decide +kernel
theorem dX0_init_138 : decode cX0_init 138 = .ok (.return_, 1) := by decide +kernel
abbrev rmX0_init : Room := { frames := 1, cells := 14, slots := 120, locals := 20 }
def bX0_init_119 (k119 : Nat → Int32 → AH → Option AH) (a0 : Nat) (l1 : Int32) (z : AH) : Option AH :=
  if (8 : Int32) ≤ l1 then (
    some z
  ) else (
    (gN 0 4 z a0).bind fun b126 =>
    (stI 0 z b126 l1 (-1 : Int32)).bind fun z131 =>
    nm (l1 + (1 : Int32)) fun v132 =>
    k119 a0 v132 z131
  )
set_option maxHeartbeats 4000000 in
set_option maxRecDepth 100000 in
theorem kbX0_init_119 {p : Program} {l : Launch} {e : Env} {s : State} {m : MethodId} {args : Array Value} {below : List Frame} {meth : Method} {c : Code} {G : GW} {z' : AH} (C : Cx p m c cX0_init 2 s args RX0 G) (hlk : meth.locks = false) (hr : meth.sig.returnType = none) (hin : meth.name = "<init>") (k119 : Nat → Int32 → AH → Option AH) (hk119 : ∀ (a0 : Nat) (l1 : Int32) (z : AH) (H : Heap) (locs : List Loc) (ls : Array Slot), k119 a0 l1 z = some z' → Wb G z s H locs → lv_has ls 2 [(0, .ref (gB G + a0)), (1, .int l1)] → W p l e rmX0_init s m args below meth c H locs 14 120 (MQ below (Qv G z') args s 14 120 (AA G)) (F0 m 119 ls [])) (a0 : Nat) (l1 : Int32) {z : AH} {H : Heap} {locs : List Loc} {ls : Array Slot} (h : bX0_init_119 k119 a0 l1 z = some z') (hW : Wb G z s H locs) (hl : lv_has ls 2 [(0, .ref (gB G + a0)), (1, .int l1)]) : W p l e rmX0_init s m args below meth c H locs 14 120 (MQ below (Qv G z') args s 14 120 (AA G)) (F0 m 119 ls []) := by
  have hx := C.1
  have hb := C.2.1
  unfold bX0_init_119 at h
  refine lv_iload_n hx hb dX0_init_119 rfl (lv_at hl 1 rfl) ?_
  refine lv_bipush (v := 8) hx hb dX0_init_120 (by decide) ?_
  refine lv_icmp_ge (tgt := 138) hx hb dX0_init_122 (by decide) (fun c122 => ?_) (fun c122 => ?_)
  · have h := ite_t c122 h
    exact wz_vretE C hlk hr (Option.some.inj h) hW dX0_init_138
  · have h := ite_f c122 h
    refine lv_aload_n hx hb dX0_init_125 rfl (lv_at hl 0 rfl) ?_
    obtain ⟨b126, hg, h⟩ := ob h
    refine wz_gN C hW flX0_21 hg dX0_init_126 ?_
    refine lv_iload_n hx hb dX0_init_129 rfl (lv_at hl 1 rfl) ?_
    refine lv_iconst (v := -1) hx hb dX0_init_130 (by decide) ?_
    obtain ⟨z131, hg, h⟩ := ob h
    refine wz_ast C hW hg dX0_init_131 (fun H locs hW => ?_)
    obtain ⟨v132, ev132⟩ : ∃ y : Int32, y = (l1 + (1 : Int32)) := ⟨_, rfl⟩
    have h := nm_to h ev132
    refine lv_iinc (v := v132) (lv' := [(1, .int v132), (0, .ref (gB G + a0))]) hx hb dX0_init_132 hl (k := 1) rfl (by rw [ev132]; rfl) (by decide) rfl (fun ls hl => ?_)
    refine lv_goto (tgt := 119) hx hb dX0_init_135 (by decide) ?_
    exact hk119 a0 v132 z131 _ _ _ h hW (lv_sub hl [1, 0] rfl)
def fX0_init_119 : Nat → Nat → Int32 → AH → Option AH
  | 0, _, _, _ => none
  | n + 1, a0, l1, z => bX0_init_119 (fX0_init_119 n) a0 l1 z
theorem klX0_init_119 {p : Program} {l : Launch} {e : Env} {s : State} {m : MethodId} {args : Array Value} {below : List Frame} {meth : Method} {c : Code} {G : GW} {z' : AH} (C : Cx p m c cX0_init 2 s args RX0 G) (hlk : meth.locks = false) (hr : meth.sig.returnType = none) (hin : meth.name = "<init>") : ∀ (n : Nat) (a0 : Nat) (l1 : Int32) (z : AH) (H : Heap) (locs : List Loc) (ls : Array Slot), fX0_init_119 n a0 l1 z = some z' → Wb G z s H locs → lv_has ls 2 [(0, .ref (gB G + a0)), (1, .int l1)] → W p l e rmX0_init s m args below meth c H locs 14 120 (MQ below (Qv G z') args s 14 120 (AA G)) (F0 m 119 ls []) := by
  intro n
  induction n with
  | zero => intro a0 l1 z H locs ls h; have h : (none : Option AH) = some z' := h; cases h
  | succ n ih => intro a0 l1 z H locs ls h hW hl; exact kbX0_init_119 C hlk hr hin (fX0_init_119 n) (fun a0 l1 z H locs ls h hW hl => ih a0 l1 z H locs ls h hW hl) a0 l1 h hW hl
def fX0_init (a0 : Nat) (z : AH) : Option AH :=
  if isO 0 z a0 = true then
    mk (.inl (0, 8, fun _ => 0)) z fun b7 z7 =>
    (pF 0 1 z7 a0 (.ref b7)).bind fun z9 =>
    mk (.inl (0, 8, fun _ => 0)) z9 fun b15 z15 =>
    (pF 0 2 z15 a0 (.ref b15)).bind fun z17 =>
    mk (.inl (0, 8, fun _ => 0)) z17 fun b23 z23 =>
    (pF 0 3 z23 a0 (.ref b23)).bind fun z25 =>
    mk (.inl (0, 8, fun _ => 0)) z25 fun b31 z31 =>
    (pF 0 4 z31 a0 (.ref b31)).bind fun z33 =>
    mk (.inl (0, 8, fun _ => 0)) z33 fun b39 z39 =>
    (pF 0 5 z39 a0 (.ref b39)).bind fun z41 =>
    mk (.inl (0, 8, fun _ => 0)) z41 fun b47 z47 =>
    (pF 0 6 z47 a0 (.ref b47)).bind fun z49 =>
    mk (.inl (0, 12, fun _ => 0)) z49 fun b55 z55 =>
    (pF 0 8 z55 a0 (.ref b55)).bind fun z57 =>
    mk (.inl (0, 12, fun _ => 0)) z57 fun b63 z63 =>
    (pF 0 9 z63 a0 (.ref b63)).bind fun z65 =>
    mk (.inl (0, 4, fun _ => 0)) z65 fun b70 z70 =>
    (pF 0 12 z70 a0 (.ref b70)).bind fun z72 =>
    mk (.inl (0, 4, fun _ => 0)) z72 fun b77 z77 =>
    (pF 0 13 z77 a0 (.ref b77)).bind fun z79 =>
    mk (.inl (0, 4, fun _ => 0)) z79 fun b84 z84 =>
    (pF 0 15 z84 a0 (.ref b84)).bind fun z86 =>
    mk (.inl (0, 4, fun _ => 0)) z86 fun b91 z91 =>
    (pF 0 16 z91 a0 (.ref b91)).bind fun z93 =>
    mk (.inl (0, 16, fun _ => 0)) z93 fun b99 z99 =>
    (pF 0 17 z99 a0 (.ref b99)).bind fun z101 =>
    mk (.inl (0, 16, fun _ => 0)) z101 fun b107 z107 =>
    (pF 0 18 z107 a0 (.ref b107)).bind fun z109 =>
    (pF 0 19 z109 a0 (.int (3 : Int32))).bind fun z114 =>
    fX0_init_119 FU a0 (0 : Int32) z114
  else none
set_option maxHeartbeats 4000000 in
set_option maxRecDepth 100000 in
theorem ctX0_init (l : Launch) (G : GW) (a0 : Nat) (z : AH) {z' : AH} (h : fX0_init a0 z = some z') : Met l yX0_init (wy yX0_init cX0_init 2 none) rmX0_init (Pz G [.ref (gB G + a0)] z) (Qv G z') 14 120 (AA G) := by
  refine wz_ent (own := RX0) (by decide +kernel) rfl (fun p e s m below meth c ls C hlk hr hin hW hl => ?_) (Nat.le_of_ble_eq_true rfl)
  have hl : lv_has ls 2 [(0, .ref (gB G + a0))] := hl
  have hx := C.1
  have hb := C.2.1
  unfold fX0_init at h
  obtain ⟨-, h⟩ := ck h
  refine lv_aload_n hx hb dX0_init_0 rfl (lv_at hl 0 rfl) ?_
  refine wz_obj ⟨tw 151 (by decide +kernel) rfl, tw 144 (by decide +kernel) rfl, tw 145 (by decide +kernel) rfl⟩ C hl.1 dX0_init_1 ⟨Nat.le_of_ble_eq_true rfl, Nat.le_of_ble_eq_true rfl⟩ ?_
  refine lv_aload_n hx hb dX0_init_4 rfl (lv_at hl 0 rfl) ?_
  refine lv_bipush (v := 8) hx hb dX0_init_5 (by decide) ?_
  obtain ⟨b7, z7, ea, ez, h⟩ := mk_ob h
  refine wz_newIK (N := 8) (c' := 1) (s' := 8) ea ez (tw 247 (by decide +kernel) rfl) C hW (by decide) (by decide +kernel) (Nat.le_of_ble_eq_true rfl) ⟨Nat.le_of_ble_eq_true rfl, Nat.le_of_ble_eq_true rfl⟩ rfl rfl dX0_init_7 (fun H hW => ?_)
  obtain ⟨z9, hg, h⟩ := ob h
  refine wz_putF (v := (.ref b7)) C hin hW flX0_11 rfl rfl hg dX0_init_9 (fun H locs hW => ?_)
  refine lv_aload_n hx hb dX0_init_12 rfl (lv_at hl 0 rfl) ?_
  refine lv_bipush (v := 8) hx hb dX0_init_13 (by decide) ?_
  obtain ⟨b15, z15, ea, ez, h⟩ := mk_ob h
  refine wz_newIK (N := 8) (c' := 2) (s' := 16) ea ez (tw 247 (by decide +kernel) rfl) C hW (by decide) (by decide +kernel) (Nat.le_of_ble_eq_true rfl) ⟨Nat.le_of_ble_eq_true rfl, Nat.le_of_ble_eq_true rfl⟩ rfl rfl dX0_init_15 (fun H hW => ?_)
  obtain ⟨z17, hg, h⟩ := ob h
  refine wz_putF (v := (.ref b15)) C hin hW flX0_15 rfl rfl hg dX0_init_17 (fun H locs hW => ?_)
  refine lv_aload_n hx hb dX0_init_20 rfl (lv_at hl 0 rfl) ?_
  refine lv_bipush (v := 8) hx hb dX0_init_21 (by decide) ?_
  obtain ⟨b23, z23, ea, ez, h⟩ := mk_ob h
  refine wz_newIK (N := 8) (c' := 3) (s' := 24) ea ez (tw 247 (by decide +kernel) rfl) C hW (by decide) (by decide +kernel) (Nat.le_of_ble_eq_true rfl) ⟨Nat.le_of_ble_eq_true rfl, Nat.le_of_ble_eq_true rfl⟩ rfl rfl dX0_init_23 (fun H hW => ?_)
  obtain ⟨z25, hg, h⟩ := ob h
  refine wz_putF (v := (.ref b23)) C hin hW flX0_18 rfl rfl hg dX0_init_25 (fun H locs hW => ?_)
  refine lv_aload_n hx hb dX0_init_28 rfl (lv_at hl 0 rfl) ?_
  refine lv_bipush (v := 8) hx hb dX0_init_29 (by decide) ?_
  obtain ⟨b31, z31, ea, ez, h⟩ := mk_ob h
  refine wz_newIK (N := 8) (c' := 4) (s' := 32) ea ez (tw 247 (by decide +kernel) rfl) C hW (by decide) (by decide +kernel) (Nat.le_of_ble_eq_true rfl) ⟨Nat.le_of_ble_eq_true rfl, Nat.le_of_ble_eq_true rfl⟩ rfl rfl dX0_init_31 (fun H hW => ?_)
  obtain ⟨z33, hg, h⟩ := ob h
  refine wz_putF (v := (.ref b31)) C hin hW flX0_21 rfl rfl hg dX0_init_33 (fun H locs hW => ?_)
  refine lv_aload_n hx hb dX0_init_36 rfl (lv_at hl 0 rfl) ?_
  refine lv_bipush (v := 8) hx hb dX0_init_37 (by decide) ?_
  obtain ⟨b39, z39, ea, ez, h⟩ := mk_ob h
  refine wz_newIK (N := 8) (c' := 5) (s' := 40) ea ez (tw 247 (by decide +kernel) rfl) C hW (by decide) (by decide +kernel) (Nat.le_of_ble_eq_true rfl) ⟨Nat.le_of_ble_eq_true rfl, Nat.le_of_ble_eq_true rfl⟩ rfl rfl dX0_init_39 (fun H hW => ?_)
  obtain ⟨z41, hg, h⟩ := ob h
  refine wz_putF (v := (.ref b39)) C hin hW flX0_24 rfl rfl hg dX0_init_41 (fun H locs hW => ?_)
  refine lv_aload_n hx hb dX0_init_44 rfl (lv_at hl 0 rfl) ?_
  refine lv_bipush (v := 8) hx hb dX0_init_45 (by decide) ?_
  obtain ⟨b47, z47, ea, ez, h⟩ := mk_ob h
  refine wz_newIK (N := 8) (c' := 6) (s' := 48) ea ez (tw 247 (by decide +kernel) rfl) C hW (by decide) (by decide +kernel) (Nat.le_of_ble_eq_true rfl) ⟨Nat.le_of_ble_eq_true rfl, Nat.le_of_ble_eq_true rfl⟩ rfl rfl dX0_init_47 (fun H hW => ?_)
  obtain ⟨z49, hg, h⟩ := ob h
  refine wz_putF (v := (.ref b47)) C hin hW flX0_27 rfl rfl hg dX0_init_49 (fun H locs hW => ?_)
  refine lv_aload_n hx hb dX0_init_52 rfl (lv_at hl 0 rfl) ?_
  refine lv_bipush (v := 12) hx hb dX0_init_53 (by decide) ?_
  obtain ⟨b55, z55, ea, ez, h⟩ := mk_ob h
  refine wz_newIK (N := 12) (c' := 7) (s' := 60) ea ez (tw 247 (by decide +kernel) rfl) C hW (by decide) (by decide +kernel) (Nat.le_of_ble_eq_true rfl) ⟨Nat.le_of_ble_eq_true rfl, Nat.le_of_ble_eq_true rfl⟩ rfl rfl dX0_init_55 (fun H hW => ?_)
  obtain ⟨z57, hg, h⟩ := ob h
  refine wz_putF (v := (.ref b55)) C hin hW flX0_30 rfl rfl hg dX0_init_57 (fun H locs hW => ?_)
  refine lv_aload_n hx hb dX0_init_60 rfl (lv_at hl 0 rfl) ?_
  refine lv_bipush (v := 12) hx hb dX0_init_61 (by decide) ?_
  obtain ⟨b63, z63, ea, ez, h⟩ := mk_ob h
  refine wz_newIK (N := 12) (c' := 8) (s' := 72) ea ez (tw 247 (by decide +kernel) rfl) C hW (by decide) (by decide +kernel) (Nat.le_of_ble_eq_true rfl) ⟨Nat.le_of_ble_eq_true rfl, Nat.le_of_ble_eq_true rfl⟩ rfl rfl dX0_init_63 (fun H hW => ?_)
  obtain ⟨z65, hg, h⟩ := ob h
  refine wz_putF (v := (.ref b63)) C hin hW flX0_33 rfl rfl hg dX0_init_65 (fun H locs hW => ?_)
  refine lv_aload_n hx hb dX0_init_68 rfl (lv_at hl 0 rfl) ?_
  refine lv_iconst (v := 4) hx hb dX0_init_69 (by decide) ?_
  obtain ⟨b70, z70, ea, ez, h⟩ := mk_ob h
  refine wz_newIK (N := 4) (c' := 9) (s' := 76) ea ez (tw 247 (by decide +kernel) rfl) C hW (by decide) (by decide +kernel) (Nat.le_of_ble_eq_true rfl) ⟨Nat.le_of_ble_eq_true rfl, Nat.le_of_ble_eq_true rfl⟩ rfl rfl dX0_init_70 (fun H hW => ?_)
  obtain ⟨z72, hg, h⟩ := ob h
  refine wz_putF (v := (.ref b70)) C hin hW flX0_36 rfl rfl hg dX0_init_72 (fun H locs hW => ?_)
  refine lv_aload_n hx hb dX0_init_75 rfl (lv_at hl 0 rfl) ?_
  refine lv_iconst (v := 4) hx hb dX0_init_76 (by decide) ?_
  obtain ⟨b77, z77, ea, ez, h⟩ := mk_ob h
  refine wz_newIK (N := 4) (c' := 10) (s' := 80) ea ez (tw 247 (by decide +kernel) rfl) C hW (by decide) (by decide +kernel) (Nat.le_of_ble_eq_true rfl) ⟨Nat.le_of_ble_eq_true rfl, Nat.le_of_ble_eq_true rfl⟩ rfl rfl dX0_init_77 (fun H hW => ?_)
  obtain ⟨z79, hg, h⟩ := ob h
  refine wz_putF (v := (.ref b77)) C hin hW flX0_39 rfl rfl hg dX0_init_79 (fun H locs hW => ?_)
  refine lv_aload_n hx hb dX0_init_82 rfl (lv_at hl 0 rfl) ?_
  refine lv_iconst (v := 4) hx hb dX0_init_83 (by decide) ?_
  obtain ⟨b84, z84, ea, ez, h⟩ := mk_ob h
  refine wz_newIK (N := 4) (c' := 11) (s' := 84) ea ez (tw 247 (by decide +kernel) rfl) C hW (by decide) (by decide +kernel) (Nat.le_of_ble_eq_true rfl) ⟨Nat.le_of_ble_eq_true rfl, Nat.le_of_ble_eq_true rfl⟩ rfl rfl dX0_init_84 (fun H hW => ?_)
  obtain ⟨z86, hg, h⟩ := ob h
  refine wz_putF (v := (.ref b84)) C hin hW flX0_42 rfl rfl hg dX0_init_86 (fun H locs hW => ?_)
  refine lv_aload_n hx hb dX0_init_89 rfl (lv_at hl 0 rfl) ?_
  refine lv_iconst (v := 4) hx hb dX0_init_90 (by decide) ?_
  obtain ⟨b91, z91, ea, ez, h⟩ := mk_ob h
  refine wz_newIK (N := 4) (c' := 12) (s' := 88) ea ez (tw 247 (by decide +kernel) rfl) C hW (by decide) (by decide +kernel) (Nat.le_of_ble_eq_true rfl) ⟨Nat.le_of_ble_eq_true rfl, Nat.le_of_ble_eq_true rfl⟩ rfl rfl dX0_init_91 (fun H hW => ?_)
  obtain ⟨z93, hg, h⟩ := ob h
  refine wz_putF (v := (.ref b91)) C hin hW flX0_45 rfl rfl hg dX0_init_93 (fun H locs hW => ?_)
  refine lv_aload_n hx hb dX0_init_96 rfl (lv_at hl 0 rfl) ?_
  refine lv_bipush (v := 16) hx hb dX0_init_97 (by decide) ?_
  obtain ⟨b99, z99, ea, ez, h⟩ := mk_ob h
  refine wz_newIK (N := 16) (c' := 13) (s' := 104) ea ez (tw 247 (by decide +kernel) rfl) C hW (by decide) (by decide +kernel) (Nat.le_of_ble_eq_true rfl) ⟨Nat.le_of_ble_eq_true rfl, Nat.le_of_ble_eq_true rfl⟩ rfl rfl dX0_init_99 (fun H hW => ?_)
  obtain ⟨z101, hg, h⟩ := ob h
  refine wz_putF (v := (.ref b99)) C hin hW flX0_48 rfl rfl hg dX0_init_101 (fun H locs hW => ?_)
  refine lv_aload_n hx hb dX0_init_104 rfl (lv_at hl 0 rfl) ?_
  refine lv_bipush (v := 16) hx hb dX0_init_105 (by decide) ?_
  obtain ⟨b107, z107, ea, ez, h⟩ := mk_ob h
  refine wz_newIK (N := 16) (c' := 14) (s' := 120) ea ez (tw 247 (by decide +kernel) rfl) C hW (by decide) (by decide +kernel) (Nat.le_of_ble_eq_true rfl) ⟨Nat.le_of_ble_eq_true rfl, Nat.le_of_ble_eq_true rfl⟩ rfl rfl dX0_init_107 (fun H hW => ?_)
  obtain ⟨z109, hg, h⟩ := ob h
  refine wz_putF (v := (.ref b107)) C hin hW flX0_51 rfl rfl hg dX0_init_109 (fun H locs hW => ?_)
  refine lv_aload_n hx hb dX0_init_112 rfl (lv_at hl 0 rfl) ?_
  refine lv_iconst (v := 3) hx hb dX0_init_113 (by decide) ?_
  obtain ⟨z114, hg, h⟩ := ob h
  refine wz_put (v := (.int (3 : Int32))) C hW flX0_54 rfl rfl hg dX0_init_114 (fun H locs hW => ?_)
  refine lv_iconst (v := 0) hx hb dX0_init_117 (by decide) ?_
  refine lv_istore_n (lv' := [(1, .int (0 : Int32)), (0, .ref (gB G + a0))]) hx hb dX0_init_118 rfl hl (by decide) rfl (fun ls hl => ?_)
  exact klX0_init_119 C hlk hr hin FU a0 (0 : Int32) z114 _ _ _ h hW (lv_sub hl [1, 0] rfl)
theorem flX0_58 : FL RX0 58 0 0 := ⟨_, rfl, Nat.le_of_ble_eq_true rfl, tw 152 (by decide +kernel) rfl, rfl⟩
theorem dX0_hasThing_0 : decode cX0_hasThing 0 = .ok (.iload_n 1, 1) := by decide +kernel
theorem dX0_hasThing_1 : decode cX0_hasThing 1 = .ok (.ifCond .lt 15, 3) := by decide +kernel
theorem dX0_hasThing_4 : decode cX0_hasThing 4 = .ok (.iload_n 1, 1) := by decide +kernel
theorem dX0_hasThing_5 : decode cX0_hasThing 5 = .ok (.aload_n 0, 1) := by decide +kernel
theorem dX0_hasThing_6 : decode cX0_hasThing 6 = .ok (.getfield 58, 3) := by decide +kernel
theorem dX0_hasThing_9 : decode cX0_hasThing 9 = .ok (.if_icmp .ge 7, 3) := by decide +kernel
theorem dX0_hasThing_12 : decode cX0_hasThing 12 = .ok (.iconst 1, 1) := by decide +kernel
theorem dX0_hasThing_13 : decode cX0_hasThing 13 = .ok (.goto 4, 3) := by decide +kernel
theorem dX0_hasThing_16 : decode cX0_hasThing 16 = .ok (.iconst 0, 1) := by decide +kernel
theorem dX0_hasThing_17 : decode cX0_hasThing 17 = .ok (.ireturn, 1) := by decide +kernel
abbrev rmX0_hasThing : Room := { frames := 0, cells := 0, slots := 0, locals := 0 }
def fX0_hasThing (a0 : Nat) (l1 : Int32) (z : AH) : Option (Int32) :=
  if isO 0 z a0 = true then
    if l1 < (0 : Int32) then (
      some (0 : Int32)
    ) else (
      (gI 0 0 z a0).bind fun x6 =>
      if x6 ≤ l1 then (
        some (0 : Int32)
      ) else (
        some (1 : Int32)
      )
    )
  else none
set_option maxHeartbeats 4000000 in
set_option maxRecDepth 100000 in
theorem ctX0_hasThing (l : Launch) (G : GW) (a0 : Nat) (l1 : Int32) (z : AH) {r : Int32} (h : fX0_hasThing a0 l1 z = some r) : Met l yX0_hasThing (wy yX0_hasThing cX0_hasThing 2 (some .boolean)) rmX0_hasThing (Pz G [.ref (gB G + a0), .int l1] z) (Qi G r z) 0 0 (AA G) := by
  refine wz_ent (own := RX0) (by decide +kernel) rfl (fun p e s m below meth c ls C hlk hr hin hW hl => ?_) (Nat.le_of_ble_eq_true rfl)
  have hl : lv_has ls 2 [(0, .ref (gB G + a0)), (1, .int l1)] := hl
  have hx := C.1
  have hb := C.2.1
  unfold fX0_hasThing at h
  obtain ⟨-, h⟩ := ck h
  refine lv_iload_n hx hb dX0_hasThing_0 rfl (lv_at hl 1 rfl) ?_
  refine lv_if_lt (tgt := 16) hx hb dX0_hasThing_1 (by decide) (fun c1 => ?_) (fun c1 => ?_)
  · have h := ite_t c1 h
    refine lv_iconst (v := 0) hx hb dX0_hasThing_16 (by decide) ?_
    exact wz_zretE C hlk hr (Or.inl rfl) (Option.some.inj h) rfl hW dX0_hasThing_17
  · have h := ite_f c1 h
    refine lv_iload_n hx hb dX0_hasThing_4 rfl (lv_at hl 1 rfl) ?_
    refine lv_aload_n hx hb dX0_hasThing_5 rfl (lv_at hl 0 rfl) ?_
    obtain ⟨x6, hg, h⟩ := ob h
    refine wz_gI C hW flX0_58 hg dX0_hasThing_6 ?_
    refine lv_icmp_ge (tgt := 16) hx hb dX0_hasThing_9 (by decide) (fun c9 => ?_) (fun c9 => ?_)
    · have h := ite_t c9 h
      refine lv_iconst (v := 0) hx hb dX0_hasThing_16 (by decide) ?_
      exact wz_zretE C hlk hr (Or.inl rfl) (Option.some.inj h) rfl hW dX0_hasThing_17
    · have h := ite_f c9 h
      refine lv_iconst (v := 1) hx hb dX0_hasThing_12 (by decide) ?_
      refine lv_goto (tgt := 17) hx hb dX0_hasThing_13 (by decide) ?_
      exact wz_zretE C hlk hr (Or.inr rfl) (Option.some.inj h) rfl hW dX0_hasThing_17
theorem dX0_addThing_0 : decode cX0_addThing 0 = .ok (.aload_n 0, 1) := by decide +kernel
theorem dX0_addThing_1 : decode cX0_addThing 1 = .ok (.getfield 58, 3) := by decide +kernel
theorem dX0_addThing_4 : decode cX0_addThing 4 = .ok (.bipush 8, 2) := by decide +kernel
theorem dX0_addThing_6 : decode cX0_addThing 6 = .ok (.if_icmp .ge 43, 3) := by decide +kernel
theorem dX0_addThing_9 : decode cX0_addThing 9 = .ok (.aload_n 0, 1) := by decide +kernel
theorem dX0_addThing_10 : decode cX0_addThing 10 = .ok (.getfield 11, 3) := by decide +kernel
theorem dX0_addThing_13 : decode cX0_addThing 13 = .ok (.aload_n 0, 1) := by decide +kernel
theorem dX0_addThing_14 : decode cX0_addThing 14 = .ok (.getfield 58, 3) := by decide +kernel
theorem dX0_addThing_17 : decode cX0_addThing 17 = .ok (.iload_n 1, 1) := by decide +kernel
theorem dX0_addThing_18 : decode cX0_addThing 18 = .ok (.iastore, 1) := by decide +kernel
theorem dX0_addThing_19 : decode cX0_addThing 19 = .ok (.aload_n 0, 1) := by decide +kernel
theorem dX0_addThing_20 : decode cX0_addThing 20 = .ok (.getfield 15, 3) := by decide +kernel
theorem dX0_addThing_23 : decode cX0_addThing 23 = .ok (.aload_n 0, 1) := by decide +kernel
theorem dX0_addThing_24 : decode cX0_addThing 24 = .ok (.getfield 58, 3) := by decide +kernel
theorem dX0_addThing_27 : decode cX0_addThing 27 = .ok (.iload_n 2, 1) := by decide +kernel
theorem dX0_addThing_28 : decode cX0_addThing 28 = .ok (.iastore, 1) := by decide +kernel
theorem dX0_addThing_29 : decode cX0_addThing 29 = .ok (.aload_n 0, 1) := by decide +kernel
theorem dX0_addThing_30 : decode cX0_addThing 30 = .ok (.getfield 18, 3) := by decide +kernel
theorem dX0_addThing_33 : decode cX0_addThing 33 = .ok (.aload_n 0, 1) := by decide +kernel
theorem dX0_addThing_34 : decode cX0_addThing 34 = .ok (.getfield 58, 3) := by decide +kernel
theorem dX0_addThing_37 : decode cX0_addThing 37 = .ok (.iload_n 3, 1) := by decide +kernel
theorem dX0_addThing_38 : decode cX0_addThing 38 = .ok (.iastore, 1) := by decide +kernel
theorem dX0_addThing_39 : decode cX0_addThing 39 = .ok (.aload_n 0, 1) := by decide +kernel
theorem dX0_addThing_40 : decode cX0_addThing 40 = .ok (.dup, 1) := by decide +kernel
theorem dX0_addThing_41 : decode cX0_addThing 41 = .ok (.getfield 58, 3) := by decide +kernel
theorem dX0_addThing_44 : decode cX0_addThing 44 = .ok (.iconst 1, 1) := by decide +kernel
theorem dX0_addThing_45 : decode cX0_addThing 45 = .ok (.iadd, 1) := by decide +kernel
theorem dX0_addThing_46 : decode cX0_addThing 46 = .ok (.putfield 58, 3) := by decide +kernel
theorem dX0_addThing_49 : decode cX0_addThing 49 = .ok (.return_, 1) := by decide +kernel
abbrev rmX0_addThing : Room := { frames := 0, cells := 0, slots := 0, locals := 0 }
def fX0_addThing (a0 : Nat) (l1 : Int32) (l2 : Int32) (l3 : Int32) (z : AH) : Option AH :=
  if isO 0 z a0 = true then
    (gI 0 0 z a0).bind fun x1 =>
    if (8 : Int32) ≤ x1 then (
      some z
    ) else (
      (gN 0 1 z a0).bind fun b10 =>
      (gI 0 0 z a0).bind fun x14 =>
      (stI 0 z b10 x14 l1).bind fun z18 =>
      (gN 0 2 z18 a0).bind fun b20 =>
      (gI 0 0 z18 a0).bind fun x24 =>
      (stI 0 z18 b20 x24 l2).bind fun z28 =>
      (gN 0 3 z28 a0).bind fun b30 =>
      (gI 0 0 z28 a0).bind fun x34 =>
      (stI 0 z28 b30 x34 l3).bind fun z38 =>
      (gI 0 0 z38 a0).bind fun x41 =>
      (pF 0 0 z38 a0 (.int (x41 + (1 : Int32)))).bind fun z46 =>
      some z46
    )
  else none
set_option maxHeartbeats 4000000 in
set_option maxRecDepth 100000 in
theorem ctX0_addThing (l : Launch) (G : GW) (a0 : Nat) (l1 : Int32) (l2 : Int32) (l3 : Int32) (z : AH) {z' : AH} (h : fX0_addThing a0 l1 l2 l3 z = some z') : Met l yX0_addThing (wy yX0_addThing cX0_addThing 4 none) rmX0_addThing (Pz G [.ref (gB G + a0), .int l1, .int l2, .int l3] z) (Qv G z') 0 0 (AA G) := by
  refine wz_ent (own := RX0) (by decide +kernel) rfl (fun p e s m below meth c ls C hlk hr hin hW hl => ?_) (Nat.le_of_ble_eq_true rfl)
  have hl : lv_has ls 4 [(0, .ref (gB G + a0)), (1, .int l1), (2, .int l2), (3, .int l3)] := hl
  have hx := C.1
  have hb := C.2.1
  unfold fX0_addThing at h
  obtain ⟨-, h⟩ := ck h
  refine lv_aload_n hx hb dX0_addThing_0 rfl (lv_at hl 0 rfl) ?_
  obtain ⟨x1, hg, h⟩ := ob h
  refine wz_gI C hW flX0_58 hg dX0_addThing_1 ?_
  refine lv_bipush (v := 8) hx hb dX0_addThing_4 (by decide) ?_
  refine lv_icmp_ge (tgt := 49) hx hb dX0_addThing_6 (by decide) (fun c6 => ?_) (fun c6 => ?_)
  · have h := ite_t c6 h
    exact wz_vretE C hlk hr (Option.some.inj h) hW dX0_addThing_49
  · have h := ite_f c6 h
    refine lv_aload_n hx hb dX0_addThing_9 rfl (lv_at hl 0 rfl) ?_
    obtain ⟨b10, hg, h⟩ := ob h
    refine wz_gN C hW flX0_11 hg dX0_addThing_10 ?_
    refine lv_aload_n hx hb dX0_addThing_13 rfl (lv_at hl 0 rfl) ?_
    obtain ⟨x14, hg, h⟩ := ob h
    refine wz_gI C hW flX0_58 hg dX0_addThing_14 ?_
    refine lv_iload_n hx hb dX0_addThing_17 rfl (lv_at hl 1 rfl) ?_
    obtain ⟨z18, hg, h⟩ := ob h
    refine wz_ast C hW hg dX0_addThing_18 (fun H locs hW => ?_)
    refine lv_aload_n hx hb dX0_addThing_19 rfl (lv_at hl 0 rfl) ?_
    obtain ⟨b20, hg, h⟩ := ob h
    refine wz_gN C hW flX0_15 hg dX0_addThing_20 ?_
    refine lv_aload_n hx hb dX0_addThing_23 rfl (lv_at hl 0 rfl) ?_
    obtain ⟨x24, hg, h⟩ := ob h
    refine wz_gI C hW flX0_58 hg dX0_addThing_24 ?_
    refine lv_iload_n hx hb dX0_addThing_27 rfl (lv_at hl 2 rfl) ?_
    obtain ⟨z28, hg, h⟩ := ob h
    refine wz_ast C hW hg dX0_addThing_28 (fun H locs hW => ?_)
    refine lv_aload_n hx hb dX0_addThing_29 rfl (lv_at hl 0 rfl) ?_
    obtain ⟨b30, hg, h⟩ := ob h
    refine wz_gN C hW flX0_18 hg dX0_addThing_30 ?_
    refine lv_aload_n hx hb dX0_addThing_33 rfl (lv_at hl 0 rfl) ?_
    obtain ⟨x34, hg, h⟩ := ob h
    refine wz_gI C hW flX0_58 hg dX0_addThing_34 ?_
    refine lv_iload_n hx hb dX0_addThing_37 rfl (lv_at hl 3 rfl) ?_
    obtain ⟨z38, hg, h⟩ := ob h
    refine wz_ast C hW hg dX0_addThing_38 (fun H locs hW => ?_)
    refine lv_aload_n hx hb dX0_addThing_39 rfl (lv_at hl 0 rfl) ?_
    refine lv_dup hx hb dX0_addThing_40 rfl ?_
    obtain ⟨x41, hg, h⟩ := ob h
    refine wz_gI C hW flX0_58 hg dX0_addThing_41 ?_
    refine lv_iconst (v := 1) hx hb dX0_addThing_44 (by decide) ?_
    refine lv_iadd hx hb dX0_addThing_45 ?_
    obtain ⟨z46, hg, h⟩ := ob h
    refine wz_put (v := (.int (x41 + (1 : Int32)))) C hW flX0_58 rfl rfl hg dX0_addThing_46 (fun H locs hW => ?_)
    exact wz_vretE C hlk hr (Option.some.inj h) hW dX0_addThing_49
theorem dX0_restOn_0 : decode cX0_restOn 0 = .ok (.iload_n 1, 1) := by decide +kernel
theorem dX0_restOn_1 : decode cX0_restOn 1 = .ok (.ifCond .lt 16, 3) := by decide +kernel
theorem dX0_restOn_4 : decode cX0_restOn 4 = .ok (.iload_n 1, 1) := by decide +kernel
theorem dX0_restOn_5 : decode cX0_restOn 5 = .ok (.bipush 8, 2) := by decide +kernel
theorem dX0_restOn_7 : decode cX0_restOn 7 = .ok (.if_icmp .ge 10, 3) := by decide +kernel
theorem dX0_restOn_10 : decode cX0_restOn 10 = .ok (.aload_n 0, 1) := by decide +kernel
theorem dX0_restOn_11 : decode cX0_restOn 11 = .ok (.getfield 21, 3) := by decide +kernel
theorem dX0_restOn_14 : decode cX0_restOn 14 = .ok (.iload_n 1, 1) := by decide +kernel
theorem dX0_restOn_15 : decode cX0_restOn 15 = .ok (.iload_n 2, 1) := by decide +kernel
theorem dX0_restOn_16 : decode cX0_restOn 16 = .ok (.iastore, 1) := by decide +kernel
theorem dX0_restOn_17 : decode cX0_restOn 17 = .ok (.return_, 1) := by decide +kernel
abbrev rmX0_restOn : Room := { frames := 0, cells := 0, slots := 0, locals := 0 }
def fX0_restOn (a0 : Nat) (l1 : Int32) (l2 : Int32) (z : AH) : Option AH :=
  if isO 0 z a0 = true then
    if l1 < (0 : Int32) then (
      some z
    ) else (
      if (8 : Int32) ≤ l1 then (
        some z
      ) else (
        (gN 0 4 z a0).bind fun b11 =>
        (stI 0 z b11 l1 l2).bind fun z16 =>
        some z16
      )
    )
  else none
set_option maxHeartbeats 4000000 in
set_option maxRecDepth 100000 in
theorem ctX0_restOn (l : Launch) (G : GW) (a0 : Nat) (l1 : Int32) (l2 : Int32) (z : AH) {z' : AH} (h : fX0_restOn a0 l1 l2 z = some z') : Met l yX0_restOn (wy yX0_restOn cX0_restOn 3 none) rmX0_restOn (Pz G [.ref (gB G + a0), .int l1, .int l2] z) (Qv G z') 0 0 (AA G) := by
  refine wz_ent (own := RX0) (by decide +kernel) rfl (fun p e s m below meth c ls C hlk hr hin hW hl => ?_) (Nat.le_of_ble_eq_true rfl)
  have hl : lv_has ls 3 [(0, .ref (gB G + a0)), (1, .int l1), (2, .int l2)] := hl
  have hx := C.1
  have hb := C.2.1
  unfold fX0_restOn at h
  obtain ⟨-, h⟩ := ck h
  refine lv_iload_n hx hb dX0_restOn_0 rfl (lv_at hl 1 rfl) ?_
  refine lv_if_lt (tgt := 17) hx hb dX0_restOn_1 (by decide) (fun c1 => ?_) (fun c1 => ?_)
  · have h := ite_t c1 h
    exact wz_vretE C hlk hr (Option.some.inj h) hW dX0_restOn_17
  · have h := ite_f c1 h
    refine lv_iload_n hx hb dX0_restOn_4 rfl (lv_at hl 1 rfl) ?_
    refine lv_bipush (v := 8) hx hb dX0_restOn_5 (by decide) ?_
    refine lv_icmp_ge (tgt := 17) hx hb dX0_restOn_7 (by decide) (fun c7 => ?_) (fun c7 => ?_)
    · have h := ite_t c7 h
      exact wz_vretE C hlk hr (Option.some.inj h) hW dX0_restOn_17
    · have h := ite_f c7 h
      refine lv_aload_n hx hb dX0_restOn_10 rfl (lv_at hl 0 rfl) ?_
      obtain ⟨b11, hg, h⟩ := ob h
      refine wz_gN C hW flX0_21 hg dX0_restOn_11 ?_
      refine lv_iload_n hx hb dX0_restOn_14 rfl (lv_at hl 1 rfl) ?_
      refine lv_iload_n hx hb dX0_restOn_15 rfl (lv_at hl 2 rfl) ?_
      obtain ⟨z16, hg, h⟩ := ob h
      refine wz_ast C hW hg dX0_restOn_16 (fun H locs hW => ?_)
      exact wz_vretE C hlk hr (Option.some.inj h) hW dX0_restOn_17
theorem dX0_isPlace_0 : decode cX0_isPlace 0 = .ok (.iload_n 0, 1) := by decide +kernel
theorem dX0_isPlace_1 : decode cX0_isPlace 1 = .ok (.ifCond .lt 13, 3) := by decide +kernel
theorem dX0_isPlace_4 : decode cX0_isPlace 4 = .ok (.iload_n 0, 1) := by decide +kernel
theorem dX0_isPlace_5 : decode cX0_isPlace 5 = .ok (.bipush 8, 2) := by decide +kernel
theorem dX0_isPlace_7 : decode cX0_isPlace 7 = .ok (.if_icmp .ge 7, 3) := by decide +kernel
theorem dX0_isPlace_10 : decode cX0_isPlace 10 = .ok (.iconst 1, 1) := by decide +kernel
theorem dX0_isPlace_11 : decode cX0_isPlace 11 = .ok (.goto 4, 3) := by decide +kernel
theorem dX0_isPlace_14 : decode cX0_isPlace 14 = .ok (.iconst 0, 1) := by decide +kernel
theorem dX0_isPlace_15 : decode cX0_isPlace 15 = .ok (.ireturn, 1) := by decide +kernel
abbrev rmX0_isPlace : Room := { frames := 0, cells := 0, slots := 0, locals := 0 }
def fX0_isPlace (l0 : Int32) : Int32 :=
  if l0 < (0 : Int32) then (
    (0 : Int32)
  ) else (
    if (8 : Int32) ≤ l0 then (
      (0 : Int32)
    ) else (
      (1 : Int32)
    )
  )
set_option maxHeartbeats 4000000 in
set_option maxRecDepth 100000 in
theorem ctX0_isPlace (l : Launch) (G : GW) (l0 : Int32) (z : AH) {r : Int32} (h : fX0_isPlace l0 = r) : Met l yX0_isPlace (wy yX0_isPlace cX0_isPlace 1 (some .boolean)) rmX0_isPlace (Pz G [.int l0] z) (Qi G r z) 0 0 (AA G) := by
  refine wz_ent (own := RX0) (by decide +kernel) rfl (fun p e s m below meth c ls C hlk hr hin hW hl => ?_) (Nat.le_of_ble_eq_true rfl)
  have hl : lv_has ls 1 [(0, .int l0)] := hl
  have hx := C.1
  have hb := C.2.1
  unfold fX0_isPlace at h
  refine lv_iload_n hx hb dX0_isPlace_0 rfl (lv_at hl 0 rfl) ?_
  refine lv_if_lt (tgt := 14) hx hb dX0_isPlace_1 (by decide) (fun c1 => ?_) (fun c1 => ?_)
  · have h := ite_t c1 h
    refine lv_iconst (v := 0) hx hb dX0_isPlace_14 (by decide) ?_
    exact wz_zretE C hlk hr (Or.inl rfl) h rfl hW dX0_isPlace_15
  · have h := ite_f c1 h
    refine lv_iload_n hx hb dX0_isPlace_4 rfl (lv_at hl 0 rfl) ?_
    refine lv_bipush (v := 8) hx hb dX0_isPlace_5 (by decide) ?_
    refine lv_icmp_ge (tgt := 14) hx hb dX0_isPlace_7 (by decide) (fun c7 => ?_) (fun c7 => ?_)
    · have h := ite_t c7 h
      refine lv_iconst (v := 0) hx hb dX0_isPlace_14 (by decide) ?_
      exact wz_zretE C hlk hr (Or.inl rfl) h rfl hW dX0_isPlace_15
    · have h := ite_f c7 h
      refine lv_iconst (v := 1) hx hb dX0_isPlace_10 (by decide) ?_
      refine lv_goto (tgt := 15) hx hb dX0_isPlace_11 (by decide) ?_
      exact wz_zretE C hlk hr (Or.inr rfl) h rfl hW dX0_isPlace_15
theorem flX0_61 : FL RX0 61 0 7 := ⟨_, rfl, Nat.le_of_ble_eq_true rfl, tw 169 (by decide +kernel) rfl, rfl⟩
theorem lTX0_64 : LT RX0 64 yX0_isPlace cX0_isPlace 1 (some .boolean) 1 := ⟨tw 672 (by decide +kernel) rfl, tw 673 (by decide +kernel) rfl, tw 121 (by decide +kernel) rfl, tw 674 (by decide +kernel) rfl, ⟨by decide +kernel, by decide +kernel, by decide +kernel⟩⟩
theorem dX0_addPath_0 : decode cX0_addPath 0 = .ok (.aload_n 0, 1) := by decide +kernel
theorem dX0_addPath_1 : decode cX0_addPath 1 = .ok (.getfield 61, 3) := by decide +kernel
theorem dX0_addPath_4 : decode cX0_addPath 4 = .ok (.bipush 12, 2) := by decide +kernel
theorem dX0_addPath_6 : decode cX0_addPath 6 = .ok (.if_icmp .ge 71, 3) := by decide +kernel
theorem dX0_addPath_9 : decode cX0_addPath 9 = .ok (.iload_n 1, 1) := by decide +kernel
theorem dX0_addPath_10 : decode cX0_addPath 10 = .ok (.invokestatic 64, 3) := by decide +kernel
theorem dX0_addPath_13 : decode cX0_addPath 13 = .ok (.ifCond .eq 64, 3) := by decide +kernel
theorem dX0_addPath_16 : decode cX0_addPath 16 = .ok (.iload_n 2, 1) := by decide +kernel
theorem dX0_addPath_17 : decode cX0_addPath 17 = .ok (.invokestatic 64, 3) := by decide +kernel
theorem dX0_addPath_20 : decode cX0_addPath 20 = .ok (.ifCond .eq 57, 3) := by decide +kernel
theorem dX0_addPath_23 : decode cX0_addPath 23 = .ok (.aload_n 0, 1) := by decide +kernel
theorem dX0_addPath_24 : decode cX0_addPath 24 = .ok (.getfield 30, 3) := by decide +kernel
theorem dX0_addPath_27 : decode cX0_addPath 27 = .ok (.aload_n 0, 1) := by decide +kernel
theorem dX0_addPath_28 : decode cX0_addPath 28 = .ok (.getfield 61, 3) := by decide +kernel
theorem dX0_addPath_31 : decode cX0_addPath 31 = .ok (.iload_n 1, 1) := by decide +kernel
theorem dX0_addPath_32 : decode cX0_addPath 32 = .ok (.iastore, 1) := by decide +kernel
theorem dX0_addPath_33 : decode cX0_addPath 33 = .ok (.aload_n 0, 1) := by decide +kernel
theorem dX0_addPath_34 : decode cX0_addPath 34 = .ok (.getfield 33, 3) := by decide +kernel
theorem dX0_addPath_37 : decode cX0_addPath 37 = .ok (.aload_n 0, 1) := by decide +kernel
theorem dX0_addPath_38 : decode cX0_addPath 38 = .ok (.getfield 61, 3) := by decide +kernel
theorem dX0_addPath_41 : decode cX0_addPath 41 = .ok (.iload_n 2, 1) := by decide +kernel
theorem dX0_addPath_42 : decode cX0_addPath 42 = .ok (.iastore, 1) := by decide +kernel
theorem dX0_addPath_43 : decode cX0_addPath 43 = .ok (.aload_n 0, 1) := by decide +kernel
theorem dX0_addPath_44 : decode cX0_addPath 44 = .ok (.dup, 1) := by decide +kernel
theorem dX0_addPath_45 : decode cX0_addPath 45 = .ok (.getfield 61, 3) := by decide +kernel
theorem dX0_addPath_48 : decode cX0_addPath 48 = .ok (.iconst 1, 1) := by decide +kernel
theorem dX0_addPath_49 : decode cX0_addPath 49 = .ok (.iadd, 1) := by decide +kernel
theorem dX0_addPath_50 : decode cX0_addPath 50 = .ok (.putfield 61, 3) := by decide +kernel
theorem dX0_addPath_53 : decode cX0_addPath 53 = .ok (.aload_n 0, 1) := by decide +kernel
theorem dX0_addPath_54 : decode cX0_addPath 54 = .ok (.getfield 27, 3) := by decide +kernel
theorem dX0_addPath_57 : decode cX0_addPath 57 = .ok (.iload_n 1, 1) := by decide +kernel
theorem dX0_addPath_58 : decode cX0_addPath 58 = .ok (.dup2, 1) := by decide +kernel
theorem dX0_addPath_59 : decode cX0_addPath 59 = .ok (.iaload, 1) := by decide +kernel
theorem dX0_addPath_60 : decode cX0_addPath 60 = .ok (.iconst 1, 1) := by decide +kernel
theorem dX0_addPath_61 : decode cX0_addPath 61 = .ok (.iload_n 2, 1) := by decide +kernel
theorem dX0_addPath_62 : decode cX0_addPath 62 = .ok (.ishl, 1) := by decide +kernel
theorem dX0_addPath_63 : decode cX0_addPath 63 = .ok (.ior, 1) := by decide +kernel
theorem dX0_addPath_64 : decode cX0_addPath 64 = .ok (.iastore, 1) := by decide +kernel
theorem dX0_addPath_65 : decode cX0_addPath 65 = .ok (.aload_n 0, 1) := by decide +kernel
theorem dX0_addPath_66 : decode cX0_addPath 66 = .ok (.getfield 27, 3) := by decide +kernel
theorem dX0_addPath_69 : decode cX0_addPath 69 = .ok (.iload_n 2, 1) := by decide +kernel
theorem dX0_addPath_70 : decode cX0_addPath 70 = .ok (.dup2, 1) := by decide +kernel
theorem dX0_addPath_71 : decode cX0_addPath 71 = .ok (.iaload, 1) := by decide +kernel
theorem dX0_addPath_72 : decode cX0_addPath 72 = .ok (.iconst 1, 1) := by decide +kernel
theorem dX0_addPath_73 : decode cX0_addPath 73 = .ok (.iload_n 1, 1) := by decide +kernel
theorem dX0_addPath_74 : decode cX0_addPath 74 = .ok (.ishl, 1) := by decide +kernel
theorem dX0_addPath_75 : decode cX0_addPath 75 = .ok (.ior, 1) := by decide +kernel
theorem dX0_addPath_76 : decode cX0_addPath 76 = .ok (.iastore, 1) := by decide +kernel
theorem dX0_addPath_77 : decode cX0_addPath 77 = .ok (.return_, 1) := by decide +kernel
abbrev rmX0_addPath : Room := { frames := 1, cells := 0, slots := 0, locals := 20 }
def fX0_addPath (a0 : Nat) (l1 : Int32) (l2 : Int32) (z : AH) : Option AH :=
  if isO 0 z a0 = true then
    (gI 0 7 z a0).bind fun x1 =>
    if (12 : Int32) ≤ x1 then (
      some z
    ) else (
      if (fX0_isPlace l1) = (0 : Int32) then (
        some z
      ) else (
        if (fX0_isPlace l2) = (0 : Int32) then (
          some z
        ) else (
          (gN 0 8 z a0).bind fun b24 =>
          (gI 0 7 z a0).bind fun x28 =>
          (stI 0 z b24 x28 l1).bind fun z32 =>
          (gN 0 9 z32 a0).bind fun b34 =>
          (gI 0 7 z32 a0).bind fun x38 =>
          (stI 0 z32 b34 x38 l2).bind fun z42 =>
          (gI 0 7 z42 a0).bind fun x45 =>
          (pF 0 7 z42 a0 (.int (x45 + (1 : Int32)))).bind fun z50 =>
          (gN 0 6 z50 a0).bind fun b54 =>
          (ixI 0 z50 b54 l1).bind fun x59 =>
          (stI 0 z50 b54 l1 (x59 ||| (shl (1 : Int32) l2))).bind fun z64 =>
          (gN 0 6 z64 a0).bind fun b66 =>
          (ixI 0 z64 b66 l2).bind fun x71 =>
          (stI 0 z64 b66 l2 (x71 ||| (shl (1 : Int32) l1))).bind fun z76 =>
          some z76
        )
      )
    )
  else none
set_option maxHeartbeats 4000000 in
set_option maxRecDepth 100000 in
theorem ctX0_addPath (l : Launch) (G : GW) (a0 : Nat) (l1 : Int32) (l2 : Int32) (z : AH) {z' : AH} (h : fX0_addPath a0 l1 l2 z = some z') : Met l yX0_addPath (wy yX0_addPath cX0_addPath 3 none) rmX0_addPath (Pz G [.ref (gB G + a0), .int l1, .int l2] z) (Qv G z') 0 0 (AA G) := by
  refine wz_ent (own := RX0) (by decide +kernel) rfl (fun p e s m below meth c ls C hlk hr hin hW hl => ?_) (Nat.le_of_ble_eq_true rfl)
  have hl : lv_has ls 3 [(0, .ref (gB G + a0)), (1, .int l1), (2, .int l2)] := hl
  have hx := C.1
  have hb := C.2.1
  unfold fX0_addPath at h
  obtain ⟨-, h⟩ := ck h
  refine lv_aload_n hx hb dX0_addPath_0 rfl (lv_at hl 0 rfl) ?_
  obtain ⟨x1, hg, h⟩ := ob h
  refine wz_gI C hW flX0_61 hg dX0_addPath_1 ?_
  refine lv_bipush (v := 12) hx hb dX0_addPath_4 (by decide) ?_
  refine lv_icmp_ge (tgt := 77) hx hb dX0_addPath_6 (by decide) (fun c6 => ?_) (fun c6 => ?_)
  · have h := ite_t c6 h
    exact wz_vretE C hlk hr (Option.some.inj h) hW dX0_addPath_77
  · have h := ite_f c6 h
    refine lv_iload_n hx hb dX0_addPath_9 rfl (lv_at hl 1 rfl) ?_
    refine wz_rI (c' := 0) (s' := 0) hW (wz_runS (rest := []) C hW lTX0_64 (ctX0_isPlace l G l1 z rfl) ⟨⟨rfl, rfl⟩, Nat.le_of_ble_eq_true rfl, Nat.le_of_ble_eq_true rfl⟩ rfl hl.1 rfl (Nat.le_of_ble_eq_true rfl) dX0_addPath_10 ⟨Nat.le_of_ble_eq_true rfl, Nat.le_of_ble_eq_true rfl⟩) rfl rfl (fun H locs hW => ?_)
    refine lv_if_eq (tgt := 77) hx hb dX0_addPath_13 (by decide) (fun c13 => ?_) (fun c13 => ?_)
    · have h := ite_t c13 h
      exact wz_vretE C hlk hr (Option.some.inj h) hW dX0_addPath_77
    · have h := ite_f c13 h
      refine lv_iload_n hx hb dX0_addPath_16 rfl (lv_at hl 2 rfl) ?_
      refine wz_rI (c' := 0) (s' := 0) hW (wz_runS (rest := []) C hW lTX0_64 (ctX0_isPlace l G l2 z rfl) ⟨⟨rfl, rfl⟩, Nat.le_of_ble_eq_true rfl, Nat.le_of_ble_eq_true rfl⟩ rfl hl.1 rfl (Nat.le_of_ble_eq_true rfl) dX0_addPath_17 ⟨Nat.le_of_ble_eq_true rfl, Nat.le_of_ble_eq_true rfl⟩) rfl rfl (fun H locs hW => ?_)
      refine lv_if_eq (tgt := 77) hx hb dX0_addPath_20 (by decide) (fun c20 => ?_) (fun c20 => ?_)
      · have h := ite_t c20 h
        exact wz_vretE C hlk hr (Option.some.inj h) hW dX0_addPath_77
      · have h := ite_f c20 h
        refine lv_aload_n hx hb dX0_addPath_23 rfl (lv_at hl 0 rfl) ?_
        obtain ⟨b24, hg, h⟩ := ob h
        refine wz_gN C hW flX0_30 hg dX0_addPath_24 ?_
        refine lv_aload_n hx hb dX0_addPath_27 rfl (lv_at hl 0 rfl) ?_
        obtain ⟨x28, hg, h⟩ := ob h
        refine wz_gI C hW flX0_61 hg dX0_addPath_28 ?_
        refine lv_iload_n hx hb dX0_addPath_31 rfl (lv_at hl 1 rfl) ?_
        obtain ⟨z32, hg, h⟩ := ob h
        refine wz_ast C hW hg dX0_addPath_32 (fun H locs hW => ?_)
        refine lv_aload_n hx hb dX0_addPath_33 rfl (lv_at hl 0 rfl) ?_
        obtain ⟨b34, hg, h⟩ := ob h
        refine wz_gN C hW flX0_33 hg dX0_addPath_34 ?_
        refine lv_aload_n hx hb dX0_addPath_37 rfl (lv_at hl 0 rfl) ?_
        obtain ⟨x38, hg, h⟩ := ob h
        refine wz_gI C hW flX0_61 hg dX0_addPath_38 ?_
        refine lv_iload_n hx hb dX0_addPath_41 rfl (lv_at hl 2 rfl) ?_
        obtain ⟨z42, hg, h⟩ := ob h
        refine wz_ast C hW hg dX0_addPath_42 (fun H locs hW => ?_)
        refine lv_aload_n hx hb dX0_addPath_43 rfl (lv_at hl 0 rfl) ?_
        refine lv_dup hx hb dX0_addPath_44 rfl ?_
        obtain ⟨x45, hg, h⟩ := ob h
        refine wz_gI C hW flX0_61 hg dX0_addPath_45 ?_
        refine lv_iconst (v := 1) hx hb dX0_addPath_48 (by decide) ?_
        refine lv_iadd hx hb dX0_addPath_49 ?_
        obtain ⟨z50, hg, h⟩ := ob h
        refine wz_put (v := (.int (x45 + (1 : Int32)))) C hW flX0_61 rfl rfl hg dX0_addPath_50 (fun H locs hW => ?_)
        refine lv_aload_n hx hb dX0_addPath_53 rfl (lv_at hl 0 rfl) ?_
        obtain ⟨b54, hg, h⟩ := ob h
        refine wz_gN C hW flX0_27 hg dX0_addPath_54 ?_
        refine lv_iload_n hx hb dX0_addPath_57 rfl (lv_at hl 1 rfl) ?_
        refine lv_dup2_11 hx hb dX0_addPath_58 rfl rfl ?_
        obtain ⟨x59, hg, h⟩ := ob h
        refine wz_ald C hW hg dX0_addPath_59 ?_
        refine lv_iconst (v := 1) hx hb dX0_addPath_60 (by decide) ?_
        refine lv_iload_n hx hb dX0_addPath_61 rfl (lv_at hl 2 rfl) ?_
        refine wz_shl hx hb dX0_addPath_62 ?_
        refine lv_ior hx hb dX0_addPath_63 ?_
        obtain ⟨z64, hg, h⟩ := ob h
        refine wz_ast C hW hg dX0_addPath_64 (fun H locs hW => ?_)
        refine lv_aload_n hx hb dX0_addPath_65 rfl (lv_at hl 0 rfl) ?_
        obtain ⟨b66, hg, h⟩ := ob h
        refine wz_gN C hW flX0_27 hg dX0_addPath_66 ?_
        refine lv_iload_n hx hb dX0_addPath_69 rfl (lv_at hl 2 rfl) ?_
        refine lv_dup2_11 hx hb dX0_addPath_70 rfl rfl ?_
        obtain ⟨x71, hg, h⟩ := ob h
        refine wz_ald C hW hg dX0_addPath_71 ?_
        refine lv_iconst (v := 1) hx hb dX0_addPath_72 (by decide) ?_
        refine lv_iload_n hx hb dX0_addPath_73 rfl (lv_at hl 1 rfl) ?_
        refine wz_shl hx hb dX0_addPath_74 ?_
        refine lv_ior hx hb dX0_addPath_75 ?_
        obtain ⟨z76, hg, h⟩ := ob h
        refine wz_ast C hW hg dX0_addPath_76 (fun H locs hW => ?_)
        exact wz_vretE C hlk hr (Option.some.inj h) hW dX0_addPath_77
theorem flX0_68 : FL RX0 68 0 10 := ⟨_, rfl, Nat.le_of_ble_eq_true rfl, tw 176 (by decide +kernel) rfl, rfl⟩
theorem dX0_addLeft_0 : decode cX0_addLeft 0 = .ok (.aload_n 0, 1) := by decide +kernel
theorem dX0_addLeft_1 : decode cX0_addLeft 1 = .ok (.getfield 68, 3) := by decide +kernel
theorem dX0_addLeft_4 : decode cX0_addLeft 4 = .ok (.iconst 4, 1) := by decide +kernel
theorem dX0_addLeft_5 : decode cX0_addLeft 5 = .ok (.if_icmp .ge 23, 3) := by decide +kernel
theorem dX0_addLeft_8 : decode cX0_addLeft 8 = .ok (.aload_n 0, 1) := by decide +kernel
theorem dX0_addLeft_9 : decode cX0_addLeft 9 = .ok (.getfield 36, 3) := by decide +kernel
theorem dX0_addLeft_12 : decode cX0_addLeft 12 = .ok (.aload_n 0, 1) := by decide +kernel
theorem dX0_addLeft_13 : decode cX0_addLeft 13 = .ok (.getfield 68, 3) := by decide +kernel
theorem dX0_addLeft_16 : decode cX0_addLeft 16 = .ok (.iload_n 1, 1) := by decide +kernel
theorem dX0_addLeft_17 : decode cX0_addLeft 17 = .ok (.iastore, 1) := by decide +kernel
theorem dX0_addLeft_18 : decode cX0_addLeft 18 = .ok (.aload_n 0, 1) := by decide +kernel
theorem dX0_addLeft_19 : decode cX0_addLeft 19 = .ok (.dup, 1) := by decide +kernel
theorem dX0_addLeft_20 : decode cX0_addLeft 20 = .ok (.getfield 68, 3) := by decide +kernel
theorem dX0_addLeft_23 : decode cX0_addLeft 23 = .ok (.iconst 1, 1) := by decide +kernel
theorem dX0_addLeft_24 : decode cX0_addLeft 24 = .ok (.iadd, 1) := by decide +kernel
theorem dX0_addLeft_25 : decode cX0_addLeft 25 = .ok (.putfield 68, 3) := by decide +kernel
theorem dX0_addLeft_28 : decode cX0_addLeft 28 = .ok (.return_, 1) := by decide +kernel
abbrev rmX0_addLeft : Room := { frames := 0, cells := 0, slots := 0, locals := 0 }
def fX0_addLeft (a0 : Nat) (l1 : Int32) (z : AH) : Option AH :=
  if isO 0 z a0 = true then
    (gI 0 10 z a0).bind fun x1 =>
    if (4 : Int32) ≤ x1 then (
      some z
    ) else (
      (gN 0 12 z a0).bind fun b9 =>
      (gI 0 10 z a0).bind fun x13 =>
      (stI 0 z b9 x13 l1).bind fun z17 =>
      (gI 0 10 z17 a0).bind fun x20 =>
      (pF 0 10 z17 a0 (.int (x20 + (1 : Int32)))).bind fun z25 =>
      some z25
    )
  else none
set_option maxHeartbeats 4000000 in
set_option maxRecDepth 100000 in
theorem ctX0_addLeft (l : Launch) (G : GW) (a0 : Nat) (l1 : Int32) (z : AH) {z' : AH} (h : fX0_addLeft a0 l1 z = some z') : Met l yX0_addLeft (wy yX0_addLeft cX0_addLeft 2 none) rmX0_addLeft (Pz G [.ref (gB G + a0), .int l1] z) (Qv G z') 0 0 (AA G) := by
  refine wz_ent (own := RX0) (by decide +kernel) rfl (fun p e s m below meth c ls C hlk hr hin hW hl => ?_) (Nat.le_of_ble_eq_true rfl)
  have hl : lv_has ls 2 [(0, .ref (gB G + a0)), (1, .int l1)] := hl
  have hx := C.1
  have hb := C.2.1
  unfold fX0_addLeft at h
  obtain ⟨-, h⟩ := ck h
  refine lv_aload_n hx hb dX0_addLeft_0 rfl (lv_at hl 0 rfl) ?_
  obtain ⟨x1, hg, h⟩ := ob h
  refine wz_gI C hW flX0_68 hg dX0_addLeft_1 ?_
  refine lv_iconst (v := 4) hx hb dX0_addLeft_4 (by decide) ?_
  refine lv_icmp_ge (tgt := 28) hx hb dX0_addLeft_5 (by decide) (fun c5 => ?_) (fun c5 => ?_)
  · have h := ite_t c5 h
    exact wz_vretE C hlk hr (Option.some.inj h) hW dX0_addLeft_28
  · have h := ite_f c5 h
    refine lv_aload_n hx hb dX0_addLeft_8 rfl (lv_at hl 0 rfl) ?_
    obtain ⟨b9, hg, h⟩ := ob h
    refine wz_gN C hW flX0_36 hg dX0_addLeft_9 ?_
    refine lv_aload_n hx hb dX0_addLeft_12 rfl (lv_at hl 0 rfl) ?_
    obtain ⟨x13, hg, h⟩ := ob h
    refine wz_gI C hW flX0_68 hg dX0_addLeft_13 ?_
    refine lv_iload_n hx hb dX0_addLeft_16 rfl (lv_at hl 1 rfl) ?_
    obtain ⟨z17, hg, h⟩ := ob h
    refine wz_ast C hW hg dX0_addLeft_17 (fun H locs hW => ?_)
    refine lv_aload_n hx hb dX0_addLeft_18 rfl (lv_at hl 0 rfl) ?_
    refine lv_dup hx hb dX0_addLeft_19 rfl ?_
    obtain ⟨x20, hg, h⟩ := ob h
    refine wz_gI C hW flX0_68 hg dX0_addLeft_20 ?_
    refine lv_iconst (v := 1) hx hb dX0_addLeft_23 (by decide) ?_
    refine lv_iadd hx hb dX0_addLeft_24 ?_
    obtain ⟨z25, hg, h⟩ := ob h
    refine wz_put (v := (.int (x20 + (1 : Int32)))) C hW flX0_68 rfl rfl hg dX0_addLeft_25 (fun H locs hW => ?_)
    exact wz_vretE C hlk hr (Option.some.inj h) hW dX0_addLeft_28
theorem flX0_71 : FL RX0 71 0 11 := ⟨_, rfl, Nat.le_of_ble_eq_true rfl, tw 180 (by decide +kernel) rfl, rfl⟩
theorem dX0_addRight_0 : decode cX0_addRight 0 = .ok (.aload_n 0, 1) := by decide +kernel
theorem dX0_addRight_1 : decode cX0_addRight 1 = .ok (.getfield 71, 3) := by decide +kernel
theorem dX0_addRight_4 : decode cX0_addRight 4 = .ok (.iconst 4, 1) := by decide +kernel
theorem dX0_addRight_5 : decode cX0_addRight 5 = .ok (.if_icmp .ge 23, 3) := by decide +kernel
theorem dX0_addRight_8 : decode cX0_addRight 8 = .ok (.aload_n 0, 1) := by decide +kernel
theorem dX0_addRight_9 : decode cX0_addRight 9 = .ok (.getfield 39, 3) := by decide +kernel
theorem dX0_addRight_12 : decode cX0_addRight 12 = .ok (.aload_n 0, 1) := by decide +kernel
theorem dX0_addRight_13 : decode cX0_addRight 13 = .ok (.getfield 71, 3) := by decide +kernel
theorem dX0_addRight_16 : decode cX0_addRight 16 = .ok (.iload_n 1, 1) := by decide +kernel
theorem dX0_addRight_17 : decode cX0_addRight 17 = .ok (.iastore, 1) := by decide +kernel
theorem dX0_addRight_18 : decode cX0_addRight 18 = .ok (.aload_n 0, 1) := by decide +kernel
theorem dX0_addRight_19 : decode cX0_addRight 19 = .ok (.dup, 1) := by decide +kernel
theorem dX0_addRight_20 : decode cX0_addRight 20 = .ok (.getfield 71, 3) := by decide +kernel
theorem dX0_addRight_23 : decode cX0_addRight 23 = .ok (.iconst 1, 1) := by decide +kernel
theorem dX0_addRight_24 : decode cX0_addRight 24 = .ok (.iadd, 1) := by decide +kernel
theorem dX0_addRight_25 : decode cX0_addRight 25 = .ok (.putfield 71, 3) := by decide +kernel
theorem dX0_addRight_28 : decode cX0_addRight 28 = .ok (.return_, 1) := by decide +kernel
abbrev rmX0_addRight : Room := { frames := 0, cells := 0, slots := 0, locals := 0 }
def fX0_addRight (a0 : Nat) (l1 : Int32) (z : AH) : Option AH :=
  if isO 0 z a0 = true then
    (gI 0 11 z a0).bind fun x1 =>
    if (4 : Int32) ≤ x1 then (
      some z
    ) else (
      (gN 0 13 z a0).bind fun b9 =>
      (gI 0 11 z a0).bind fun x13 =>
      (stI 0 z b9 x13 l1).bind fun z17 =>
      (gI 0 11 z17 a0).bind fun x20 =>
      (pF 0 11 z17 a0 (.int (x20 + (1 : Int32)))).bind fun z25 =>
      some z25
    )
  else none
set_option maxHeartbeats 4000000 in
set_option maxRecDepth 100000 in
theorem ctX0_addRight (l : Launch) (G : GW) (a0 : Nat) (l1 : Int32) (z : AH) {z' : AH} (h : fX0_addRight a0 l1 z = some z') : Met l yX0_addRight (wy yX0_addRight cX0_addRight 2 none) rmX0_addRight (Pz G [.ref (gB G + a0), .int l1] z) (Qv G z') 0 0 (AA G) := by
  refine wz_ent (own := RX0) (by decide +kernel) rfl (fun p e s m below meth c ls C hlk hr hin hW hl => ?_) (Nat.le_of_ble_eq_true rfl)
  have hl : lv_has ls 2 [(0, .ref (gB G + a0)), (1, .int l1)] := hl
  have hx := C.1
  have hb := C.2.1
  unfold fX0_addRight at h
  obtain ⟨-, h⟩ := ck h
  refine lv_aload_n hx hb dX0_addRight_0 rfl (lv_at hl 0 rfl) ?_
  obtain ⟨x1, hg, h⟩ := ob h
  refine wz_gI C hW flX0_71 hg dX0_addRight_1 ?_
  refine lv_iconst (v := 4) hx hb dX0_addRight_4 (by decide) ?_
  refine lv_icmp_ge (tgt := 28) hx hb dX0_addRight_5 (by decide) (fun c5 => ?_) (fun c5 => ?_)
  · have h := ite_t c5 h
    exact wz_vretE C hlk hr (Option.some.inj h) hW dX0_addRight_28
  · have h := ite_f c5 h
    refine lv_aload_n hx hb dX0_addRight_8 rfl (lv_at hl 0 rfl) ?_
    obtain ⟨b9, hg, h⟩ := ob h
    refine wz_gN C hW flX0_39 hg dX0_addRight_9 ?_
    refine lv_aload_n hx hb dX0_addRight_12 rfl (lv_at hl 0 rfl) ?_
    obtain ⟨x13, hg, h⟩ := ob h
    refine wz_gI C hW flX0_71 hg dX0_addRight_13 ?_
    refine lv_iload_n hx hb dX0_addRight_16 rfl (lv_at hl 1 rfl) ?_
    obtain ⟨z17, hg, h⟩ := ob h
    refine wz_ast C hW hg dX0_addRight_17 (fun H locs hW => ?_)
    refine lv_aload_n hx hb dX0_addRight_18 rfl (lv_at hl 0 rfl) ?_
    refine lv_dup hx hb dX0_addRight_19 rfl ?_
    obtain ⟨x20, hg, h⟩ := ob h
    refine wz_gI C hW flX0_71 hg dX0_addRight_20 ?_
    refine lv_iconst (v := 1) hx hb dX0_addRight_23 (by decide) ?_
    refine lv_iadd hx hb dX0_addRight_24 ?_
    obtain ⟨z25, hg, h⟩ := ob h
    refine wz_put (v := (.int (x20 + (1 : Int32)))) C hW flX0_71 rfl rfl hg dX0_addRight_25 (fun H locs hW => ?_)
    exact wz_vretE C hlk hr (Option.some.inj h) hW dX0_addRight_28
theorem flX0_74 : FL RX0 74 0 14 := ⟨_, rfl, Nat.le_of_ble_eq_true rfl, tw 188 (by decide +kernel) rfl, rfl⟩
theorem dX0_addCouple_0 : decode cX0_addCouple 0 = .ok (.aload_n 0, 1) := by decide +kernel
theorem dX0_addCouple_1 : decode cX0_addCouple 1 = .ok (.getfield 74, 3) := by decide +kernel
theorem dX0_addCouple_4 : decode cX0_addCouple 4 = .ok (.iconst 4, 1) := by decide +kernel
theorem dX0_addCouple_5 : decode cX0_addCouple 5 = .ok (.if_icmp .ge 33, 3) := by decide +kernel
theorem dX0_addCouple_8 : decode cX0_addCouple 8 = .ok (.aload_n 0, 1) := by decide +kernel
theorem dX0_addCouple_9 : decode cX0_addCouple 9 = .ok (.getfield 42, 3) := by decide +kernel
theorem dX0_addCouple_12 : decode cX0_addCouple 12 = .ok (.aload_n 0, 1) := by decide +kernel
theorem dX0_addCouple_13 : decode cX0_addCouple 13 = .ok (.getfield 74, 3) := by decide +kernel
theorem dX0_addCouple_16 : decode cX0_addCouple 16 = .ok (.iload_n 1, 1) := by decide +kernel
theorem dX0_addCouple_17 : decode cX0_addCouple 17 = .ok (.iastore, 1) := by decide +kernel
theorem dX0_addCouple_18 : decode cX0_addCouple 18 = .ok (.aload_n 0, 1) := by decide +kernel
theorem dX0_addCouple_19 : decode cX0_addCouple 19 = .ok (.getfield 45, 3) := by decide +kernel
theorem dX0_addCouple_22 : decode cX0_addCouple 22 = .ok (.aload_n 0, 1) := by decide +kernel
theorem dX0_addCouple_23 : decode cX0_addCouple 23 = .ok (.getfield 74, 3) := by decide +kernel
theorem dX0_addCouple_26 : decode cX0_addCouple 26 = .ok (.iload_n 2, 1) := by decide +kernel
theorem dX0_addCouple_27 : decode cX0_addCouple 27 = .ok (.iastore, 1) := by decide +kernel
theorem dX0_addCouple_28 : decode cX0_addCouple 28 = .ok (.aload_n 0, 1) := by decide +kernel
theorem dX0_addCouple_29 : decode cX0_addCouple 29 = .ok (.dup, 1) := by decide +kernel
theorem dX0_addCouple_30 : decode cX0_addCouple 30 = .ok (.getfield 74, 3) := by decide +kernel
theorem dX0_addCouple_33 : decode cX0_addCouple 33 = .ok (.iconst 1, 1) := by decide +kernel
theorem dX0_addCouple_34 : decode cX0_addCouple 34 = .ok (.iadd, 1) := by decide +kernel
theorem dX0_addCouple_35 : decode cX0_addCouple 35 = .ok (.putfield 74, 3) := by decide +kernel
theorem dX0_addCouple_38 : decode cX0_addCouple 38 = .ok (.return_, 1) := by decide +kernel
abbrev rmX0_addCouple : Room := { frames := 0, cells := 0, slots := 0, locals := 0 }
def fX0_addCouple (a0 : Nat) (l1 : Int32) (l2 : Int32) (z : AH) : Option AH :=
  if isO 0 z a0 = true then
    (gI 0 14 z a0).bind fun x1 =>
    if (4 : Int32) ≤ x1 then (
      some z
    ) else (
      (gN 0 15 z a0).bind fun b9 =>
      (gI 0 14 z a0).bind fun x13 =>
      (stI 0 z b9 x13 l1).bind fun z17 =>
      (gN 0 16 z17 a0).bind fun b19 =>
      (gI 0 14 z17 a0).bind fun x23 =>
      (stI 0 z17 b19 x23 l2).bind fun z27 =>
      (gI 0 14 z27 a0).bind fun x30 =>
      (pF 0 14 z27 a0 (.int (x30 + (1 : Int32)))).bind fun z35 =>
      some z35
    )
  else none
set_option maxHeartbeats 4000000 in
set_option maxRecDepth 100000 in
theorem ctX0_addCouple (l : Launch) (G : GW) (a0 : Nat) (l1 : Int32) (l2 : Int32) (z : AH) {z' : AH} (h : fX0_addCouple a0 l1 l2 z = some z') : Met l yX0_addCouple (wy yX0_addCouple cX0_addCouple 3 none) rmX0_addCouple (Pz G [.ref (gB G + a0), .int l1, .int l2] z) (Qv G z') 0 0 (AA G) := by
  refine wz_ent (own := RX0) (by decide +kernel) rfl (fun p e s m below meth c ls C hlk hr hin hW hl => ?_) (Nat.le_of_ble_eq_true rfl)
  have hl : lv_has ls 3 [(0, .ref (gB G + a0)), (1, .int l1), (2, .int l2)] := hl
  have hx := C.1
  have hb := C.2.1
  unfold fX0_addCouple at h
  obtain ⟨-, h⟩ := ck h
  refine lv_aload_n hx hb dX0_addCouple_0 rfl (lv_at hl 0 rfl) ?_
  obtain ⟨x1, hg, h⟩ := ob h
  refine wz_gI C hW flX0_74 hg dX0_addCouple_1 ?_
  refine lv_iconst (v := 4) hx hb dX0_addCouple_4 (by decide) ?_
  refine lv_icmp_ge (tgt := 38) hx hb dX0_addCouple_5 (by decide) (fun c5 => ?_) (fun c5 => ?_)
  · have h := ite_t c5 h
    exact wz_vretE C hlk hr (Option.some.inj h) hW dX0_addCouple_38
  · have h := ite_f c5 h
    refine lv_aload_n hx hb dX0_addCouple_8 rfl (lv_at hl 0 rfl) ?_
    obtain ⟨b9, hg, h⟩ := ob h
    refine wz_gN C hW flX0_42 hg dX0_addCouple_9 ?_
    refine lv_aload_n hx hb dX0_addCouple_12 rfl (lv_at hl 0 rfl) ?_
    obtain ⟨x13, hg, h⟩ := ob h
    refine wz_gI C hW flX0_74 hg dX0_addCouple_13 ?_
    refine lv_iload_n hx hb dX0_addCouple_16 rfl (lv_at hl 1 rfl) ?_
    obtain ⟨z17, hg, h⟩ := ob h
    refine wz_ast C hW hg dX0_addCouple_17 (fun H locs hW => ?_)
    refine lv_aload_n hx hb dX0_addCouple_18 rfl (lv_at hl 0 rfl) ?_
    obtain ⟨b19, hg, h⟩ := ob h
    refine wz_gN C hW flX0_45 hg dX0_addCouple_19 ?_
    refine lv_aload_n hx hb dX0_addCouple_22 rfl (lv_at hl 0 rfl) ?_
    obtain ⟨x23, hg, h⟩ := ob h
    refine wz_gI C hW flX0_74 hg dX0_addCouple_23 ?_
    refine lv_iload_n hx hb dX0_addCouple_26 rfl (lv_at hl 2 rfl) ?_
    obtain ⟨z27, hg, h⟩ := ob h
    refine wz_ast C hW hg dX0_addCouple_27 (fun H locs hW => ?_)
    refine lv_aload_n hx hb dX0_addCouple_28 rfl (lv_at hl 0 rfl) ?_
    refine lv_dup hx hb dX0_addCouple_29 rfl ?_
    obtain ⟨x30, hg, h⟩ := ob h
    refine wz_gI C hW flX0_74 hg dX0_addCouple_30 ?_
    refine lv_iconst (v := 1) hx hb dX0_addCouple_33 (by decide) ?_
    refine lv_iadd hx hb dX0_addCouple_34 ?_
    obtain ⟨z35, hg, h⟩ := ob h
    refine wz_put (v := (.int (x30 + (1 : Int32)))) C hW flX0_74 rfl rfl hg dX0_addCouple_35 (fun H locs hW => ?_)
    exact wz_vretE C hlk hr (Option.some.inj h) hW dX0_addCouple_38
theorem dX0_like_0 : decode cX0_like 0 = .ok (.iload_n 1, 1) := by decide +kernel
theorem dX0_like_1 : decode cX0_like 1 = .ok (.ifCond .lt 25, 3) := by decide +kernel
theorem dX0_like_4 : decode cX0_like 4 = .ok (.iload_n 1, 1) := by decide +kernel
theorem dX0_like_5 : decode cX0_like 5 = .ok (.iconst 4, 1) := by decide +kernel
theorem dX0_like_6 : decode cX0_like 6 = .ok (.if_icmp .ge 20, 3) := by decide +kernel
theorem dX0_like_9 : decode cX0_like 9 = .ok (.iload_n 2, 1) := by decide +kernel
theorem dX0_like_10 : decode cX0_like 10 = .ok (.ifCond .lt 16, 3) := by decide +kernel
theorem dX0_like_13 : decode cX0_like 13 = .ok (.iload_n 2, 1) := by decide +kernel
theorem dX0_like_14 : decode cX0_like 14 = .ok (.iconst 4, 1) := by decide +kernel
theorem dX0_like_15 : decode cX0_like 15 = .ok (.if_icmp .ge 11, 3) := by decide +kernel
theorem dX0_like_18 : decode cX0_like 18 = .ok (.aload_n 0, 1) := by decide +kernel
theorem dX0_like_19 : decode cX0_like 19 = .ok (.iconst 4, 1) := by decide +kernel
theorem dX0_like_20 : decode cX0_like 20 = .ok (.iload_n 1, 1) := by decide +kernel
theorem dX0_like_21 : decode cX0_like 21 = .ok (.imul, 1) := by decide +kernel
theorem dX0_like_22 : decode cX0_like 22 = .ok (.iload_n 2, 1) := by decide +kernel
theorem dX0_like_23 : decode cX0_like 23 = .ok (.iadd, 1) := by decide +kernel
theorem dX0_like_24 : decode cX0_like 24 = .ok (.iload_n 3, 1) := by decide +kernel
theorem dX0_like_25 : decode cX0_like 25 = .ok (.iastore, 1) := by decide +kernel
theorem dX0_like_26 : decode cX0_like 26 = .ok (.return_, 1) := by decide +kernel
abbrev rmX0_like : Room := { frames := 0, cells := 0, slots := 0, locals := 0 }
def fX0_like (a0 : Nat) (l1 : Int32) (l2 : Int32) (l3 : Int32) (z : AH) : Option AH :=
  if l1 < (0 : Int32) then (
    some z
  ) else (
    if (4 : Int32) ≤ l1 then (
      some z
    ) else (
      if l2 < (0 : Int32) then (
        some z
      ) else (
        if (4 : Int32) ≤ l2 then (
          some z
        ) else (
          (stI 0 z a0 (((4 : Int32) * l1) + l2) l3).bind fun z25 =>
          some z25
        )
      )
    )
  )
set_option maxHeartbeats 4000000 in
set_option maxRecDepth 100000 in
theorem ctX0_like (l : Launch) (G : GW) (a0 : Nat) (l1 : Int32) (l2 : Int32) (l3 : Int32) (z : AH) {z' : AH} (h : fX0_like a0 l1 l2 l3 z = some z') : Met l yX0_like (wy yX0_like cX0_like 4 none) rmX0_like (Pz G [.ref (gB G + a0), .int l1, .int l2, .int l3] z) (Qv G z') 0 0 (AA G) := by
  refine wz_ent (own := RX0) (by decide +kernel) rfl (fun p e s m below meth c ls C hlk hr hin hW hl => ?_) (Nat.le_of_ble_eq_true rfl)
  have hl : lv_has ls 4 [(0, .ref (gB G + a0)), (1, .int l1), (2, .int l2), (3, .int l3)] := hl
  have hx := C.1
  have hb := C.2.1
  unfold fX0_like at h
  refine lv_iload_n hx hb dX0_like_0 rfl (lv_at hl 1 rfl) ?_
  refine lv_if_lt (tgt := 26) hx hb dX0_like_1 (by decide) (fun c1 => ?_) (fun c1 => ?_)
  · have h := ite_t c1 h
    exact wz_vretE C hlk hr (Option.some.inj h) hW dX0_like_26
  · have h := ite_f c1 h
    refine lv_iload_n hx hb dX0_like_4 rfl (lv_at hl 1 rfl) ?_
    refine lv_iconst (v := 4) hx hb dX0_like_5 (by decide) ?_
    refine lv_icmp_ge (tgt := 26) hx hb dX0_like_6 (by decide) (fun c6 => ?_) (fun c6 => ?_)
    · have h := ite_t c6 h
      exact wz_vretE C hlk hr (Option.some.inj h) hW dX0_like_26
    · have h := ite_f c6 h
      refine lv_iload_n hx hb dX0_like_9 rfl (lv_at hl 2 rfl) ?_
      refine lv_if_lt (tgt := 26) hx hb dX0_like_10 (by decide) (fun c10 => ?_) (fun c10 => ?_)
      · have h := ite_t c10 h
        exact wz_vretE C hlk hr (Option.some.inj h) hW dX0_like_26
      · have h := ite_f c10 h
        refine lv_iload_n hx hb dX0_like_13 rfl (lv_at hl 2 rfl) ?_
        refine lv_iconst (v := 4) hx hb dX0_like_14 (by decide) ?_
        refine lv_icmp_ge (tgt := 26) hx hb dX0_like_15 (by decide) (fun c15 => ?_) (fun c15 => ?_)
        · have h := ite_t c15 h
          exact wz_vretE C hlk hr (Option.some.inj h) hW dX0_like_26
        · have h := ite_f c15 h
          refine lv_aload_n hx hb dX0_like_18 rfl (lv_at hl 0 rfl) ?_
          refine lv_iconst (v := 4) hx hb dX0_like_19 (by decide) ?_
          refine lv_iload_n hx hb dX0_like_20 rfl (lv_at hl 1 rfl) ?_
          refine lv_imul hx hb dX0_like_21 ?_
          refine lv_iload_n hx hb dX0_like_22 rfl (lv_at hl 2 rfl) ?_
          refine lv_iadd hx hb dX0_like_23 ?_
          refine lv_iload_n hx hb dX0_like_24 rfl (lv_at hl 3 rfl) ?_
          obtain ⟨z25, hg, h⟩ := ob h
          refine wz_ast C hW hg dX0_like_25 (fun H locs hW => ?_)
          exact wz_vretE C hlk hr (Option.some.inj h) hW dX0_like_26
theorem lVX0_77 : LV RX0 77 yX0_hasThing cX0_hasThing 2 (some .boolean) 1 := ⟨tw 700 (by decide +kernel) rfl, tw 701 (by decide +kernel) rfl, tw 702 (by decide +kernel) rfl, tw 121 (by decide +kernel) rfl, tw 703 (by decide +kernel) rfl, ⟨by decide +kernel, by decide +kernel, by decide +kernel⟩⟩
theorem dX0_hasRing_0 : decode cX0_hasRing 0 = .ok (.iconst 0, 1) := by decide +kernel
theorem dX0_hasRing_1 : decode cX0_hasRing 1 = .ok (.istore_n 1, 1) := by decide +kernel
theorem dX0_hasRing_2 : decode cX0_hasRing 2 = .ok (.iload_n 1, 1) := by decide +kernel
theorem dX0_hasRing_3 : decode cX0_hasRing 3 = .ok (.aload_n 0, 1) := by decide +kernel
theorem dX0_hasRing_4 : decode cX0_hasRing 4 = .ok (.getfield 58, 3) := by decide +kernel
theorem dX0_hasRing_7 : decode cX0_hasRing 7 = .ok (.if_icmp .ge 50, 3) := by decide +kernel
theorem dX0_hasRing_10 : decode cX0_hasRing 10 = .ok (.iload_n 1, 1) := by decide +kernel
theorem dX0_hasRing_11 : decode cX0_hasRing 11 = .ok (.istore_n 2, 1) := by decide +kernel
theorem dX0_hasRing_12 : decode cX0_hasRing 12 = .ok (.iconst 0, 1) := by decide +kernel
theorem dX0_hasRing_13 : decode cX0_hasRing 13 = .ok (.istore_n 3, 1) := by decide +kernel
theorem dX0_hasRing_14 : decode cX0_hasRing 14 = .ok (.iload_n 3, 1) := by decide +kernel
theorem dX0_hasRing_15 : decode cX0_hasRing 15 = .ok (.bipush 8, 2) := by decide +kernel
theorem dX0_hasRing_17 : decode cX0_hasRing 17 = .ok (.if_icmp .ge 24, 3) := by decide +kernel
theorem dX0_hasRing_20 : decode cX0_hasRing 20 = .ok (.aload_n 0, 1) := by decide +kernel
theorem dX0_hasRing_21 : decode cX0_hasRing 21 = .ok (.iload_n 2, 1) := by decide +kernel
theorem dX0_hasRing_22 : decode cX0_hasRing 22 = .ok (.invokevirtual 77, 3) := by decide +kernel
theorem dX0_hasRing_25 : decode cX0_hasRing 25 = .ok (.ifCond .eq 16, 3) := by decide +kernel
theorem dX0_hasRing_28 : decode cX0_hasRing 28 = .ok (.aload_n 0, 1) := by decide +kernel
theorem dX0_hasRing_29 : decode cX0_hasRing 29 = .ok (.getfield 21, 3) := by decide +kernel
theorem dX0_hasRing_32 : decode cX0_hasRing 32 = .ok (.iload_n 2, 1) := by decide +kernel
theorem dX0_hasRing_33 : decode cX0_hasRing 33 = .ok (.iaload, 1) := by decide +kernel
theorem dX0_hasRing_34 : decode cX0_hasRing 34 = .ok (.istore_n 2, 1) := by decide +kernel
theorem dX0_hasRing_35 : decode cX0_hasRing 35 = .ok (.iinc 3 1, 3) := by decide +kernel
theorem dX0_hasRing_38 : decode cX0_hasRing 38 = .ok (.goto (-24), 3) := by decide +kernel
theorem dX0_hasRing_41 : decode cX0_hasRing 41 = .ok (.aload_n 0, 1) := by decide +kernel
theorem dX0_hasRing_42 : decode cX0_hasRing 42 = .ok (.iload_n 2, 1) := by decide +kernel
theorem dX0_hasRing_43 : decode cX0_hasRing 43 = .ok (.invokevirtual 77, 3) := by decide +kernel
theorem dX0_hasRing_46 : decode cX0_hasRing 46 = .ok (.ifCond .eq 5, 3) := by decide +kernel
theorem dX0_hasRing_49 : decode cX0_hasRing 49 = .ok (.iconst 1, 1) := by decide +kernel
theorem dX0_hasRing_50 : decode cX0_hasRing 50 = .ok (.ireturn, 1) := by decide +kernel
theorem dX0_hasRing_51 : decode cX0_hasRing 51 = .ok (.iinc 1 1, 3) := by decide +kernel
theorem dX0_hasRing_54 : decode cX0_hasRing 54 = .ok (.goto (-52), 3) := by decide +kernel
theorem dX0_hasRing_57 : decode cX0_hasRing 57 = .ok (.iconst 0, 1) := by decide +kernel
theorem dX0_hasRing_58 : decode cX0_hasRing 58 = .ok (.ireturn, 1) := by decide +kernel
abbrev rmX0_hasRing : Room := { frames := 1, cells := 0, slots := 0, locals := 21 }
def bX0_hasRing_41 (k2 : Nat → Int32 → Option (Int32)) (a0 : Nat) (l1 : Int32) (l2 : Int32) (z : AH) : Option (Int32) :=
  (fX0_hasThing a0 l2 z).bind fun x43 =>
  if x43 = (0 : Int32) then (
    nm (l1 + (1 : Int32)) fun v51 =>
    k2 a0 v51
  ) else (
    some (1 : Int32)
  )
set_option maxHeartbeats 4000000 in
set_option maxRecDepth 100000 in
theorem kbX0_hasRing_41 {p : Program} {l : Launch} {e : Env} {s : State} {m : MethodId} {args : Array Value} {below : List Frame} {meth : Method} {c : Code} {G : GW} {r : Int32} (C : Cx p m c cX0_hasRing 4 s args RX0 G) (hlk : meth.locks = false) (hr : meth.sig.returnType = (some .boolean)) {z : AH} (k2 : Nat → Int32 → Option (Int32)) (hk2 : ∀ (a0 : Nat) (l1 : Int32) (H : Heap) (locs : List Loc) (ls : Array Slot), k2 a0 l1 = some r → Wb G z s H locs → lv_has ls 4 [(0, .ref (gB G + a0)), (1, .int l1)] → W p l e rmX0_hasRing s m args below meth c H locs 0 0 (MQ below (Qi G r z) args s 0 0 (AA G)) (F0 m 2 ls [])) (a0 : Nat) (l1 : Int32) (l2 : Int32) {H : Heap} {locs : List Loc} {ls : Array Slot} (h : bX0_hasRing_41 k2 a0 l1 l2 z = some r) (hW : Wb G z s H locs) (hl : lv_has ls 4 [(0, .ref (gB G + a0)), (1, .int l1), (2, .int l2)]) : W p l e rmX0_hasRing s m args below meth c H locs 0 0 (MQ below (Qi G r z) args s 0 0 (AA G)) (F0 m 41 ls []) := by
  have hx := C.1
  have hb := C.2.1
  unfold bX0_hasRing_41 at h
  refine lv_aload_n hx hb dX0_hasRing_41 rfl (lv_at hl 0 rfl) ?_
  refine lv_iload_n hx hb dX0_hasRing_42 rfl (lv_at hl 2 rfl) ?_
  obtain ⟨x43, hq, h⟩ := ob h
  refine wz_rI (c' := 0) (s' := 0) hW (wz_runV (rest := []) C hW lVX0_77 (ck hq).1 rfl (ctX0_hasThing l G a0 l2 z hq) ⟨⟨rfl, rfl⟩, Nat.le_of_ble_eq_true rfl, Nat.le_of_ble_eq_true rfl⟩ rfl hl.1 rfl (Nat.le_of_ble_eq_true rfl) dX0_hasRing_43 ⟨Nat.le_of_ble_eq_true rfl, Nat.le_of_ble_eq_true rfl⟩) rfl rfl (fun H locs hW => ?_)
  refine lv_if_eq (tgt := 51) hx hb dX0_hasRing_46 (by decide) (fun c46 => ?_) (fun c46 => ?_)
  · have h := ite_t c46 h
    obtain ⟨v51, ev51⟩ : ∃ y : Int32, y = (l1 + (1 : Int32)) := ⟨_, rfl⟩
    have h := nm_to h ev51
    refine lv_iinc (v := v51) (lv' := [(1, .int v51), (0, .ref (gB G + a0)), (2, .int l2)]) hx hb dX0_hasRing_51 hl (k := 1) rfl (by rw [ev51]; rfl) (by decide) rfl (fun ls hl => ?_)
    refine lv_goto (tgt := 2) hx hb dX0_hasRing_54 (by decide) ?_
    exact hk2 a0 v51 _ _ _ h hW (lv_sub hl [1, 0] rfl)
  · have h := ite_f c46 h
    refine lv_iconst (v := 1) hx hb dX0_hasRing_49 (by decide) ?_
    exact wz_zretE C hlk hr (Or.inr rfl) (Option.some.inj h) rfl hW dX0_hasRing_50
def bX0_hasRing_14 (k2 : Nat → Int32 → Option (Int32)) (k14 : Nat → Int32 → Int32 → Int32 → Option (Int32)) (a0 : Nat) (l1 : Int32) (l2 : Int32) (l3 : Int32) (z : AH) : Option (Int32) :=
  if (8 : Int32) ≤ l3 then (
    bX0_hasRing_41 k2 a0 l1 l2 z
  ) else (
    (fX0_hasThing a0 l2 z).bind fun x22 =>
    if x22 = (0 : Int32) then (
      bX0_hasRing_41 k2 a0 l1 l2 z
    ) else (
      (gN 0 4 z a0).bind fun b29 =>
      (ixI 0 z b29 l2).bind fun x33 =>
      nm (l3 + (1 : Int32)) fun v35 =>
      k14 a0 l1 x33 v35
    )
  )
set_option maxHeartbeats 4000000 in
set_option maxRecDepth 100000 in
theorem kbX0_hasRing_14 {p : Program} {l : Launch} {e : Env} {s : State} {m : MethodId} {args : Array Value} {below : List Frame} {meth : Method} {c : Code} {G : GW} {r : Int32} (C : Cx p m c cX0_hasRing 4 s args RX0 G) (hlk : meth.locks = false) (hr : meth.sig.returnType = (some .boolean)) {z : AH} (k2 : Nat → Int32 → Option (Int32)) (k14 : Nat → Int32 → Int32 → Int32 → Option (Int32)) (hk2 : ∀ (a0 : Nat) (l1 : Int32) (H : Heap) (locs : List Loc) (ls : Array Slot), k2 a0 l1 = some r → Wb G z s H locs → lv_has ls 4 [(0, .ref (gB G + a0)), (1, .int l1)] → W p l e rmX0_hasRing s m args below meth c H locs 0 0 (MQ below (Qi G r z) args s 0 0 (AA G)) (F0 m 2 ls [])) (hk14 : ∀ (a0 : Nat) (l1 : Int32) (l2 : Int32) (l3 : Int32) (H : Heap) (locs : List Loc) (ls : Array Slot), k14 a0 l1 l2 l3 = some r → Wb G z s H locs → lv_has ls 4 [(0, .ref (gB G + a0)), (1, .int l1), (2, .int l2), (3, .int l3)] → W p l e rmX0_hasRing s m args below meth c H locs 0 0 (MQ below (Qi G r z) args s 0 0 (AA G)) (F0 m 14 ls [])) (a0 : Nat) (l1 : Int32) (l2 : Int32) (l3 : Int32) {H : Heap} {locs : List Loc} {ls : Array Slot} (h : bX0_hasRing_14 k2 k14 a0 l1 l2 l3 z = some r) (hW : Wb G z s H locs) (hl : lv_has ls 4 [(0, .ref (gB G + a0)), (1, .int l1), (2, .int l2), (3, .int l3)]) : W p l e rmX0_hasRing s m args below meth c H locs 0 0 (MQ below (Qi G r z) args s 0 0 (AA G)) (F0 m 14 ls []) := by
  have hx := C.1
  have hb := C.2.1
  unfold bX0_hasRing_14 at h
  refine lv_iload_n hx hb dX0_hasRing_14 rfl (lv_at hl 3 rfl) ?_
  refine lv_bipush (v := 8) hx hb dX0_hasRing_15 (by decide) ?_
  refine lv_icmp_ge (tgt := 41) hx hb dX0_hasRing_17 (by decide) (fun c17 => ?_) (fun c17 => ?_)
  · have h := ite_t c17 h
    exact kbX0_hasRing_41 C hlk hr k2 hk2 a0 l1 l2 h hW (lv_sub hl [0, 1, 2] rfl)
  · have h := ite_f c17 h
    refine lv_aload_n hx hb dX0_hasRing_20 rfl (lv_at hl 0 rfl) ?_
    refine lv_iload_n hx hb dX0_hasRing_21 rfl (lv_at hl 2 rfl) ?_
    obtain ⟨x22, hq, h⟩ := ob h
    refine wz_rI (c' := 0) (s' := 0) hW (wz_runV (rest := []) C hW lVX0_77 (ck hq).1 rfl (ctX0_hasThing l G a0 l2 z hq) ⟨⟨rfl, rfl⟩, Nat.le_of_ble_eq_true rfl, Nat.le_of_ble_eq_true rfl⟩ rfl hl.1 rfl (Nat.le_of_ble_eq_true rfl) dX0_hasRing_22 ⟨Nat.le_of_ble_eq_true rfl, Nat.le_of_ble_eq_true rfl⟩) rfl rfl (fun H locs hW => ?_)
    refine lv_if_eq (tgt := 41) hx hb dX0_hasRing_25 (by decide) (fun c25 => ?_) (fun c25 => ?_)
    · have h := ite_t c25 h
      exact kbX0_hasRing_41 C hlk hr k2 hk2 a0 l1 l2 h hW (lv_sub hl [0, 1, 2] rfl)
    · have h := ite_f c25 h
      refine lv_aload_n hx hb dX0_hasRing_28 rfl (lv_at hl 0 rfl) ?_
      obtain ⟨b29, hg, h⟩ := ob h
      refine wz_gN C hW flX0_21 hg dX0_hasRing_29 ?_
      refine lv_iload_n hx hb dX0_hasRing_32 rfl (lv_at hl 2 rfl) ?_
      obtain ⟨x33, hg, h⟩ := ob h
      refine wz_ald C hW hg dX0_hasRing_33 ?_
      refine lv_istore_n (lv' := [(2, .int x33), (0, .ref (gB G + a0)), (1, .int l1), (3, .int l3)]) hx hb dX0_hasRing_34 rfl hl (by decide) rfl (fun ls hl => ?_)
      obtain ⟨v35, ev35⟩ : ∃ y : Int32, y = (l3 + (1 : Int32)) := ⟨_, rfl⟩
      have h := nm_to h ev35
      refine lv_iinc (v := v35) (lv' := [(3, .int v35), (2, .int x33), (0, .ref (gB G + a0)), (1, .int l1)]) hx hb dX0_hasRing_35 hl (k := 3) rfl (by rw [ev35]; rfl) (by decide) rfl (fun ls hl => ?_)
      refine lv_goto (tgt := 14) hx hb dX0_hasRing_38 (by decide) ?_
      exact hk14 a0 l1 x33 v35 _ _ _ h hW (lv_sub hl [2, 3, 1, 0] rfl)
def fX0_hasRing_14 (k2 : Nat → Int32 → Option (Int32)) (z : AH) : Nat → Nat → Int32 → Int32 → Int32 → Option (Int32)
  | 0, _, _, _, _ => none
  | n + 1, a0, l1, l2, l3 => bX0_hasRing_14 k2 (fX0_hasRing_14 k2 z n) a0 l1 l2 l3 z
theorem klX0_hasRing_14 {p : Program} {l : Launch} {e : Env} {s : State} {m : MethodId} {args : Array Value} {below : List Frame} {meth : Method} {c : Code} {G : GW} {r : Int32} (C : Cx p m c cX0_hasRing 4 s args RX0 G) (hlk : meth.locks = false) (hr : meth.sig.returnType = (some .boolean)) {z : AH} (k2 : Nat → Int32 → Option (Int32)) (hk2 : ∀ (a0 : Nat) (l1 : Int32) (H : Heap) (locs : List Loc) (ls : Array Slot), k2 a0 l1 = some r → Wb G z s H locs → lv_has ls 4 [(0, .ref (gB G + a0)), (1, .int l1)] → W p l e rmX0_hasRing s m args below meth c H locs 0 0 (MQ below (Qi G r z) args s 0 0 (AA G)) (F0 m 2 ls [])) : ∀ (n : Nat) (a0 : Nat) (l1 : Int32) (l2 : Int32) (l3 : Int32) (H : Heap) (locs : List Loc) (ls : Array Slot), fX0_hasRing_14 k2 z n a0 l1 l2 l3 = some r → Wb G z s H locs → lv_has ls 4 [(0, .ref (gB G + a0)), (1, .int l1), (2, .int l2), (3, .int l3)] → W p l e rmX0_hasRing s m args below meth c H locs 0 0 (MQ below (Qi G r z) args s 0 0 (AA G)) (F0 m 14 ls []) := by
  intro n
  induction n with
  | zero => intro a0 l1 l2 l3 H locs ls h; have h : (none : Option (Int32)) = some r := h; cases h
  | succ n ih => intro a0 l1 l2 l3 H locs ls h hW hl; exact kbX0_hasRing_14 C hlk hr k2 (fX0_hasRing_14 k2 z n) hk2 (fun a0 l1 l2 l3 H locs ls h hW hl => ih a0 l1 l2 l3 H locs ls h hW hl) a0 l1 l2 l3 h hW hl
def bX0_hasRing_2 (k2 : Nat → Int32 → Option (Int32)) (a0 : Nat) (l1 : Int32) (z : AH) : Option (Int32) :=
  (gI 0 0 z a0).bind fun x4 =>
  if x4 ≤ l1 then (
    some (0 : Int32)
  ) else (
    fX0_hasRing_14 k2 z FU a0 l1 l1 (0 : Int32)
  )
set_option maxHeartbeats 4000000 in
set_option maxRecDepth 100000 in
theorem kbX0_hasRing_2 {p : Program} {l : Launch} {e : Env} {s : State} {m : MethodId} {args : Array Value} {below : List Frame} {meth : Method} {c : Code} {G : GW} {r : Int32} (C : Cx p m c cX0_hasRing 4 s args RX0 G) (hlk : meth.locks = false) (hr : meth.sig.returnType = (some .boolean)) {z : AH} (k2 : Nat → Int32 → Option (Int32)) (hk2 : ∀ (a0 : Nat) (l1 : Int32) (H : Heap) (locs : List Loc) (ls : Array Slot), k2 a0 l1 = some r → Wb G z s H locs → lv_has ls 4 [(0, .ref (gB G + a0)), (1, .int l1)] → W p l e rmX0_hasRing s m args below meth c H locs 0 0 (MQ below (Qi G r z) args s 0 0 (AA G)) (F0 m 2 ls [])) (a0 : Nat) (l1 : Int32) {H : Heap} {locs : List Loc} {ls : Array Slot} (h : bX0_hasRing_2 k2 a0 l1 z = some r) (hW : Wb G z s H locs) (hl : lv_has ls 4 [(0, .ref (gB G + a0)), (1, .int l1)]) : W p l e rmX0_hasRing s m args below meth c H locs 0 0 (MQ below (Qi G r z) args s 0 0 (AA G)) (F0 m 2 ls []) := by
  have hx := C.1
  have hb := C.2.1
  unfold bX0_hasRing_2 at h
  refine lv_iload_n hx hb dX0_hasRing_2 rfl (lv_at hl 1 rfl) ?_
  refine lv_aload_n hx hb dX0_hasRing_3 rfl (lv_at hl 0 rfl) ?_
  obtain ⟨x4, hg, h⟩ := ob h
  refine wz_gI C hW flX0_58 hg dX0_hasRing_4 ?_
  refine lv_icmp_ge (tgt := 57) hx hb dX0_hasRing_7 (by decide) (fun c7 => ?_) (fun c7 => ?_)
  · have h := ite_t c7 h
    refine lv_iconst (v := 0) hx hb dX0_hasRing_57 (by decide) ?_
    exact wz_zretE C hlk hr (Or.inl rfl) (Option.some.inj h) rfl hW dX0_hasRing_58
  · have h := ite_f c7 h
    refine lv_iload_n hx hb dX0_hasRing_10 rfl (lv_at hl 1 rfl) ?_
    refine lv_istore_n (lv' := [(2, .int l1), (0, .ref (gB G + a0)), (1, .int l1)]) hx hb dX0_hasRing_11 rfl hl (by decide) rfl (fun ls hl => ?_)
    refine lv_iconst (v := 0) hx hb dX0_hasRing_12 (by decide) ?_
    refine lv_istore_n (lv' := [(3, .int (0 : Int32)), (2, .int l1), (0, .ref (gB G + a0)), (1, .int l1)]) hx hb dX0_hasRing_13 rfl hl (by decide) rfl (fun ls hl => ?_)
    exact klX0_hasRing_14 C hlk hr k2 hk2 FU a0 l1 l1 (0 : Int32) _ _ _ h hW (lv_sub hl [2, 3, 1, 0] rfl)
def fX0_hasRing_2 (z : AH) : Nat → Nat → Int32 → Option (Int32)
  | 0, _, _ => none
  | n + 1, a0, l1 => bX0_hasRing_2 (fX0_hasRing_2 z n) a0 l1 z
theorem klX0_hasRing_2 {p : Program} {l : Launch} {e : Env} {s : State} {m : MethodId} {args : Array Value} {below : List Frame} {meth : Method} {c : Code} {G : GW} {r : Int32} (C : Cx p m c cX0_hasRing 4 s args RX0 G) (hlk : meth.locks = false) (hr : meth.sig.returnType = (some .boolean)) {z : AH} : ∀ (n : Nat) (a0 : Nat) (l1 : Int32) (H : Heap) (locs : List Loc) (ls : Array Slot), fX0_hasRing_2 z n a0 l1 = some r → Wb G z s H locs → lv_has ls 4 [(0, .ref (gB G + a0)), (1, .int l1)] → W p l e rmX0_hasRing s m args below meth c H locs 0 0 (MQ below (Qi G r z) args s 0 0 (AA G)) (F0 m 2 ls []) := by
  intro n
  induction n with
  | zero => intro a0 l1 H locs ls h; have h : (none : Option (Int32)) = some r := h; cases h
  | succ n ih => intro a0 l1 H locs ls h hW hl; exact kbX0_hasRing_2 C hlk hr (fX0_hasRing_2 z n) (fun a0 l1 H locs ls h hW hl => ih a0 l1 H locs ls h hW hl) a0 l1 h hW hl
def fX0_hasRing (a0 : Nat) (z : AH) : Option (Int32) :=
  if isO 0 z a0 = true then
    fX0_hasRing_2 z FU a0 (0 : Int32)
  else none
set_option maxHeartbeats 4000000 in
set_option maxRecDepth 100000 in
theorem ctX0_hasRing (l : Launch) (G : GW) (a0 : Nat) (z : AH) {r : Int32} (h : fX0_hasRing a0 z = some r) : Met l yX0_hasRing (wy yX0_hasRing cX0_hasRing 4 (some .boolean)) rmX0_hasRing (Pz G [.ref (gB G + a0)] z) (Qi G r z) 0 0 (AA G) := by
  refine wz_ent (own := RX0) (by decide +kernel) rfl (fun p e s m below meth c ls C hlk hr hin hW hl => ?_) (Nat.le_of_ble_eq_true rfl)
  have hl : lv_has ls 4 [(0, .ref (gB G + a0))] := hl
  have hx := C.1
  have hb := C.2.1
  unfold fX0_hasRing at h
  obtain ⟨-, h⟩ := ck h
  refine lv_iconst (v := 0) hx hb dX0_hasRing_0 (by decide) ?_
  refine lv_istore_n (lv' := [(1, .int (0 : Int32)), (0, .ref (gB G + a0))]) hx hb dX0_hasRing_1 rfl hl (by decide) rfl (fun ls hl => ?_)
  exact klX0_hasRing_2 C hlk hr FU a0 (0 : Int32) _ _ _ h hW (lv_sub hl [1, 0] rfl)
theorem dX0_sharesEye_0 : decode cX0_sharesEye 0 = .ok (.iconst 0, 1) := by decide +kernel
theorem dX0_sharesEye_1 : decode cX0_sharesEye 1 = .ok (.istore_n 1, 1) := by decide +kernel
theorem dX0_sharesEye_2 : decode cX0_sharesEye 2 = .ok (.iload_n 1, 1) := by decide +kernel
theorem dX0_sharesEye_3 : decode cX0_sharesEye 3 = .ok (.aload_n 0, 1) := by decide +kernel
theorem dX0_sharesEye_4 : decode cX0_sharesEye 4 = .ok (.getfield 74, 3) := by decide +kernel
theorem dX0_sharesEye_7 : decode cX0_sharesEye 7 = .ok (.if_icmp .ge 54, 3) := by decide +kernel
theorem dX0_sharesEye_10 : decode cX0_sharesEye 10 = .ok (.iconst 0, 1) := by decide +kernel
theorem dX0_sharesEye_11 : decode cX0_sharesEye 11 = .ok (.istore_n 2, 1) := by decide +kernel
theorem dX0_sharesEye_12 : decode cX0_sharesEye 12 = .ok (.iload_n 2, 1) := by decide +kernel
theorem dX0_sharesEye_13 : decode cX0_sharesEye 13 = .ok (.iload_n 1, 1) := by decide +kernel
theorem dX0_sharesEye_14 : decode cX0_sharesEye 14 = .ok (.if_icmp .ge 41, 3) := by decide +kernel
theorem dX0_sharesEye_17 : decode cX0_sharesEye 17 = .ok (.aload_n 0, 1) := by decide +kernel
theorem dX0_sharesEye_18 : decode cX0_sharesEye 18 = .ok (.getfield 42, 3) := by decide +kernel
theorem dX0_sharesEye_21 : decode cX0_sharesEye 21 = .ok (.iload_n 1, 1) := by decide +kernel
theorem dX0_sharesEye_22 : decode cX0_sharesEye 22 = .ok (.iaload, 1) := by decide +kernel
theorem dX0_sharesEye_23 : decode cX0_sharesEye 23 = .ok (.aload_n 0, 1) := by decide +kernel
theorem dX0_sharesEye_24 : decode cX0_sharesEye 24 = .ok (.getfield 42, 3) := by decide +kernel
theorem dX0_sharesEye_27 : decode cX0_sharesEye 27 = .ok (.iload_n 2, 1) := by decide +kernel
theorem dX0_sharesEye_28 : decode cX0_sharesEye 28 = .ok (.iaload, 1) := by decide +kernel
theorem dX0_sharesEye_29 : decode cX0_sharesEye 29 = .ok (.if_icmp .eq 18, 3) := by decide +kernel
theorem dX0_sharesEye_32 : decode cX0_sharesEye 32 = .ok (.aload_n 0, 1) := by decide +kernel
theorem dX0_sharesEye_33 : decode cX0_sharesEye 33 = .ok (.getfield 45, 3) := by decide +kernel
theorem dX0_sharesEye_36 : decode cX0_sharesEye 36 = .ok (.iload_n 1, 1) := by decide +kernel
theorem dX0_sharesEye_37 : decode cX0_sharesEye 37 = .ok (.iaload, 1) := by decide +kernel
theorem dX0_sharesEye_38 : decode cX0_sharesEye 38 = .ok (.aload_n 0, 1) := by decide +kernel
theorem dX0_sharesEye_39 : decode cX0_sharesEye 39 = .ok (.getfield 45, 3) := by decide +kernel
theorem dX0_sharesEye_42 : decode cX0_sharesEye 42 = .ok (.iload_n 2, 1) := by decide +kernel
theorem dX0_sharesEye_43 : decode cX0_sharesEye 43 = .ok (.iaload, 1) := by decide +kernel
theorem dX0_sharesEye_44 : decode cX0_sharesEye 44 = .ok (.if_icmp .ne 5, 3) := by decide +kernel
theorem dX0_sharesEye_47 : decode cX0_sharesEye 47 = .ok (.iconst 1, 1) := by decide +kernel
theorem dX0_sharesEye_48 : decode cX0_sharesEye 48 = .ok (.ireturn, 1) := by decide +kernel
theorem dX0_sharesEye_49 : decode cX0_sharesEye 49 = .ok (.iinc 2 1, 3) := by decide +kernel
theorem dX0_sharesEye_52 : decode cX0_sharesEye 52 = .ok (.goto (-40), 3) := by decide +kernel
theorem dX0_sharesEye_55 : decode cX0_sharesEye 55 = .ok (.iinc 1 1, 3) := by decide +kernel
theorem dX0_sharesEye_58 : decode cX0_sharesEye 58 = .ok (.goto (-56), 3) := by decide +kernel
theorem dX0_sharesEye_61 : decode cX0_sharesEye 61 = .ok (.iconst 0, 1) := by decide +kernel
theorem dX0_sharesEye_62 : decode cX0_sharesEye 62 = .ok (.ireturn, 1) := by decide +kernel
abbrev rmX0_sharesEye : Room := { frames := 0, cells := 0, slots := 0, locals := 0 }
def bX0_sharesEye_12 (k2 : Nat → Int32 → Option (Int32)) (k12 : Nat → Int32 → Int32 → Option (Int32)) (a0 : Nat) (l1 : Int32) (l2 : Int32) (z : AH) : Option (Int32) :=
  if l1 ≤ l2 then (
    nm (l1 + (1 : Int32)) fun v55 =>
    k2 a0 v55
  ) else (
    (gN 0 15 z a0).bind fun b18 =>
    (ixI 0 z b18 l1).bind fun x22 =>
    (gN 0 15 z a0).bind fun b24 =>
    (ixI 0 z b24 l2).bind fun x28 =>
    if x22 = x28 then (
      some (1 : Int32)
    ) else (
      (gN 0 16 z a0).bind fun b33 =>
      (ixI 0 z b33 l1).bind fun x37 =>
      (gN 0 16 z a0).bind fun b39 =>
      (ixI 0 z b39 l2).bind fun x43 =>
      if x37 = x43 then (
        some (1 : Int32)
      ) else (
        nm (l2 + (1 : Int32)) fun v49 =>
        k12 a0 l1 v49
      )
    )
  )
set_option maxHeartbeats 4000000 in
set_option maxRecDepth 100000 in
theorem kbX0_sharesEye_12 {p : Program} {l : Launch} {e : Env} {s : State} {m : MethodId} {args : Array Value} {below : List Frame} {meth : Method} {c : Code} {G : GW} {r : Int32} (C : Cx p m c cX0_sharesEye 3 s args RX0 G) (hlk : meth.locks = false) (hr : meth.sig.returnType = (some .boolean)) {z : AH} (k2 : Nat → Int32 → Option (Int32)) (k12 : Nat → Int32 → Int32 → Option (Int32)) (hk2 : ∀ (a0 : Nat) (l1 : Int32) (H : Heap) (locs : List Loc) (ls : Array Slot), k2 a0 l1 = some r → Wb G z s H locs → lv_has ls 3 [(0, .ref (gB G + a0)), (1, .int l1)] → W p l e rmX0_sharesEye s m args below meth c H locs 0 0 (MQ below (Qi G r z) args s 0 0 (AA G)) (F0 m 2 ls [])) (hk12 : ∀ (a0 : Nat) (l1 : Int32) (l2 : Int32) (H : Heap) (locs : List Loc) (ls : Array Slot), k12 a0 l1 l2 = some r → Wb G z s H locs → lv_has ls 3 [(0, .ref (gB G + a0)), (1, .int l1), (2, .int l2)] → W p l e rmX0_sharesEye s m args below meth c H locs 0 0 (MQ below (Qi G r z) args s 0 0 (AA G)) (F0 m 12 ls [])) (a0 : Nat) (l1 : Int32) (l2 : Int32) {H : Heap} {locs : List Loc} {ls : Array Slot} (h : bX0_sharesEye_12 k2 k12 a0 l1 l2 z = some r) (hW : Wb G z s H locs) (hl : lv_has ls 3 [(0, .ref (gB G + a0)), (1, .int l1), (2, .int l2)]) : W p l e rmX0_sharesEye s m args below meth c H locs 0 0 (MQ below (Qi G r z) args s 0 0 (AA G)) (F0 m 12 ls []) := by
  have hx := C.1
  have hb := C.2.1
  unfold bX0_sharesEye_12 at h
  refine lv_iload_n hx hb dX0_sharesEye_12 rfl (lv_at hl 2 rfl) ?_
  refine lv_iload_n hx hb dX0_sharesEye_13 rfl (lv_at hl 1 rfl) ?_
  refine lv_icmp_ge (tgt := 55) hx hb dX0_sharesEye_14 (by decide) (fun c14 => ?_) (fun c14 => ?_)
  · have h := ite_t c14 h
    obtain ⟨v55, ev55⟩ : ∃ y : Int32, y = (l1 + (1 : Int32)) := ⟨_, rfl⟩
    have h := nm_to h ev55
    refine lv_iinc (v := v55) (lv' := [(1, .int v55), (0, .ref (gB G + a0)), (2, .int l2)]) hx hb dX0_sharesEye_55 hl (k := 1) rfl (by rw [ev55]; rfl) (by decide) rfl (fun ls hl => ?_)
    refine lv_goto (tgt := 2) hx hb dX0_sharesEye_58 (by decide) ?_
    exact hk2 a0 v55 _ _ _ h hW (lv_sub hl [1, 0] rfl)
  · have h := ite_f c14 h
    refine lv_aload_n hx hb dX0_sharesEye_17 rfl (lv_at hl 0 rfl) ?_
    obtain ⟨b18, hg, h⟩ := ob h
    refine wz_gN C hW flX0_42 hg dX0_sharesEye_18 ?_
    refine lv_iload_n hx hb dX0_sharesEye_21 rfl (lv_at hl 1 rfl) ?_
    obtain ⟨x22, hg, h⟩ := ob h
    refine wz_ald C hW hg dX0_sharesEye_22 ?_
    refine lv_aload_n hx hb dX0_sharesEye_23 rfl (lv_at hl 0 rfl) ?_
    obtain ⟨b24, hg, h⟩ := ob h
    refine wz_gN C hW flX0_42 hg dX0_sharesEye_24 ?_
    refine lv_iload_n hx hb dX0_sharesEye_27 rfl (lv_at hl 2 rfl) ?_
    obtain ⟨x28, hg, h⟩ := ob h
    refine wz_ald C hW hg dX0_sharesEye_28 ?_
    refine lv_icmp_eq (tgt := 47) hx hb dX0_sharesEye_29 (by decide) (fun c29 => ?_) (fun c29 => ?_)
    · have h := ite_t c29 h
      refine lv_iconst (v := 1) hx hb dX0_sharesEye_47 (by decide) ?_
      exact wz_zretE C hlk hr (Or.inr rfl) (Option.some.inj h) rfl hW dX0_sharesEye_48
    · have h := ite_f c29 h
      refine lv_aload_n hx hb dX0_sharesEye_32 rfl (lv_at hl 0 rfl) ?_
      obtain ⟨b33, hg, h⟩ := ob h
      refine wz_gN C hW flX0_45 hg dX0_sharesEye_33 ?_
      refine lv_iload_n hx hb dX0_sharesEye_36 rfl (lv_at hl 1 rfl) ?_
      obtain ⟨x37, hg, h⟩ := ob h
      refine wz_ald C hW hg dX0_sharesEye_37 ?_
      refine lv_aload_n hx hb dX0_sharesEye_38 rfl (lv_at hl 0 rfl) ?_
      obtain ⟨b39, hg, h⟩ := ob h
      refine wz_gN C hW flX0_45 hg dX0_sharesEye_39 ?_
      refine lv_iload_n hx hb dX0_sharesEye_42 rfl (lv_at hl 2 rfl) ?_
      obtain ⟨x43, hg, h⟩ := ob h
      refine wz_ald C hW hg dX0_sharesEye_43 ?_
      refine lv_icmp_ne (tgt := 49) hx hb dX0_sharesEye_44 (by decide) (fun c44 => ?_) (fun c44 => ?_)
      · have h := ite_f c44 h
        obtain ⟨v49, ev49⟩ : ∃ y : Int32, y = (l2 + (1 : Int32)) := ⟨_, rfl⟩
        have h := nm_to h ev49
        refine lv_iinc (v := v49) (lv' := [(2, .int v49), (0, .ref (gB G + a0)), (1, .int l1)]) hx hb dX0_sharesEye_49 hl (k := 2) rfl (by rw [ev49]; rfl) (by decide) rfl (fun ls hl => ?_)
        refine lv_goto (tgt := 12) hx hb dX0_sharesEye_52 (by decide) ?_
        exact hk12 a0 l1 v49 _ _ _ h hW (lv_sub hl [1, 2, 0] rfl)
      · have h := ite_t c44 h
        refine lv_iconst (v := 1) hx hb dX0_sharesEye_47 (by decide) ?_
        exact wz_zretE C hlk hr (Or.inr rfl) (Option.some.inj h) rfl hW dX0_sharesEye_48
def fX0_sharesEye_12 (k2 : Nat → Int32 → Option (Int32)) (z : AH) : Nat → Nat → Int32 → Int32 → Option (Int32)
  | 0, _, _, _ => none
  | n + 1, a0, l1, l2 => bX0_sharesEye_12 k2 (fX0_sharesEye_12 k2 z n) a0 l1 l2 z
theorem klX0_sharesEye_12 {p : Program} {l : Launch} {e : Env} {s : State} {m : MethodId} {args : Array Value} {below : List Frame} {meth : Method} {c : Code} {G : GW} {r : Int32} (C : Cx p m c cX0_sharesEye 3 s args RX0 G) (hlk : meth.locks = false) (hr : meth.sig.returnType = (some .boolean)) {z : AH} (k2 : Nat → Int32 → Option (Int32)) (hk2 : ∀ (a0 : Nat) (l1 : Int32) (H : Heap) (locs : List Loc) (ls : Array Slot), k2 a0 l1 = some r → Wb G z s H locs → lv_has ls 3 [(0, .ref (gB G + a0)), (1, .int l1)] → W p l e rmX0_sharesEye s m args below meth c H locs 0 0 (MQ below (Qi G r z) args s 0 0 (AA G)) (F0 m 2 ls [])) : ∀ (n : Nat) (a0 : Nat) (l1 : Int32) (l2 : Int32) (H : Heap) (locs : List Loc) (ls : Array Slot), fX0_sharesEye_12 k2 z n a0 l1 l2 = some r → Wb G z s H locs → lv_has ls 3 [(0, .ref (gB G + a0)), (1, .int l1), (2, .int l2)] → W p l e rmX0_sharesEye s m args below meth c H locs 0 0 (MQ below (Qi G r z) args s 0 0 (AA G)) (F0 m 12 ls []) := by
  intro n
  induction n with
  | zero => intro a0 l1 l2 H locs ls h; have h : (none : Option (Int32)) = some r := h; cases h
  | succ n ih => intro a0 l1 l2 H locs ls h hW hl; exact kbX0_sharesEye_12 C hlk hr k2 (fX0_sharesEye_12 k2 z n) hk2 (fun a0 l1 l2 H locs ls h hW hl => ih a0 l1 l2 H locs ls h hW hl) a0 l1 l2 h hW hl
def bX0_sharesEye_2 (k2 : Nat → Int32 → Option (Int32)) (a0 : Nat) (l1 : Int32) (z : AH) : Option (Int32) :=
  (gI 0 14 z a0).bind fun x4 =>
  if x4 ≤ l1 then (
    some (0 : Int32)
  ) else (
    fX0_sharesEye_12 k2 z FU a0 l1 (0 : Int32)
  )
set_option maxHeartbeats 4000000 in
set_option maxRecDepth 100000 in
theorem kbX0_sharesEye_2 {p : Program} {l : Launch} {e : Env} {s : State} {m : MethodId} {args : Array Value} {below : List Frame} {meth : Method} {c : Code} {G : GW} {r : Int32} (C : Cx p m c cX0_sharesEye 3 s args RX0 G) (hlk : meth.locks = false) (hr : meth.sig.returnType = (some .boolean)) {z : AH} (k2 : Nat → Int32 → Option (Int32)) (hk2 : ∀ (a0 : Nat) (l1 : Int32) (H : Heap) (locs : List Loc) (ls : Array Slot), k2 a0 l1 = some r → Wb G z s H locs → lv_has ls 3 [(0, .ref (gB G + a0)), (1, .int l1)] → W p l e rmX0_sharesEye s m args below meth c H locs 0 0 (MQ below (Qi G r z) args s 0 0 (AA G)) (F0 m 2 ls [])) (a0 : Nat) (l1 : Int32) {H : Heap} {locs : List Loc} {ls : Array Slot} (h : bX0_sharesEye_2 k2 a0 l1 z = some r) (hW : Wb G z s H locs) (hl : lv_has ls 3 [(0, .ref (gB G + a0)), (1, .int l1)]) : W p l e rmX0_sharesEye s m args below meth c H locs 0 0 (MQ below (Qi G r z) args s 0 0 (AA G)) (F0 m 2 ls []) := by
  have hx := C.1
  have hb := C.2.1
  unfold bX0_sharesEye_2 at h
  refine lv_iload_n hx hb dX0_sharesEye_2 rfl (lv_at hl 1 rfl) ?_
  refine lv_aload_n hx hb dX0_sharesEye_3 rfl (lv_at hl 0 rfl) ?_
  obtain ⟨x4, hg, h⟩ := ob h
  refine wz_gI C hW flX0_74 hg dX0_sharesEye_4 ?_
  refine lv_icmp_ge (tgt := 61) hx hb dX0_sharesEye_7 (by decide) (fun c7 => ?_) (fun c7 => ?_)
  · have h := ite_t c7 h
    refine lv_iconst (v := 0) hx hb dX0_sharesEye_61 (by decide) ?_
    exact wz_zretE C hlk hr (Or.inl rfl) (Option.some.inj h) rfl hW dX0_sharesEye_62
  · have h := ite_f c7 h
    refine lv_iconst (v := 0) hx hb dX0_sharesEye_10 (by decide) ?_
    refine lv_istore_n (lv' := [(2, .int (0 : Int32)), (0, .ref (gB G + a0)), (1, .int l1)]) hx hb dX0_sharesEye_11 rfl hl (by decide) rfl (fun ls hl => ?_)
    exact klX0_sharesEye_12 C hlk hr k2 hk2 FU a0 l1 (0 : Int32) _ _ _ h hW (lv_sub hl [1, 2, 0] rfl)
def fX0_sharesEye_2 (z : AH) : Nat → Nat → Int32 → Option (Int32)
  | 0, _, _ => none
  | n + 1, a0, l1 => bX0_sharesEye_2 (fX0_sharesEye_2 z n) a0 l1 z
theorem klX0_sharesEye_2 {p : Program} {l : Launch} {e : Env} {s : State} {m : MethodId} {args : Array Value} {below : List Frame} {meth : Method} {c : Code} {G : GW} {r : Int32} (C : Cx p m c cX0_sharesEye 3 s args RX0 G) (hlk : meth.locks = false) (hr : meth.sig.returnType = (some .boolean)) {z : AH} : ∀ (n : Nat) (a0 : Nat) (l1 : Int32) (H : Heap) (locs : List Loc) (ls : Array Slot), fX0_sharesEye_2 z n a0 l1 = some r → Wb G z s H locs → lv_has ls 3 [(0, .ref (gB G + a0)), (1, .int l1)] → W p l e rmX0_sharesEye s m args below meth c H locs 0 0 (MQ below (Qi G r z) args s 0 0 (AA G)) (F0 m 2 ls []) := by
  intro n
  induction n with
  | zero => intro a0 l1 H locs ls h; have h : (none : Option (Int32)) = some r := h; cases h
  | succ n ih => intro a0 l1 H locs ls h hW hl; exact kbX0_sharesEye_2 C hlk hr (fX0_sharesEye_2 z n) (fun a0 l1 H locs ls h hW hl => ih a0 l1 H locs ls h hW hl) a0 l1 h hW hl
def fX0_sharesEye (a0 : Nat) (z : AH) : Option (Int32) :=
  if isO 0 z a0 = true then
    fX0_sharesEye_2 z FU a0 (0 : Int32)
  else none
set_option maxHeartbeats 4000000 in
set_option maxRecDepth 100000 in
theorem ctX0_sharesEye (l : Launch) (G : GW) (a0 : Nat) (z : AH) {r : Int32} (h : fX0_sharesEye a0 z = some r) : Met l yX0_sharesEye (wy yX0_sharesEye cX0_sharesEye 3 (some .boolean)) rmX0_sharesEye (Pz G [.ref (gB G + a0)] z) (Qi G r z) 0 0 (AA G) := by
  refine wz_ent (own := RX0) (by decide +kernel) rfl (fun p e s m below meth c ls C hlk hr hin hW hl => ?_) (Nat.le_of_ble_eq_true rfl)
  have hl : lv_has ls 3 [(0, .ref (gB G + a0))] := hl
  have hx := C.1
  have hb := C.2.1
  unfold fX0_sharesEye at h
  obtain ⟨-, h⟩ := ck h
  refine lv_iconst (v := 0) hx hb dX0_sharesEye_0 (by decide) ?_
  refine lv_istore_n (lv' := [(1, .int (0 : Int32)), (0, .ref (gB G + a0))]) hx hb dX0_sharesEye_1 rfl hl (by decide) rfl (fun ls hl => ?_)
  exact klX0_sharesEye_2 C hlk hr FU a0 (0 : Int32) _ _ _ h hW (lv_sub hl [1, 0] rfl)
theorem dX0_findAbove_0 : decode cX0_findAbove 0 = .ok (.iconst 0, 1) := by decide +kernel
theorem dX0_findAbove_1 : decode cX0_findAbove 1 = .ok (.istore_n 1, 1) := by decide +kernel
theorem dX0_findAbove_2 : decode cX0_findAbove 2 = .ok (.iload_n 1, 1) := by decide +kernel
theorem dX0_findAbove_3 : decode cX0_findAbove 3 = .ok (.aload_n 0, 1) := by decide +kernel
theorem dX0_findAbove_4 : decode cX0_findAbove 4 = .ok (.getfield 58, 3) := by decide +kernel
theorem dX0_findAbove_7 : decode cX0_findAbove 7 = .ok (.if_icmp .ge 57, 3) := by decide +kernel
theorem dX0_findAbove_10 : decode cX0_findAbove 10 = .ok (.aload_n 0, 1) := by decide +kernel
theorem dX0_findAbove_11 : decode cX0_findAbove 11 = .ok (.getfield 21, 3) := by decide +kernel
theorem dX0_findAbove_14 : decode cX0_findAbove 14 = .ok (.iload_n 1, 1) := by decide +kernel
theorem dX0_findAbove_15 : decode cX0_findAbove 15 = .ok (.iaload, 1) := by decide +kernel
theorem dX0_findAbove_16 : decode cX0_findAbove 16 = .ok (.istore_n 2, 1) := by decide +kernel
theorem dX0_findAbove_17 : decode cX0_findAbove 17 = .ok (.iconst 0, 1) := by decide +kernel
theorem dX0_findAbove_18 : decode cX0_findAbove 18 = .ok (.istore_n 3, 1) := by decide +kernel
theorem dX0_findAbove_19 : decode cX0_findAbove 19 = .ok (.iload_n 3, 1) := by decide +kernel
theorem dX0_findAbove_20 : decode cX0_findAbove 20 = .ok (.bipush 8, 2) := by decide +kernel
theorem dX0_findAbove_22 : decode cX0_findAbove 22 = .ok (.if_icmp .ge 36, 3) := by decide +kernel
theorem dX0_findAbove_25 : decode cX0_findAbove 25 = .ok (.aload_n 0, 1) := by decide +kernel
theorem dX0_findAbove_26 : decode cX0_findAbove 26 = .ok (.iload_n 2, 1) := by decide +kernel
theorem dX0_findAbove_27 : decode cX0_findAbove 27 = .ok (.invokevirtual 77, 3) := by decide +kernel
theorem dX0_findAbove_30 : decode cX0_findAbove 30 = .ok (.ifCond .eq 28, 3) := by decide +kernel
theorem dX0_findAbove_33 : decode cX0_findAbove 33 = .ok (.aload_n 0, 1) := by decide +kernel
theorem dX0_findAbove_34 : decode cX0_findAbove 34 = .ok (.getfield 24, 3) := by decide +kernel
theorem dX0_findAbove_37 : decode cX0_findAbove 37 = .ok (.iload_n 2, 1) := by decide +kernel
theorem dX0_findAbove_38 : decode cX0_findAbove 38 = .ok (.dup2, 1) := by decide +kernel
theorem dX0_findAbove_39 : decode cX0_findAbove 39 = .ok (.iaload, 1) := by decide +kernel
theorem dX0_findAbove_40 : decode cX0_findAbove 40 = .ok (.iconst 1, 1) := by decide +kernel
theorem dX0_findAbove_41 : decode cX0_findAbove 41 = .ok (.iload_n 1, 1) := by decide +kernel
theorem dX0_findAbove_42 : decode cX0_findAbove 42 = .ok (.ishl, 1) := by decide +kernel
theorem dX0_findAbove_43 : decode cX0_findAbove 43 = .ok (.ior, 1) := by decide +kernel
theorem dX0_findAbove_44 : decode cX0_findAbove 44 = .ok (.iastore, 1) := by decide +kernel
theorem dX0_findAbove_45 : decode cX0_findAbove 45 = .ok (.aload_n 0, 1) := by decide +kernel
theorem dX0_findAbove_46 : decode cX0_findAbove 46 = .ok (.getfield 21, 3) := by decide +kernel
theorem dX0_findAbove_49 : decode cX0_findAbove 49 = .ok (.iload_n 2, 1) := by decide +kernel
theorem dX0_findAbove_50 : decode cX0_findAbove 50 = .ok (.iaload, 1) := by decide +kernel
theorem dX0_findAbove_51 : decode cX0_findAbove 51 = .ok (.istore_n 2, 1) := by decide +kernel
theorem dX0_findAbove_52 : decode cX0_findAbove 52 = .ok (.iinc 3 1, 3) := by decide +kernel
theorem dX0_findAbove_55 : decode cX0_findAbove 55 = .ok (.goto (-36), 3) := by decide +kernel
theorem dX0_findAbove_58 : decode cX0_findAbove 58 = .ok (.iinc 1 1, 3) := by decide +kernel
theorem dX0_findAbove_61 : decode cX0_findAbove 61 = .ok (.goto (-59), 3) := by decide +kernel
theorem dX0_findAbove_64 : decode cX0_findAbove 64 = .ok (.return_, 1) := by decide +kernel
abbrev rmX0_findAbove : Room := { frames := 1, cells := 0, slots := 0, locals := 21 }
def bX0_findAbove_19 (k2 : Nat → Int32 → AH → Option AH) (k19 : Nat → Int32 → Int32 → Int32 → AH → Option AH) (a0 : Nat) (l1 : Int32) (l2 : Int32) (l3 : Int32) (z : AH) : Option AH :=
  if (8 : Int32) ≤ l3 then (
    nm (l1 + (1 : Int32)) fun v58 =>
    k2 a0 v58 z
  ) else (
    (fX0_hasThing a0 l2 z).bind fun x27 =>
    if x27 = (0 : Int32) then (
      nm (l1 + (1 : Int32)) fun v58 =>
      k2 a0 v58 z
    ) else (
      (gN 0 5 z a0).bind fun b34 =>
      (ixI 0 z b34 l2).bind fun x39 =>
      (stI 0 z b34 l2 (x39 ||| (shl (1 : Int32) l1))).bind fun z44 =>
      (gN 0 4 z44 a0).bind fun b46 =>
      (ixI 0 z44 b46 l2).bind fun x50 =>
      nm (l3 + (1 : Int32)) fun v52 =>
      k19 a0 l1 x50 v52 z44
    )
  )
set_option maxHeartbeats 4000000 in
set_option maxRecDepth 100000 in
theorem kbX0_findAbove_19 {p : Program} {l : Launch} {e : Env} {s : State} {m : MethodId} {args : Array Value} {below : List Frame} {meth : Method} {c : Code} {G : GW} {z' : AH} (C : Cx p m c cX0_findAbove 4 s args RX0 G) (hlk : meth.locks = false) (hr : meth.sig.returnType = none) (k2 : Nat → Int32 → AH → Option AH) (k19 : Nat → Int32 → Int32 → Int32 → AH → Option AH) (hk2 : ∀ (a0 : Nat) (l1 : Int32) (z : AH) (H : Heap) (locs : List Loc) (ls : Array Slot), k2 a0 l1 z = some z' → Wb G z s H locs → lv_has ls 4 [(0, .ref (gB G + a0)), (1, .int l1)] → W p l e rmX0_findAbove s m args below meth c H locs 0 0 (MQ below (Qv G z') args s 0 0 (AA G)) (F0 m 2 ls [])) (hk19 : ∀ (a0 : Nat) (l1 : Int32) (l2 : Int32) (l3 : Int32) (z : AH) (H : Heap) (locs : List Loc) (ls : Array Slot), k19 a0 l1 l2 l3 z = some z' → Wb G z s H locs → lv_has ls 4 [(0, .ref (gB G + a0)), (1, .int l1), (2, .int l2), (3, .int l3)] → W p l e rmX0_findAbove s m args below meth c H locs 0 0 (MQ below (Qv G z') args s 0 0 (AA G)) (F0 m 19 ls [])) (a0 : Nat) (l1 : Int32) (l2 : Int32) (l3 : Int32) {z : AH} {H : Heap} {locs : List Loc} {ls : Array Slot} (h : bX0_findAbove_19 k2 k19 a0 l1 l2 l3 z = some z') (hW : Wb G z s H locs) (hl : lv_has ls 4 [(0, .ref (gB G + a0)), (1, .int l1), (2, .int l2), (3, .int l3)]) : W p l e rmX0_findAbove s m args below meth c H locs 0 0 (MQ below (Qv G z') args s 0 0 (AA G)) (F0 m 19 ls []) := by
  have hx := C.1
  have hb := C.2.1
  unfold bX0_findAbove_19 at h
  refine lv_iload_n hx hb dX0_findAbove_19 rfl (lv_at hl 3 rfl) ?_
  refine lv_bipush (v := 8) hx hb dX0_findAbove_20 (by decide) ?_
  refine lv_icmp_ge (tgt := 58) hx hb dX0_findAbove_22 (by decide) (fun c22 => ?_) (fun c22 => ?_)
  · have h := ite_t c22 h
    obtain ⟨v58, ev58⟩ : ∃ y : Int32, y = (l1 + (1 : Int32)) := ⟨_, rfl⟩
    have h := nm_to h ev58
    refine lv_iinc (v := v58) (lv' := [(1, .int v58), (0, .ref (gB G + a0)), (2, .int l2), (3, .int l3)]) hx hb dX0_findAbove_58 hl (k := 1) rfl (by rw [ev58]; rfl) (by decide) rfl (fun ls hl => ?_)
    refine lv_goto (tgt := 2) hx hb dX0_findAbove_61 (by decide) ?_
    exact hk2 a0 v58 z _ _ _ h hW (lv_sub hl [1, 0] rfl)
  · have h := ite_f c22 h
    refine lv_aload_n hx hb dX0_findAbove_25 rfl (lv_at hl 0 rfl) ?_
    refine lv_iload_n hx hb dX0_findAbove_26 rfl (lv_at hl 2 rfl) ?_
    obtain ⟨x27, hq, h⟩ := ob h
    refine wz_rI (c' := 0) (s' := 0) hW (wz_runV (rest := []) C hW lVX0_77 (ck hq).1 rfl (ctX0_hasThing l G a0 l2 z hq) ⟨⟨rfl, rfl⟩, Nat.le_of_ble_eq_true rfl, Nat.le_of_ble_eq_true rfl⟩ rfl hl.1 rfl (Nat.le_of_ble_eq_true rfl) dX0_findAbove_27 ⟨Nat.le_of_ble_eq_true rfl, Nat.le_of_ble_eq_true rfl⟩) rfl rfl (fun H locs hW => ?_)
    refine lv_if_eq (tgt := 58) hx hb dX0_findAbove_30 (by decide) (fun c30 => ?_) (fun c30 => ?_)
    · have h := ite_t c30 h
      obtain ⟨v58, ev58⟩ : ∃ y : Int32, y = (l1 + (1 : Int32)) := ⟨_, rfl⟩
      have h := nm_to h ev58
      refine lv_iinc (v := v58) (lv' := [(1, .int v58), (0, .ref (gB G + a0)), (2, .int l2), (3, .int l3)]) hx hb dX0_findAbove_58 hl (k := 1) rfl (by rw [ev58]; rfl) (by decide) rfl (fun ls hl => ?_)
      refine lv_goto (tgt := 2) hx hb dX0_findAbove_61 (by decide) ?_
      exact hk2 a0 v58 z _ _ _ h hW (lv_sub hl [1, 0] rfl)
    · have h := ite_f c30 h
      refine lv_aload_n hx hb dX0_findAbove_33 rfl (lv_at hl 0 rfl) ?_
      obtain ⟨b34, hg, h⟩ := ob h
      refine wz_gN C hW flX0_24 hg dX0_findAbove_34 ?_
      refine lv_iload_n hx hb dX0_findAbove_37 rfl (lv_at hl 2 rfl) ?_
      refine lv_dup2_11 hx hb dX0_findAbove_38 rfl rfl ?_
      obtain ⟨x39, hg, h⟩ := ob h
      refine wz_ald C hW hg dX0_findAbove_39 ?_
      refine lv_iconst (v := 1) hx hb dX0_findAbove_40 (by decide) ?_
      refine lv_iload_n hx hb dX0_findAbove_41 rfl (lv_at hl 1 rfl) ?_
      refine wz_shl hx hb dX0_findAbove_42 ?_
      refine lv_ior hx hb dX0_findAbove_43 ?_
      obtain ⟨z44, hg, h⟩ := ob h
      refine wz_ast C hW hg dX0_findAbove_44 (fun H locs hW => ?_)
      refine lv_aload_n hx hb dX0_findAbove_45 rfl (lv_at hl 0 rfl) ?_
      obtain ⟨b46, hg, h⟩ := ob h
      refine wz_gN C hW flX0_21 hg dX0_findAbove_46 ?_
      refine lv_iload_n hx hb dX0_findAbove_49 rfl (lv_at hl 2 rfl) ?_
      obtain ⟨x50, hg, h⟩ := ob h
      refine wz_ald C hW hg dX0_findAbove_50 ?_
      refine lv_istore_n (lv' := [(2, .int x50), (0, .ref (gB G + a0)), (1, .int l1), (3, .int l3)]) hx hb dX0_findAbove_51 rfl hl (by decide) rfl (fun ls hl => ?_)
      obtain ⟨v52, ev52⟩ : ∃ y : Int32, y = (l3 + (1 : Int32)) := ⟨_, rfl⟩
      have h := nm_to h ev52
      refine lv_iinc (v := v52) (lv' := [(3, .int v52), (2, .int x50), (0, .ref (gB G + a0)), (1, .int l1)]) hx hb dX0_findAbove_52 hl (k := 3) rfl (by rw [ev52]; rfl) (by decide) rfl (fun ls hl => ?_)
      refine lv_goto (tgt := 19) hx hb dX0_findAbove_55 (by decide) ?_
      exact hk19 a0 l1 x50 v52 z44 _ _ _ h hW (lv_sub hl [2, 3, 1, 0] rfl)
def fX0_findAbove_19 (k2 : Nat → Int32 → AH → Option AH) : Nat → Nat → Int32 → Int32 → Int32 → AH → Option AH
  | 0, _, _, _, _, _ => none
  | n + 1, a0, l1, l2, l3, z => bX0_findAbove_19 k2 (fX0_findAbove_19 k2 n) a0 l1 l2 l3 z
theorem klX0_findAbove_19 {p : Program} {l : Launch} {e : Env} {s : State} {m : MethodId} {args : Array Value} {below : List Frame} {meth : Method} {c : Code} {G : GW} {z' : AH} (C : Cx p m c cX0_findAbove 4 s args RX0 G) (hlk : meth.locks = false) (hr : meth.sig.returnType = none) (k2 : Nat → Int32 → AH → Option AH) (hk2 : ∀ (a0 : Nat) (l1 : Int32) (z : AH) (H : Heap) (locs : List Loc) (ls : Array Slot), k2 a0 l1 z = some z' → Wb G z s H locs → lv_has ls 4 [(0, .ref (gB G + a0)), (1, .int l1)] → W p l e rmX0_findAbove s m args below meth c H locs 0 0 (MQ below (Qv G z') args s 0 0 (AA G)) (F0 m 2 ls [])) : ∀ (n : Nat) (a0 : Nat) (l1 : Int32) (l2 : Int32) (l3 : Int32) (z : AH) (H : Heap) (locs : List Loc) (ls : Array Slot), fX0_findAbove_19 k2 n a0 l1 l2 l3 z = some z' → Wb G z s H locs → lv_has ls 4 [(0, .ref (gB G + a0)), (1, .int l1), (2, .int l2), (3, .int l3)] → W p l e rmX0_findAbove s m args below meth c H locs 0 0 (MQ below (Qv G z') args s 0 0 (AA G)) (F0 m 19 ls []) := by
  intro n
  induction n with
  | zero => intro a0 l1 l2 l3 z H locs ls h; have h : (none : Option AH) = some z' := h; cases h
  | succ n ih => intro a0 l1 l2 l3 z H locs ls h hW hl; exact kbX0_findAbove_19 C hlk hr k2 (fX0_findAbove_19 k2 n) hk2 (fun a0 l1 l2 l3 z H locs ls h hW hl => ih a0 l1 l2 l3 z H locs ls h hW hl) a0 l1 l2 l3 h hW hl
def bX0_findAbove_2 (k2 : Nat → Int32 → AH → Option AH) (a0 : Nat) (l1 : Int32) (z : AH) : Option AH :=
  (gI 0 0 z a0).bind fun x4 =>
  if x4 ≤ l1 then (
    some z
  ) else (
    (gN 0 4 z a0).bind fun b11 =>
    (ixI 0 z b11 l1).bind fun x15 =>
    fX0_findAbove_19 k2 FU a0 l1 x15 (0 : Int32) z
  )
set_option maxHeartbeats 4000000 in
set_option maxRecDepth 100000 in
theorem kbX0_findAbove_2 {p : Program} {l : Launch} {e : Env} {s : State} {m : MethodId} {args : Array Value} {below : List Frame} {meth : Method} {c : Code} {G : GW} {z' : AH} (C : Cx p m c cX0_findAbove 4 s args RX0 G) (hlk : meth.locks = false) (hr : meth.sig.returnType = none) (k2 : Nat → Int32 → AH → Option AH) (hk2 : ∀ (a0 : Nat) (l1 : Int32) (z : AH) (H : Heap) (locs : List Loc) (ls : Array Slot), k2 a0 l1 z = some z' → Wb G z s H locs → lv_has ls 4 [(0, .ref (gB G + a0)), (1, .int l1)] → W p l e rmX0_findAbove s m args below meth c H locs 0 0 (MQ below (Qv G z') args s 0 0 (AA G)) (F0 m 2 ls [])) (a0 : Nat) (l1 : Int32) {z : AH} {H : Heap} {locs : List Loc} {ls : Array Slot} (h : bX0_findAbove_2 k2 a0 l1 z = some z') (hW : Wb G z s H locs) (hl : lv_has ls 4 [(0, .ref (gB G + a0)), (1, .int l1)]) : W p l e rmX0_findAbove s m args below meth c H locs 0 0 (MQ below (Qv G z') args s 0 0 (AA G)) (F0 m 2 ls []) := by
  have hx := C.1
  have hb := C.2.1
  unfold bX0_findAbove_2 at h
  refine lv_iload_n hx hb dX0_findAbove_2 rfl (lv_at hl 1 rfl) ?_
  refine lv_aload_n hx hb dX0_findAbove_3 rfl (lv_at hl 0 rfl) ?_
  obtain ⟨x4, hg, h⟩ := ob h
  refine wz_gI C hW flX0_58 hg dX0_findAbove_4 ?_
  refine lv_icmp_ge (tgt := 64) hx hb dX0_findAbove_7 (by decide) (fun c7 => ?_) (fun c7 => ?_)
  · have h := ite_t c7 h
    exact wz_vretE C hlk hr (Option.some.inj h) hW dX0_findAbove_64
  · have h := ite_f c7 h
    refine lv_aload_n hx hb dX0_findAbove_10 rfl (lv_at hl 0 rfl) ?_
    obtain ⟨b11, hg, h⟩ := ob h
    refine wz_gN C hW flX0_21 hg dX0_findAbove_11 ?_
    refine lv_iload_n hx hb dX0_findAbove_14 rfl (lv_at hl 1 rfl) ?_
    obtain ⟨x15, hg, h⟩ := ob h
    refine wz_ald C hW hg dX0_findAbove_15 ?_
    refine lv_istore_n (lv' := [(2, .int x15), (0, .ref (gB G + a0)), (1, .int l1)]) hx hb dX0_findAbove_16 rfl hl (by decide) rfl (fun ls hl => ?_)
    refine lv_iconst (v := 0) hx hb dX0_findAbove_17 (by decide) ?_
    refine lv_istore_n (lv' := [(3, .int (0 : Int32)), (2, .int x15), (0, .ref (gB G + a0)), (1, .int l1)]) hx hb dX0_findAbove_18 rfl hl (by decide) rfl (fun ls hl => ?_)
    exact klX0_findAbove_19 C hlk hr k2 hk2 FU a0 l1 x15 (0 : Int32) z _ _ _ h hW (lv_sub hl [2, 3, 1, 0] rfl)
def fX0_findAbove_2 : Nat → Nat → Int32 → AH → Option AH
  | 0, _, _, _ => none
  | n + 1, a0, l1, z => bX0_findAbove_2 (fX0_findAbove_2 n) a0 l1 z
theorem klX0_findAbove_2 {p : Program} {l : Launch} {e : Env} {s : State} {m : MethodId} {args : Array Value} {below : List Frame} {meth : Method} {c : Code} {G : GW} {z' : AH} (C : Cx p m c cX0_findAbove 4 s args RX0 G) (hlk : meth.locks = false) (hr : meth.sig.returnType = none) : ∀ (n : Nat) (a0 : Nat) (l1 : Int32) (z : AH) (H : Heap) (locs : List Loc) (ls : Array Slot), fX0_findAbove_2 n a0 l1 z = some z' → Wb G z s H locs → lv_has ls 4 [(0, .ref (gB G + a0)), (1, .int l1)] → W p l e rmX0_findAbove s m args below meth c H locs 0 0 (MQ below (Qv G z') args s 0 0 (AA G)) (F0 m 2 ls []) := by
  intro n
  induction n with
  | zero => intro a0 l1 z H locs ls h; have h : (none : Option AH) = some z' := h; cases h
  | succ n ih => intro a0 l1 z H locs ls h hW hl; exact kbX0_findAbove_2 C hlk hr (fX0_findAbove_2 n) (fun a0 l1 z H locs ls h hW hl => ih a0 l1 z H locs ls h hW hl) a0 l1 h hW hl
def fX0_findAbove (a0 : Nat) (z : AH) : Option AH :=
  if isO 0 z a0 = true then
    fX0_findAbove_2 FU a0 (0 : Int32) z
  else none
set_option maxHeartbeats 4000000 in
set_option maxRecDepth 100000 in
theorem ctX0_findAbove (l : Launch) (G : GW) (a0 : Nat) (z : AH) {z' : AH} (h : fX0_findAbove a0 z = some z') : Met l yX0_findAbove (wy yX0_findAbove cX0_findAbove 4 none) rmX0_findAbove (Pz G [.ref (gB G + a0)] z) (Qv G z') 0 0 (AA G) := by
  refine wz_ent (own := RX0) (by decide +kernel) rfl (fun p e s m below meth c ls C hlk hr hin hW hl => ?_) (Nat.le_of_ble_eq_true rfl)
  have hl : lv_has ls 4 [(0, .ref (gB G + a0))] := hl
  have hx := C.1
  have hb := C.2.1
  unfold fX0_findAbove at h
  obtain ⟨-, h⟩ := ck h
  refine lv_iconst (v := 0) hx hb dX0_findAbove_0 (by decide) ?_
  refine lv_istore_n (lv' := [(1, .int (0 : Int32)), (0, .ref (gB G + a0))]) hx hb dX0_findAbove_1 rfl hl (by decide) rfl (fun ls hl => ?_)
  exact klX0_findAbove_2 C hlk hr FU a0 (0 : Int32) z _ _ _ h hW (lv_sub hl [1, 0] rfl)
theorem dX9_pick_0 : decode cX9_pick 0 = .ok (.iload_n 2, 1) := by decide +kernel
theorem dX9_pick_1 : decode cX9_pick 1 = .ok (.ifCond .lt 20, 3) := by decide +kernel
theorem dX9_pick_4 : decode cX9_pick 4 = .ok (.iload_n 2, 1) := by decide +kernel
theorem dX9_pick_5 : decode cX9_pick 5 = .ok (.iload_n 1, 1) := by decide +kernel
theorem dX9_pick_6 : decode cX9_pick 6 = .ok (.if_icmp .ge 15, 3) := by decide +kernel
theorem dX9_pick_9 : decode cX9_pick 9 = .ok (.iload_n 2, 1) := by decide +kernel
theorem dX9_pick_10 : decode cX9_pick 10 = .ok (.aload_n 0, 1) := by decide +kernel
theorem dX9_pick_11 : decode cX9_pick 11 = .ok (.arraylength, 1) := by decide +kernel
theorem dX9_pick_12 : decode cX9_pick 12 = .ok (.if_icmp .ge 9, 3) := by decide +kernel
theorem dX9_pick_15 : decode cX9_pick 15 = .ok (.aload_n 0, 1) := by decide +kernel
theorem dX9_pick_16 : decode cX9_pick 16 = .ok (.iload_n 2, 1) := by decide +kernel
theorem dX9_pick_17 : decode cX9_pick 17 = .ok (.iaload, 1) := by decide +kernel
theorem dX9_pick_18 : decode cX9_pick 18 = .ok (.goto 5, 3) := by decide +kernel
theorem dX9_pick_21 : decode cX9_pick 21 = .ok (.bipush (-2), 2) := by decide +kernel
theorem dX9_pick_23 : decode cX9_pick 23 = .ok (.ireturn, 1) := by decide +kernel
abbrev rmX9_pick : Room := { frames := 0, cells := 0, slots := 0, locals := 0 }
def fX9_pick (a0 : Nat) (l1 : Int32) (l2 : Int32) (z : AH) : Option (Int32) :=
  if l2 < (0 : Int32) then (
    some (-2 : Int32)
  ) else (
    if l1 ≤ l2 then (
      some (-2 : Int32)
    ) else (
      (lnI 0 z a0).bind fun x11 =>
      if x11 ≤ l2 then (
        some (-2 : Int32)
      ) else (
        (ixI 0 z a0 l2).bind fun x17 =>
        some x17
      )
    )
  )
set_option maxHeartbeats 4000000 in
set_option maxRecDepth 100000 in
theorem ctX9_pick (l : Launch) (G : GW) (a0 : Nat) (l1 : Int32) (l2 : Int32) (z : AH) {r : Int32} (h : fX9_pick a0 l1 l2 z = some r) : Met l yX9_pick (wy yX9_pick cX9_pick 3 (some .int)) rmX9_pick (Pz G [.ref (gB G + a0), .int l1, .int l2] z) (Qi G r z) 0 0 (AA G) := by
  refine wz_ent (own := RX9) (by decide +kernel) rfl (fun p e s m below meth c ls C hlk hr hin hW hl => ?_) (Nat.le_of_ble_eq_true rfl)
  have hl : lv_has ls 3 [(0, .ref (gB G + a0)), (1, .int l1), (2, .int l2)] := hl
  have hx := C.1
  have hb := C.2.1
  unfold fX9_pick at h
  refine lv_iload_n hx hb dX9_pick_0 rfl (lv_at hl 2 rfl) ?_
  refine lv_if_lt (tgt := 21) hx hb dX9_pick_1 (by decide) (fun c1 => ?_) (fun c1 => ?_)
  · have h := ite_t c1 h
    refine lv_bipush (v := -2) hx hb dX9_pick_21 (by decide) ?_
    exact wz_iretE C hlk hr (Option.some.inj h) rfl hW dX9_pick_23
  · have h := ite_f c1 h
    refine lv_iload_n hx hb dX9_pick_4 rfl (lv_at hl 2 rfl) ?_
    refine lv_iload_n hx hb dX9_pick_5 rfl (lv_at hl 1 rfl) ?_
    refine lv_icmp_ge (tgt := 21) hx hb dX9_pick_6 (by decide) (fun c6 => ?_) (fun c6 => ?_)
    · have h := ite_t c6 h
      refine lv_bipush (v := -2) hx hb dX9_pick_21 (by decide) ?_
      exact wz_iretE C hlk hr (Option.some.inj h) rfl hW dX9_pick_23
    · have h := ite_f c6 h
      refine lv_iload_n hx hb dX9_pick_9 rfl (lv_at hl 2 rfl) ?_
      refine lv_aload_n hx hb dX9_pick_10 rfl (lv_at hl 0 rfl) ?_
      obtain ⟨x11, hg, h⟩ := ob h
      refine wz_len C hW hg dX9_pick_11 ?_
      refine lv_icmp_ge (tgt := 21) hx hb dX9_pick_12 (by decide) (fun c12 => ?_) (fun c12 => ?_)
      · have h := ite_t c12 h
        refine lv_bipush (v := -2) hx hb dX9_pick_21 (by decide) ?_
        exact wz_iretE C hlk hr (Option.some.inj h) rfl hW dX9_pick_23
      · have h := ite_f c12 h
        refine lv_aload_n hx hb dX9_pick_15 rfl (lv_at hl 0 rfl) ?_
        refine lv_iload_n hx hb dX9_pick_16 rfl (lv_at hl 2 rfl) ?_
        obtain ⟨x17, hg, h⟩ := ob h
        refine wz_ald C hW hg dX9_pick_17 ?_
        refine lv_goto (tgt := 23) hx hb dX9_pick_18 (by decide) ?_
        exact wz_iretE C hlk hr (Option.some.inj h) rfl hW dX9_pick_23
theorem lNX0_80 : LN RX0 80 yX9_pick cX9_pick 3 (some .int) 3 := ⟨by decide +kernel, tw 523 (by decide +kernel) rfl, tw 120 (by decide +kernel) rfl, tw 524 (by decide +kernel) rfl, ⟨by decide +kernel, by decide +kernel, by decide +kernel⟩⟩
theorem dX0_sightOfLeft_0 : decode cX0_sightOfLeft 0 = .ok (.iconst 0, 1) := by decide +kernel
theorem dX0_sightOfLeft_1 : decode cX0_sightOfLeft 1 = .ok (.aload_n 0, 1) := by decide +kernel
theorem dX0_sightOfLeft_2 : decode cX0_sightOfLeft 2 = .ok (.getfield 36, 3) := by decide +kernel
theorem dX0_sightOfLeft_5 : decode cX0_sightOfLeft 5 = .ok (.aload_n 0, 1) := by decide +kernel
theorem dX0_sightOfLeft_6 : decode cX0_sightOfLeft 6 = .ok (.getfield 68, 3) := by decide +kernel
theorem dX0_sightOfLeft_9 : decode cX0_sightOfLeft 9 = .ok (.aload_n 0, 1) := by decide +kernel
theorem dX0_sightOfLeft_10 : decode cX0_sightOfLeft 10 = .ok (.getfield 42, 3) := by decide +kernel
theorem dX0_sightOfLeft_13 : decode cX0_sightOfLeft 13 = .ok (.aload_n 0, 1) := by decide +kernel
theorem dX0_sightOfLeft_14 : decode cX0_sightOfLeft 14 = .ok (.getfield 74, 3) := by decide +kernel
theorem dX0_sightOfLeft_17 : decode cX0_sightOfLeft 17 = .ok (.iload_n 1, 1) := by decide +kernel
theorem dX0_sightOfLeft_18 : decode cX0_sightOfLeft 18 = .ok (.invokestatic 80, 3) := by decide +kernel
theorem dX0_sightOfLeft_21 : decode cX0_sightOfLeft 21 = .ok (.invokestatic 80, 3) := by decide +kernel
theorem dX0_sightOfLeft_24 : decode cX0_sightOfLeft 24 = .ok (.invokestatic 84, 3) := by decide +kernel
theorem dX0_sightOfLeft_27 : decode cX0_sightOfLeft 27 = .ok (.ireturn, 1) := by decide +kernel
abbrev rmX0_sightOfLeft : Room := { frames := 1, cells := 0, slots := 0, locals := 24 }
def fX0_sightOfLeft (a0 : Nat) (l1 : Int32) (z : AH) : Option (Int32) :=
  if isO 0 z a0 = true then
    (gN 0 12 z a0).bind fun b2 =>
    (gI 0 10 z a0).bind fun x6 =>
    (gN 0 15 z a0).bind fun b10 =>
    (gI 0 14 z a0).bind fun x14 =>
    (fX9_pick b10 x14 l1 z).bind fun x18 =>
    (fX9_pick b2 x6 x18 z).bind fun x21 =>
    some (imax (0 : Int32) x21)
  else none
set_option maxHeartbeats 4000000 in
set_option maxRecDepth 100000 in
theorem ctX0_sightOfLeft (l : Launch) (G : GW) (a0 : Nat) (l1 : Int32) (z : AH) {r : Int32} (h : fX0_sightOfLeft a0 l1 z = some r) : Met l yX0_sightOfLeft (wy yX0_sightOfLeft cX0_sightOfLeft 2 (some .int)) rmX0_sightOfLeft (Pz G [.ref (gB G + a0), .int l1] z) (Qi G r z) 0 0 (AA G) := by
  refine wz_ent (own := RX0) (by decide +kernel) rfl (fun p e s m below meth c ls C hlk hr hin hW hl => ?_) (Nat.le_of_ble_eq_true rfl)
  have hl : lv_has ls 2 [(0, .ref (gB G + a0)), (1, .int l1)] := hl
  have hx := C.1
  have hb := C.2.1
  unfold fX0_sightOfLeft at h
  obtain ⟨-, h⟩ := ck h
  refine lv_iconst (v := 0) hx hb dX0_sightOfLeft_0 (by decide) ?_
  refine lv_aload_n hx hb dX0_sightOfLeft_1 rfl (lv_at hl 0 rfl) ?_
  obtain ⟨b2, hg, h⟩ := ob h
  refine wz_gN C hW flX0_36 hg dX0_sightOfLeft_2 ?_
  refine lv_aload_n hx hb dX0_sightOfLeft_5 rfl (lv_at hl 0 rfl) ?_
  obtain ⟨x6, hg, h⟩ := ob h
  refine wz_gI C hW flX0_68 hg dX0_sightOfLeft_6 ?_
  refine lv_aload_n hx hb dX0_sightOfLeft_9 rfl (lv_at hl 0 rfl) ?_
  obtain ⟨b10, hg, h⟩ := ob h
  refine wz_gN C hW flX0_42 hg dX0_sightOfLeft_10 ?_
  refine lv_aload_n hx hb dX0_sightOfLeft_13 rfl (lv_at hl 0 rfl) ?_
  obtain ⟨x14, hg, h⟩ := ob h
  refine wz_gI C hW flX0_74 hg dX0_sightOfLeft_14 ?_
  refine lv_iload_n hx hb dX0_sightOfLeft_17 rfl (lv_at hl 1 rfl) ?_
  obtain ⟨x18, hq, h⟩ := ob h
  refine wz_rI (c' := 0) (s' := 0) hW (wz_runN (rest := [.int x6, .ref (gB G + b2), .int (0 : Int32)]) C hW lNX0_80 (ctX9_pick l G b10 x14 l1 z hq) ⟨⟨rfl, rfl⟩, Nat.le_of_ble_eq_true rfl, Nat.le_of_ble_eq_true rfl⟩ rfl hl.1 rfl (Nat.le_of_ble_eq_true rfl) dX0_sightOfLeft_18 ⟨Nat.le_of_ble_eq_true rfl, Nat.le_of_ble_eq_true rfl⟩) rfl rfl (fun H locs hW => ?_)
  obtain ⟨x21, hq, h⟩ := ob h
  refine wz_rI (c' := 0) (s' := 0) hW (wz_runN (rest := [.int (0 : Int32)]) C hW lNX0_80 (ctX9_pick l G b2 x6 x18 z hq) ⟨⟨rfl, rfl⟩, Nat.le_of_ble_eq_true rfl, Nat.le_of_ble_eq_true rfl⟩ rfl hl.1 rfl (Nat.le_of_ble_eq_true rfl) dX0_sightOfLeft_21 ⟨Nat.le_of_ble_eq_true rfl, Nat.le_of_ble_eq_true rfl⟩) rfl rfl (fun H locs hW => ?_)
  refine wz_max ⟨tw 859 (by decide +kernel) rfl, tw 733 (by decide +kernel) rfl, tw 129 (by decide +kernel) rfl, tw 734 (by decide +kernel) rfl⟩ C hl.1 ⟨⟨Nat.le_of_ble_eq_true rfl, Nat.le_of_ble_eq_true rfl⟩, Nat.le_of_ble_eq_true rfl, Nat.le_of_ble_eq_true rfl⟩ (Nat.le_of_ble_eq_true rfl) dX0_sightOfLeft_24 ?_
  exact wz_iretE C hlk hr (Option.some.inj h) rfl hW dX0_sightOfLeft_27
theorem dX0_sightOfRight_0 : decode cX0_sightOfRight 0 = .ok (.iconst 0, 1) := by decide +kernel
theorem dX0_sightOfRight_1 : decode cX0_sightOfRight 1 = .ok (.aload_n 0, 1) := by decide +kernel
theorem dX0_sightOfRight_2 : decode cX0_sightOfRight 2 = .ok (.getfield 39, 3) := by decide +kernel
theorem dX0_sightOfRight_5 : decode cX0_sightOfRight 5 = .ok (.aload_n 0, 1) := by decide +kernel
theorem dX0_sightOfRight_6 : decode cX0_sightOfRight 6 = .ok (.getfield 71, 3) := by decide +kernel
theorem dX0_sightOfRight_9 : decode cX0_sightOfRight 9 = .ok (.aload_n 0, 1) := by decide +kernel
theorem dX0_sightOfRight_10 : decode cX0_sightOfRight 10 = .ok (.getfield 45, 3) := by decide +kernel
theorem dX0_sightOfRight_13 : decode cX0_sightOfRight 13 = .ok (.aload_n 0, 1) := by decide +kernel
theorem dX0_sightOfRight_14 : decode cX0_sightOfRight 14 = .ok (.getfield 74, 3) := by decide +kernel
theorem dX0_sightOfRight_17 : decode cX0_sightOfRight 17 = .ok (.iload_n 1, 1) := by decide +kernel
theorem dX0_sightOfRight_18 : decode cX0_sightOfRight 18 = .ok (.invokestatic 80, 3) := by decide +kernel
theorem dX0_sightOfRight_21 : decode cX0_sightOfRight 21 = .ok (.invokestatic 80, 3) := by decide +kernel
theorem dX0_sightOfRight_24 : decode cX0_sightOfRight 24 = .ok (.invokestatic 84, 3) := by decide +kernel
theorem dX0_sightOfRight_27 : decode cX0_sightOfRight 27 = .ok (.ireturn, 1) := by decide +kernel
abbrev rmX0_sightOfRight : Room := { frames := 1, cells := 0, slots := 0, locals := 24 }
def fX0_sightOfRight (a0 : Nat) (l1 : Int32) (z : AH) : Option (Int32) :=
  if isO 0 z a0 = true then
    (gN 0 13 z a0).bind fun b2 =>
    (gI 0 11 z a0).bind fun x6 =>
    (gN 0 16 z a0).bind fun b10 =>
    (gI 0 14 z a0).bind fun x14 =>
    (fX9_pick b10 x14 l1 z).bind fun x18 =>
    (fX9_pick b2 x6 x18 z).bind fun x21 =>
    some (imax (0 : Int32) x21)
  else none
set_option maxHeartbeats 4000000 in
set_option maxRecDepth 100000 in
theorem ctX0_sightOfRight (l : Launch) (G : GW) (a0 : Nat) (l1 : Int32) (z : AH) {r : Int32} (h : fX0_sightOfRight a0 l1 z = some r) : Met l yX0_sightOfRight (wy yX0_sightOfRight cX0_sightOfRight 2 (some .int)) rmX0_sightOfRight (Pz G [.ref (gB G + a0), .int l1] z) (Qi G r z) 0 0 (AA G) := by
  refine wz_ent (own := RX0) (by decide +kernel) rfl (fun p e s m below meth c ls C hlk hr hin hW hl => ?_) (Nat.le_of_ble_eq_true rfl)
  have hl : lv_has ls 2 [(0, .ref (gB G + a0)), (1, .int l1)] := hl
  have hx := C.1
  have hb := C.2.1
  unfold fX0_sightOfRight at h
  obtain ⟨-, h⟩ := ck h
  refine lv_iconst (v := 0) hx hb dX0_sightOfRight_0 (by decide) ?_
  refine lv_aload_n hx hb dX0_sightOfRight_1 rfl (lv_at hl 0 rfl) ?_
  obtain ⟨b2, hg, h⟩ := ob h
  refine wz_gN C hW flX0_39 hg dX0_sightOfRight_2 ?_
  refine lv_aload_n hx hb dX0_sightOfRight_5 rfl (lv_at hl 0 rfl) ?_
  obtain ⟨x6, hg, h⟩ := ob h
  refine wz_gI C hW flX0_71 hg dX0_sightOfRight_6 ?_
  refine lv_aload_n hx hb dX0_sightOfRight_9 rfl (lv_at hl 0 rfl) ?_
  obtain ⟨b10, hg, h⟩ := ob h
  refine wz_gN C hW flX0_45 hg dX0_sightOfRight_10 ?_
  refine lv_aload_n hx hb dX0_sightOfRight_13 rfl (lv_at hl 0 rfl) ?_
  obtain ⟨x14, hg, h⟩ := ob h
  refine wz_gI C hW flX0_74 hg dX0_sightOfRight_14 ?_
  refine lv_iload_n hx hb dX0_sightOfRight_17 rfl (lv_at hl 1 rfl) ?_
  obtain ⟨x18, hq, h⟩ := ob h
  refine wz_rI (c' := 0) (s' := 0) hW (wz_runN (rest := [.int x6, .ref (gB G + b2), .int (0 : Int32)]) C hW lNX0_80 (ctX9_pick l G b10 x14 l1 z hq) ⟨⟨rfl, rfl⟩, Nat.le_of_ble_eq_true rfl, Nat.le_of_ble_eq_true rfl⟩ rfl hl.1 rfl (Nat.le_of_ble_eq_true rfl) dX0_sightOfRight_18 ⟨Nat.le_of_ble_eq_true rfl, Nat.le_of_ble_eq_true rfl⟩) rfl rfl (fun H locs hW => ?_)
  obtain ⟨x21, hq, h⟩ := ob h
  refine wz_rI (c' := 0) (s' := 0) hW (wz_runN (rest := [.int (0 : Int32)]) C hW lNX0_80 (ctX9_pick l G b2 x6 x18 z hq) ⟨⟨rfl, rfl⟩, Nat.le_of_ble_eq_true rfl, Nat.le_of_ble_eq_true rfl⟩ rfl hl.1 rfl (Nat.le_of_ble_eq_true rfl) dX0_sightOfRight_21 ⟨Nat.le_of_ble_eq_true rfl, Nat.le_of_ble_eq_true rfl⟩) rfl rfl (fun H locs hW => ?_)
  refine wz_max ⟨tw 859 (by decide +kernel) rfl, tw 733 (by decide +kernel) rfl, tw 129 (by decide +kernel) rfl, tw 734 (by decide +kernel) rfl⟩ C hl.1 ⟨⟨Nat.le_of_ble_eq_true rfl, Nat.le_of_ble_eq_true rfl⟩, Nat.le_of_ble_eq_true rfl, Nat.le_of_ble_eq_true rfl⟩ (Nat.le_of_ble_eq_true rfl) dX0_sightOfRight_24 ?_
  exact wz_iretE C hlk hr (Option.some.inj h) rfl hW dX0_sightOfRight_27
theorem dX0_sizeOf_0 : decode cX0_sizeOf 0 = .ok (.iload_n 1, 1) := by decide +kernel
theorem dX0_sizeOf_1 : decode cX0_sizeOf 1 = .ok (.tableswitch 69 0 5 #[39, 44, 49, 54, 59, 64], 39) := by decide +kernel
theorem dX0_sizeOf_40 : decode cX0_sizeOf 40 = .ok (.aload_n 0, 1) := by decide +kernel
theorem dX0_sizeOf_41 : decode cX0_sizeOf 41 = .ok (.getfield 58, 3) := by decide +kernel
theorem dX0_sizeOf_44 : decode cX0_sizeOf 44 = .ok (.ireturn, 1) := by decide +kernel
theorem dX0_sizeOf_45 : decode cX0_sizeOf 45 = .ok (.aload_n 0, 1) := by decide +kernel
theorem dX0_sizeOf_46 : decode cX0_sizeOf 46 = .ok (.getfield 61, 3) := by decide +kernel
theorem dX0_sizeOf_49 : decode cX0_sizeOf 49 = .ok (.ireturn, 1) := by decide +kernel
theorem dX0_sizeOf_50 : decode cX0_sizeOf 50 = .ok (.aload_n 0, 1) := by decide +kernel
theorem dX0_sizeOf_51 : decode cX0_sizeOf 51 = .ok (.getfield 68, 3) := by decide +kernel
theorem dX0_sizeOf_54 : decode cX0_sizeOf 54 = .ok (.ireturn, 1) := by decide +kernel
theorem dX0_sizeOf_55 : decode cX0_sizeOf 55 = .ok (.aload_n 0, 1) := by decide +kernel
theorem dX0_sizeOf_56 : decode cX0_sizeOf 56 = .ok (.getfield 71, 3) := by decide +kernel
theorem dX0_sizeOf_59 : decode cX0_sizeOf 59 = .ok (.ireturn, 1) := by decide +kernel
theorem dX0_sizeOf_60 : decode cX0_sizeOf 60 = .ok (.aload_n 0, 1) := by decide +kernel
theorem dX0_sizeOf_61 : decode cX0_sizeOf 61 = .ok (.getfield 74, 3) := by decide +kernel
theorem dX0_sizeOf_64 : decode cX0_sizeOf 64 = .ok (.ireturn, 1) := by decide +kernel
theorem dX0_sizeOf_65 : decode cX0_sizeOf 65 = .ok (.aload_n 0, 1) := by decide +kernel
theorem dX0_sizeOf_66 : decode cX0_sizeOf 66 = .ok (.getfield 54, 3) := by decide +kernel
theorem dX0_sizeOf_69 : decode cX0_sizeOf 69 = .ok (.ireturn, 1) := by decide +kernel
theorem dX0_sizeOf_70 : decode cX0_sizeOf 70 = .ok (.bipush (-2), 2) := by decide +kernel
theorem dX0_sizeOf_72 : decode cX0_sizeOf 72 = .ok (.ireturn, 1) := by decide +kernel
abbrev rmX0_sizeOf : Room := { frames := 0, cells := 0, slots := 0, locals := 0 }
def fX0_sizeOf (a0 : Nat) (l1 : Int32) (z : AH) : Option (Int32) :=
  if isO 0 z a0 = true then
    if l1 = (0 : Int32) then (
      (gI 0 0 z a0).bind fun x41 =>
      some x41
    ) else
    if l1 = (1 : Int32) then (
      (gI 0 7 z a0).bind fun x46 =>
      some x46
    ) else
    if l1 = (2 : Int32) then (
      (gI 0 10 z a0).bind fun x51 =>
      some x51
    ) else
    if l1 = (3 : Int32) then (
      (gI 0 11 z a0).bind fun x56 =>
      some x56
    ) else
    if l1 = (4 : Int32) then (
      (gI 0 14 z a0).bind fun x61 =>
      some x61
    ) else
    if l1 = (5 : Int32) then (
      (gI 0 19 z a0).bind fun x66 =>
      some x66
    ) else
    some (-2 : Int32)
  else none
set_option maxHeartbeats 4000000 in
set_option maxRecDepth 100000 in
theorem ctX0_sizeOf (l : Launch) (G : GW) (a0 : Nat) (l1 : Int32) (z : AH) {r : Int32} (h : fX0_sizeOf a0 l1 z = some r) : Met l yX0_sizeOf (wy yX0_sizeOf cX0_sizeOf 2 (some .int)) rmX0_sizeOf (Pz G [.ref (gB G + a0), .int l1] z) (Qi G r z) 0 0 (AA G) := by
  refine wz_ent (own := RX0) (by decide +kernel) rfl (fun p e s m below meth c ls C hlk hr hin hW hl => ?_) (Nat.le_of_ble_eq_true rfl)
  have hl : lv_has ls 2 [(0, .ref (gB G + a0)), (1, .int l1)] := hl
  have hx := C.1
  have hb := C.2.1
  unfold fX0_sizeOf at h
  obtain ⟨-, h⟩ := ck h
  refine lv_iload_n hx hb dX0_sizeOf_0 rfl (lv_at hl 1 rfl) ?_
  by_cases c1_0 : l1 = (0 : Int32)
  · have h := ite_t c1_0 h
    refine wz_sw (0 : Int32) (tgt := 40) hx hb dX0_sizeOf_1 c1_0 (by decide) rfl (by decide) ?_
    refine lv_aload_n hx hb dX0_sizeOf_40 rfl (lv_at hl 0 rfl) ?_
    obtain ⟨x41, hg, h⟩ := ob h
    refine wz_gI C hW flX0_58 hg dX0_sizeOf_41 ?_
    exact wz_iretE C hlk hr (Option.some.inj h) rfl hW dX0_sizeOf_44
  have h := ite_f c1_0 h
  by_cases c1_1 : l1 = (1 : Int32)
  · have h := ite_t c1_1 h
    refine wz_sw (1 : Int32) (tgt := 45) hx hb dX0_sizeOf_1 c1_1 (by decide) rfl (by decide) ?_
    refine lv_aload_n hx hb dX0_sizeOf_45 rfl (lv_at hl 0 rfl) ?_
    obtain ⟨x46, hg, h⟩ := ob h
    refine wz_gI C hW flX0_61 hg dX0_sizeOf_46 ?_
    exact wz_iretE C hlk hr (Option.some.inj h) rfl hW dX0_sizeOf_49
  have h := ite_f c1_1 h
  by_cases c1_2 : l1 = (2 : Int32)
  · have h := ite_t c1_2 h
    refine wz_sw (2 : Int32) (tgt := 50) hx hb dX0_sizeOf_1 c1_2 (by decide) rfl (by decide) ?_
    refine lv_aload_n hx hb dX0_sizeOf_50 rfl (lv_at hl 0 rfl) ?_
    obtain ⟨x51, hg, h⟩ := ob h
    refine wz_gI C hW flX0_68 hg dX0_sizeOf_51 ?_
    exact wz_iretE C hlk hr (Option.some.inj h) rfl hW dX0_sizeOf_54
  have h := ite_f c1_2 h
  by_cases c1_3 : l1 = (3 : Int32)
  · have h := ite_t c1_3 h
    refine wz_sw (3 : Int32) (tgt := 55) hx hb dX0_sizeOf_1 c1_3 (by decide) rfl (by decide) ?_
    refine lv_aload_n hx hb dX0_sizeOf_55 rfl (lv_at hl 0 rfl) ?_
    obtain ⟨x56, hg, h⟩ := ob h
    refine wz_gI C hW flX0_71 hg dX0_sizeOf_56 ?_
    exact wz_iretE C hlk hr (Option.some.inj h) rfl hW dX0_sizeOf_59
  have h := ite_f c1_3 h
  by_cases c1_4 : l1 = (4 : Int32)
  · have h := ite_t c1_4 h
    refine wz_sw (4 : Int32) (tgt := 60) hx hb dX0_sizeOf_1 c1_4 (by decide) rfl (by decide) ?_
    refine lv_aload_n hx hb dX0_sizeOf_60 rfl (lv_at hl 0 rfl) ?_
    obtain ⟨x61, hg, h⟩ := ob h
    refine wz_gI C hW flX0_74 hg dX0_sizeOf_61 ?_
    exact wz_iretE C hlk hr (Option.some.inj h) rfl hW dX0_sizeOf_64
  have h := ite_f c1_4 h
  by_cases c1_5 : l1 = (5 : Int32)
  · have h := ite_t c1_5 h
    refine wz_sw (5 : Int32) (tgt := 65) hx hb dX0_sizeOf_1 c1_5 (by decide) rfl (by decide) ?_
    refine lv_aload_n hx hb dX0_sizeOf_65 rfl (lv_at hl 0 rfl) ?_
    obtain ⟨x66, hg, h⟩ := ob h
    refine wz_gI C hW flX0_54 hg dX0_sizeOf_66 ?_
    exact wz_iretE C hlk hr (Option.some.inj h) rfl hW dX0_sizeOf_69
  have h := ite_f c1_5 h
  refine lv_tableOut (tgt := 70) hx hb dX0_sizeOf_1 (by have g0 := i32_ne c1_0 (z := 0) (by decide); have g1 := i32_ne c1_1 (z := 1) (by decide); have g2 := i32_ne c1_2 (z := 2) (by decide); have g3 := i32_ne c1_3 (z := 3) (by decide); have g4 := i32_ne c1_4 (z := 4) (by decide); have g5 := i32_ne c1_5 (z := 5) (by decide); omega) (by decide) ?_
  refine lv_bipush (v := -2) hx hb dX0_sizeOf_70 (by decide) ?_
  exact wz_iretE C hlk hr (Option.some.inj h) rfl hW dX0_sizeOf_72
theorem dX0_ofThing_0 : decode cX0_ofThing 0 = .ok (.iload_n 1, 1) := by decide +kernel
theorem dX0_ofThing_1 : decode cX0_ofThing 1 = .ok (.tableswitch 66 1 3 #[27, 40, 53], 27) := by decide +kernel
theorem dX0_ofThing_28 : decode cX0_ofThing 28 = .ok (.aload_n 0, 1) := by decide +kernel
theorem dX0_ofThing_29 : decode cX0_ofThing 29 = .ok (.getfield 11, 3) := by decide +kernel
theorem dX0_ofThing_32 : decode cX0_ofThing 32 = .ok (.aload_n 0, 1) := by decide +kernel
theorem dX0_ofThing_33 : decode cX0_ofThing 33 = .ok (.getfield 58, 3) := by decide +kernel
theorem dX0_ofThing_36 : decode cX0_ofThing 36 = .ok (.iload_n 2, 1) := by decide +kernel
theorem dX0_ofThing_37 : decode cX0_ofThing 37 = .ok (.invokestatic 80, 3) := by decide +kernel
theorem dX0_ofThing_40 : decode cX0_ofThing 40 = .ok (.ireturn, 1) := by decide +kernel
theorem dX0_ofThing_41 : decode cX0_ofThing 41 = .ok (.aload_n 0, 1) := by decide +kernel
theorem dX0_ofThing_42 : decode cX0_ofThing 42 = .ok (.getfield 15, 3) := by decide +kernel
theorem dX0_ofThing_45 : decode cX0_ofThing 45 = .ok (.aload_n 0, 1) := by decide +kernel
theorem dX0_ofThing_46 : decode cX0_ofThing 46 = .ok (.getfield 58, 3) := by decide +kernel
theorem dX0_ofThing_49 : decode cX0_ofThing 49 = .ok (.iload_n 2, 1) := by decide +kernel
theorem dX0_ofThing_50 : decode cX0_ofThing 50 = .ok (.invokestatic 80, 3) := by decide +kernel
theorem dX0_ofThing_53 : decode cX0_ofThing 53 = .ok (.ireturn, 1) := by decide +kernel
theorem dX0_ofThing_54 : decode cX0_ofThing 54 = .ok (.aload_n 0, 1) := by decide +kernel
theorem dX0_ofThing_55 : decode cX0_ofThing 55 = .ok (.getfield 18, 3) := by decide +kernel
theorem dX0_ofThing_58 : decode cX0_ofThing 58 = .ok (.aload_n 0, 1) := by decide +kernel
theorem dX0_ofThing_59 : decode cX0_ofThing 59 = .ok (.getfield 58, 3) := by decide +kernel
theorem dX0_ofThing_62 : decode cX0_ofThing 62 = .ok (.iload_n 2, 1) := by decide +kernel
theorem dX0_ofThing_63 : decode cX0_ofThing 63 = .ok (.invokestatic 80, 3) := by decide +kernel
theorem dX0_ofThing_66 : decode cX0_ofThing 66 = .ok (.ireturn, 1) := by decide +kernel
theorem dX0_ofThing_67 : decode cX0_ofThing 67 = .ok (.aload_n 0, 1) := by decide +kernel
theorem dX0_ofThing_68 : decode cX0_ofThing 68 = .ok (.getfield 21, 3) := by decide +kernel
theorem dX0_ofThing_71 : decode cX0_ofThing 71 = .ok (.aload_n 0, 1) := by decide +kernel
theorem dX0_ofThing_72 : decode cX0_ofThing 72 = .ok (.getfield 58, 3) := by decide +kernel
theorem dX0_ofThing_75 : decode cX0_ofThing 75 = .ok (.iload_n 2, 1) := by decide +kernel
theorem dX0_ofThing_76 : decode cX0_ofThing 76 = .ok (.invokestatic 80, 3) := by decide +kernel
theorem dX0_ofThing_79 : decode cX0_ofThing 79 = .ok (.ireturn, 1) := by decide +kernel
abbrev rmX0_ofThing : Room := { frames := 1, cells := 0, slots := 0, locals := 22 }
def fX0_ofThing (a0 : Nat) (l1 : Int32) (l2 : Int32) (z : AH) : Option (Int32) :=
  if isO 0 z a0 = true then
    if l1 = (1 : Int32) then (
      (gN 0 1 z a0).bind fun b29 =>
      (gI 0 0 z a0).bind fun x33 =>
      (fX9_pick b29 x33 l2 z).bind fun x37 =>
      some x37
    ) else
    if l1 = (2 : Int32) then (
      (gN 0 2 z a0).bind fun b42 =>
      (gI 0 0 z a0).bind fun x46 =>
      (fX9_pick b42 x46 l2 z).bind fun x50 =>
      some x50
    ) else
    if l1 = (3 : Int32) then (
      (gN 0 3 z a0).bind fun b55 =>
      (gI 0 0 z a0).bind fun x59 =>
      (fX9_pick b55 x59 l2 z).bind fun x63 =>
      some x63
    ) else
    (gN 0 4 z a0).bind fun b68 =>
    (gI 0 0 z a0).bind fun x72 =>
    (fX9_pick b68 x72 l2 z).bind fun x76 =>
    some x76
  else none
set_option maxHeartbeats 4000000 in
set_option maxRecDepth 100000 in
theorem ctX0_ofThing (l : Launch) (G : GW) (a0 : Nat) (l1 : Int32) (l2 : Int32) (z : AH) {r : Int32} (h : fX0_ofThing a0 l1 l2 z = some r) : Met l yX0_ofThing (wy yX0_ofThing cX0_ofThing 3 (some .int)) rmX0_ofThing (Pz G [.ref (gB G + a0), .int l1, .int l2] z) (Qi G r z) 0 0 (AA G) := by
  refine wz_ent (own := RX0) (by decide +kernel) rfl (fun p e s m below meth c ls C hlk hr hin hW hl => ?_) (Nat.le_of_ble_eq_true rfl)
  have hl : lv_has ls 3 [(0, .ref (gB G + a0)), (1, .int l1), (2, .int l2)] := hl
  have hx := C.1
  have hb := C.2.1
  unfold fX0_ofThing at h
  obtain ⟨-, h⟩ := ck h
  refine lv_iload_n hx hb dX0_ofThing_0 rfl (lv_at hl 1 rfl) ?_
  by_cases c1_0 : l1 = (1 : Int32)
  · have h := ite_t c1_0 h
    refine wz_sw (1 : Int32) (tgt := 28) hx hb dX0_ofThing_1 c1_0 (by decide) rfl (by decide) ?_
    refine lv_aload_n hx hb dX0_ofThing_28 rfl (lv_at hl 0 rfl) ?_
    obtain ⟨b29, hg, h⟩ := ob h
    refine wz_gN C hW flX0_11 hg dX0_ofThing_29 ?_
    refine lv_aload_n hx hb dX0_ofThing_32 rfl (lv_at hl 0 rfl) ?_
    obtain ⟨x33, hg, h⟩ := ob h
    refine wz_gI C hW flX0_58 hg dX0_ofThing_33 ?_
    refine lv_iload_n hx hb dX0_ofThing_36 rfl (lv_at hl 2 rfl) ?_
    obtain ⟨x37, hq, h⟩ := ob h
    refine wz_rI (c' := 0) (s' := 0) hW (wz_runN (rest := []) C hW lNX0_80 (ctX9_pick l G b29 x33 l2 z hq) ⟨⟨rfl, rfl⟩, Nat.le_of_ble_eq_true rfl, Nat.le_of_ble_eq_true rfl⟩ rfl hl.1 rfl (Nat.le_of_ble_eq_true rfl) dX0_ofThing_37 ⟨Nat.le_of_ble_eq_true rfl, Nat.le_of_ble_eq_true rfl⟩) rfl rfl (fun H locs hW => ?_)
    exact wz_iretE C hlk hr (Option.some.inj h) rfl hW dX0_ofThing_40
  have h := ite_f c1_0 h
  by_cases c1_1 : l1 = (2 : Int32)
  · have h := ite_t c1_1 h
    refine wz_sw (2 : Int32) (tgt := 41) hx hb dX0_ofThing_1 c1_1 (by decide) rfl (by decide) ?_
    refine lv_aload_n hx hb dX0_ofThing_41 rfl (lv_at hl 0 rfl) ?_
    obtain ⟨b42, hg, h⟩ := ob h
    refine wz_gN C hW flX0_15 hg dX0_ofThing_42 ?_
    refine lv_aload_n hx hb dX0_ofThing_45 rfl (lv_at hl 0 rfl) ?_
    obtain ⟨x46, hg, h⟩ := ob h
    refine wz_gI C hW flX0_58 hg dX0_ofThing_46 ?_
    refine lv_iload_n hx hb dX0_ofThing_49 rfl (lv_at hl 2 rfl) ?_
    obtain ⟨x50, hq, h⟩ := ob h
    refine wz_rI (c' := 0) (s' := 0) hW (wz_runN (rest := []) C hW lNX0_80 (ctX9_pick l G b42 x46 l2 z hq) ⟨⟨rfl, rfl⟩, Nat.le_of_ble_eq_true rfl, Nat.le_of_ble_eq_true rfl⟩ rfl hl.1 rfl (Nat.le_of_ble_eq_true rfl) dX0_ofThing_50 ⟨Nat.le_of_ble_eq_true rfl, Nat.le_of_ble_eq_true rfl⟩) rfl rfl (fun H locs hW => ?_)
    exact wz_iretE C hlk hr (Option.some.inj h) rfl hW dX0_ofThing_53
  have h := ite_f c1_1 h
  by_cases c1_2 : l1 = (3 : Int32)
  · have h := ite_t c1_2 h
    refine wz_sw (3 : Int32) (tgt := 54) hx hb dX0_ofThing_1 c1_2 (by decide) rfl (by decide) ?_
    refine lv_aload_n hx hb dX0_ofThing_54 rfl (lv_at hl 0 rfl) ?_
    obtain ⟨b55, hg, h⟩ := ob h
    refine wz_gN C hW flX0_18 hg dX0_ofThing_55 ?_
    refine lv_aload_n hx hb dX0_ofThing_58 rfl (lv_at hl 0 rfl) ?_
    obtain ⟨x59, hg, h⟩ := ob h
    refine wz_gI C hW flX0_58 hg dX0_ofThing_59 ?_
    refine lv_iload_n hx hb dX0_ofThing_62 rfl (lv_at hl 2 rfl) ?_
    obtain ⟨x63, hq, h⟩ := ob h
    refine wz_rI (c' := 0) (s' := 0) hW (wz_runN (rest := []) C hW lNX0_80 (ctX9_pick l G b55 x59 l2 z hq) ⟨⟨rfl, rfl⟩, Nat.le_of_ble_eq_true rfl, Nat.le_of_ble_eq_true rfl⟩ rfl hl.1 rfl (Nat.le_of_ble_eq_true rfl) dX0_ofThing_63 ⟨Nat.le_of_ble_eq_true rfl, Nat.le_of_ble_eq_true rfl⟩) rfl rfl (fun H locs hW => ?_)
    exact wz_iretE C hlk hr (Option.some.inj h) rfl hW dX0_ofThing_66
  have h := ite_f c1_2 h
  refine lv_tableOut (tgt := 67) hx hb dX0_ofThing_1 (by have g0 := i32_ne c1_0 (z := 1) (by decide); have g1 := i32_ne c1_1 (z := 2) (by decide); have g2 := i32_ne c1_2 (z := 3) (by decide); omega) (by decide) ?_
  refine lv_aload_n hx hb dX0_ofThing_67 rfl (lv_at hl 0 rfl) ?_
  obtain ⟨b68, hg, h⟩ := ob h
  refine wz_gN C hW flX0_21 hg dX0_ofThing_68 ?_
  refine lv_aload_n hx hb dX0_ofThing_71 rfl (lv_at hl 0 rfl) ?_
  obtain ⟨x72, hg, h⟩ := ob h
  refine wz_gI C hW flX0_58 hg dX0_ofThing_72 ?_
  refine lv_iload_n hx hb dX0_ofThing_75 rfl (lv_at hl 2 rfl) ?_
  obtain ⟨x76, hq, h⟩ := ob h
  refine wz_rI (c' := 0) (s' := 0) hW (wz_runN (rest := []) C hW lNX0_80 (ctX9_pick l G b68 x72 l2 z hq) ⟨⟨rfl, rfl⟩, Nat.le_of_ble_eq_true rfl, Nat.le_of_ble_eq_true rfl⟩ rfl hl.1 rfl (Nat.le_of_ble_eq_true rfl) dX0_ofThing_76 ⟨Nat.le_of_ble_eq_true rfl, Nat.le_of_ble_eq_true rfl⟩) rfl rfl (fun H locs hW => ?_)
  exact wz_iretE C hlk hr (Option.some.inj h) rfl hW dX0_ofThing_79
theorem dX0_ofEyeOrCouple_0 : decode cX0_ofEyeOrCouple 0 = .ok (.iload_n 1, 1) := by decide +kernel
theorem dX0_ofEyeOrCouple_1 : decode cX0_ofEyeOrCouple 1 = .ok (.tableswitch 66 5 7 #[27, 40, 53], 27) := by decide +kernel
theorem dX0_ofEyeOrCouple_28 : decode cX0_ofEyeOrCouple 28 = .ok (.aload_n 0, 1) := by decide +kernel
theorem dX0_ofEyeOrCouple_29 : decode cX0_ofEyeOrCouple 29 = .ok (.getfield 36, 3) := by decide +kernel
theorem dX0_ofEyeOrCouple_32 : decode cX0_ofEyeOrCouple 32 = .ok (.aload_n 0, 1) := by decide +kernel
theorem dX0_ofEyeOrCouple_33 : decode cX0_ofEyeOrCouple 33 = .ok (.getfield 68, 3) := by decide +kernel
theorem dX0_ofEyeOrCouple_36 : decode cX0_ofEyeOrCouple 36 = .ok (.iload_n 2, 1) := by decide +kernel
theorem dX0_ofEyeOrCouple_37 : decode cX0_ofEyeOrCouple 37 = .ok (.invokestatic 80, 3) := by decide +kernel
theorem dX0_ofEyeOrCouple_40 : decode cX0_ofEyeOrCouple 40 = .ok (.ireturn, 1) := by decide +kernel
theorem dX0_ofEyeOrCouple_41 : decode cX0_ofEyeOrCouple 41 = .ok (.aload_n 0, 1) := by decide +kernel
theorem dX0_ofEyeOrCouple_42 : decode cX0_ofEyeOrCouple 42 = .ok (.getfield 39, 3) := by decide +kernel
theorem dX0_ofEyeOrCouple_45 : decode cX0_ofEyeOrCouple 45 = .ok (.aload_n 0, 1) := by decide +kernel
theorem dX0_ofEyeOrCouple_46 : decode cX0_ofEyeOrCouple 46 = .ok (.getfield 71, 3) := by decide +kernel
theorem dX0_ofEyeOrCouple_49 : decode cX0_ofEyeOrCouple 49 = .ok (.iload_n 2, 1) := by decide +kernel
theorem dX0_ofEyeOrCouple_50 : decode cX0_ofEyeOrCouple 50 = .ok (.invokestatic 80, 3) := by decide +kernel
theorem dX0_ofEyeOrCouple_53 : decode cX0_ofEyeOrCouple 53 = .ok (.ireturn, 1) := by decide +kernel
theorem dX0_ofEyeOrCouple_54 : decode cX0_ofEyeOrCouple 54 = .ok (.aload_n 0, 1) := by decide +kernel
theorem dX0_ofEyeOrCouple_55 : decode cX0_ofEyeOrCouple 55 = .ok (.getfield 42, 3) := by decide +kernel
theorem dX0_ofEyeOrCouple_58 : decode cX0_ofEyeOrCouple 58 = .ok (.aload_n 0, 1) := by decide +kernel
theorem dX0_ofEyeOrCouple_59 : decode cX0_ofEyeOrCouple 59 = .ok (.getfield 74, 3) := by decide +kernel
theorem dX0_ofEyeOrCouple_62 : decode cX0_ofEyeOrCouple 62 = .ok (.iload_n 2, 1) := by decide +kernel
theorem dX0_ofEyeOrCouple_63 : decode cX0_ofEyeOrCouple 63 = .ok (.invokestatic 80, 3) := by decide +kernel
theorem dX0_ofEyeOrCouple_66 : decode cX0_ofEyeOrCouple 66 = .ok (.ireturn, 1) := by decide +kernel
theorem dX0_ofEyeOrCouple_67 : decode cX0_ofEyeOrCouple 67 = .ok (.aload_n 0, 1) := by decide +kernel
theorem dX0_ofEyeOrCouple_68 : decode cX0_ofEyeOrCouple 68 = .ok (.getfield 45, 3) := by decide +kernel
theorem dX0_ofEyeOrCouple_71 : decode cX0_ofEyeOrCouple 71 = .ok (.aload_n 0, 1) := by decide +kernel
theorem dX0_ofEyeOrCouple_72 : decode cX0_ofEyeOrCouple 72 = .ok (.getfield 74, 3) := by decide +kernel
theorem dX0_ofEyeOrCouple_75 : decode cX0_ofEyeOrCouple 75 = .ok (.iload_n 2, 1) := by decide +kernel
theorem dX0_ofEyeOrCouple_76 : decode cX0_ofEyeOrCouple 76 = .ok (.invokestatic 80, 3) := by decide +kernel
theorem dX0_ofEyeOrCouple_79 : decode cX0_ofEyeOrCouple 79 = .ok (.ireturn, 1) := by decide +kernel
abbrev rmX0_ofEyeOrCouple : Room := { frames := 1, cells := 0, slots := 0, locals := 22 }
def fX0_ofEyeOrCouple (a0 : Nat) (l1 : Int32) (l2 : Int32) (z : AH) : Option (Int32) :=
  if isO 0 z a0 = true then
    if l1 = (5 : Int32) then (
      (gN 0 12 z a0).bind fun b29 =>
      (gI 0 10 z a0).bind fun x33 =>
      (fX9_pick b29 x33 l2 z).bind fun x37 =>
      some x37
    ) else
    if l1 = (6 : Int32) then (
      (gN 0 13 z a0).bind fun b42 =>
      (gI 0 11 z a0).bind fun x46 =>
      (fX9_pick b42 x46 l2 z).bind fun x50 =>
      some x50
    ) else
    if l1 = (7 : Int32) then (
      (gN 0 15 z a0).bind fun b55 =>
      (gI 0 14 z a0).bind fun x59 =>
      (fX9_pick b55 x59 l2 z).bind fun x63 =>
      some x63
    ) else
    (gN 0 16 z a0).bind fun b68 =>
    (gI 0 14 z a0).bind fun x72 =>
    (fX9_pick b68 x72 l2 z).bind fun x76 =>
    some x76
  else none
set_option maxHeartbeats 4000000 in
set_option maxRecDepth 100000 in
theorem ctX0_ofEyeOrCouple (l : Launch) (G : GW) (a0 : Nat) (l1 : Int32) (l2 : Int32) (z : AH) {r : Int32} (h : fX0_ofEyeOrCouple a0 l1 l2 z = some r) : Met l yX0_ofEyeOrCouple (wy yX0_ofEyeOrCouple cX0_ofEyeOrCouple 3 (some .int)) rmX0_ofEyeOrCouple (Pz G [.ref (gB G + a0), .int l1, .int l2] z) (Qi G r z) 0 0 (AA G) := by
  refine wz_ent (own := RX0) (by decide +kernel) rfl (fun p e s m below meth c ls C hlk hr hin hW hl => ?_) (Nat.le_of_ble_eq_true rfl)
  have hl : lv_has ls 3 [(0, .ref (gB G + a0)), (1, .int l1), (2, .int l2)] := hl
  have hx := C.1
  have hb := C.2.1
  unfold fX0_ofEyeOrCouple at h
  obtain ⟨-, h⟩ := ck h
  refine lv_iload_n hx hb dX0_ofEyeOrCouple_0 rfl (lv_at hl 1 rfl) ?_
  by_cases c1_0 : l1 = (5 : Int32)
  · have h := ite_t c1_0 h
    refine wz_sw (5 : Int32) (tgt := 28) hx hb dX0_ofEyeOrCouple_1 c1_0 (by decide) rfl (by decide) ?_
    refine lv_aload_n hx hb dX0_ofEyeOrCouple_28 rfl (lv_at hl 0 rfl) ?_
    obtain ⟨b29, hg, h⟩ := ob h
    refine wz_gN C hW flX0_36 hg dX0_ofEyeOrCouple_29 ?_
    refine lv_aload_n hx hb dX0_ofEyeOrCouple_32 rfl (lv_at hl 0 rfl) ?_
    obtain ⟨x33, hg, h⟩ := ob h
    refine wz_gI C hW flX0_68 hg dX0_ofEyeOrCouple_33 ?_
    refine lv_iload_n hx hb dX0_ofEyeOrCouple_36 rfl (lv_at hl 2 rfl) ?_
    obtain ⟨x37, hq, h⟩ := ob h
    refine wz_rI (c' := 0) (s' := 0) hW (wz_runN (rest := []) C hW lNX0_80 (ctX9_pick l G b29 x33 l2 z hq) ⟨⟨rfl, rfl⟩, Nat.le_of_ble_eq_true rfl, Nat.le_of_ble_eq_true rfl⟩ rfl hl.1 rfl (Nat.le_of_ble_eq_true rfl) dX0_ofEyeOrCouple_37 ⟨Nat.le_of_ble_eq_true rfl, Nat.le_of_ble_eq_true rfl⟩) rfl rfl (fun H locs hW => ?_)
    exact wz_iretE C hlk hr (Option.some.inj h) rfl hW dX0_ofEyeOrCouple_40
  have h := ite_f c1_0 h
  by_cases c1_1 : l1 = (6 : Int32)
  · have h := ite_t c1_1 h
    refine wz_sw (6 : Int32) (tgt := 41) hx hb dX0_ofEyeOrCouple_1 c1_1 (by decide) rfl (by decide) ?_
    refine lv_aload_n hx hb dX0_ofEyeOrCouple_41 rfl (lv_at hl 0 rfl) ?_
    obtain ⟨b42, hg, h⟩ := ob h
    refine wz_gN C hW flX0_39 hg dX0_ofEyeOrCouple_42 ?_
    refine lv_aload_n hx hb dX0_ofEyeOrCouple_45 rfl (lv_at hl 0 rfl) ?_
    obtain ⟨x46, hg, h⟩ := ob h
    refine wz_gI C hW flX0_71 hg dX0_ofEyeOrCouple_46 ?_
    refine lv_iload_n hx hb dX0_ofEyeOrCouple_49 rfl (lv_at hl 2 rfl) ?_
    obtain ⟨x50, hq, h⟩ := ob h
    refine wz_rI (c' := 0) (s' := 0) hW (wz_runN (rest := []) C hW lNX0_80 (ctX9_pick l G b42 x46 l2 z hq) ⟨⟨rfl, rfl⟩, Nat.le_of_ble_eq_true rfl, Nat.le_of_ble_eq_true rfl⟩ rfl hl.1 rfl (Nat.le_of_ble_eq_true rfl) dX0_ofEyeOrCouple_50 ⟨Nat.le_of_ble_eq_true rfl, Nat.le_of_ble_eq_true rfl⟩) rfl rfl (fun H locs hW => ?_)
    exact wz_iretE C hlk hr (Option.some.inj h) rfl hW dX0_ofEyeOrCouple_53
  have h := ite_f c1_1 h
  by_cases c1_2 : l1 = (7 : Int32)
  · have h := ite_t c1_2 h
    refine wz_sw (7 : Int32) (tgt := 54) hx hb dX0_ofEyeOrCouple_1 c1_2 (by decide) rfl (by decide) ?_
    refine lv_aload_n hx hb dX0_ofEyeOrCouple_54 rfl (lv_at hl 0 rfl) ?_
    obtain ⟨b55, hg, h⟩ := ob h
    refine wz_gN C hW flX0_42 hg dX0_ofEyeOrCouple_55 ?_
    refine lv_aload_n hx hb dX0_ofEyeOrCouple_58 rfl (lv_at hl 0 rfl) ?_
    obtain ⟨x59, hg, h⟩ := ob h
    refine wz_gI C hW flX0_74 hg dX0_ofEyeOrCouple_59 ?_
    refine lv_iload_n hx hb dX0_ofEyeOrCouple_62 rfl (lv_at hl 2 rfl) ?_
    obtain ⟨x63, hq, h⟩ := ob h
    refine wz_rI (c' := 0) (s' := 0) hW (wz_runN (rest := []) C hW lNX0_80 (ctX9_pick l G b55 x59 l2 z hq) ⟨⟨rfl, rfl⟩, Nat.le_of_ble_eq_true rfl, Nat.le_of_ble_eq_true rfl⟩ rfl hl.1 rfl (Nat.le_of_ble_eq_true rfl) dX0_ofEyeOrCouple_63 ⟨Nat.le_of_ble_eq_true rfl, Nat.le_of_ble_eq_true rfl⟩) rfl rfl (fun H locs hW => ?_)
    exact wz_iretE C hlk hr (Option.some.inj h) rfl hW dX0_ofEyeOrCouple_66
  have h := ite_f c1_2 h
  refine lv_tableOut (tgt := 67) hx hb dX0_ofEyeOrCouple_1 (by have g0 := i32_ne c1_0 (z := 5) (by decide); have g1 := i32_ne c1_1 (z := 6) (by decide); have g2 := i32_ne c1_2 (z := 7) (by decide); omega) (by decide) ?_
  refine lv_aload_n hx hb dX0_ofEyeOrCouple_67 rfl (lv_at hl 0 rfl) ?_
  obtain ⟨b68, hg, h⟩ := ob h
  refine wz_gN C hW flX0_45 hg dX0_ofEyeOrCouple_68 ?_
  refine lv_aload_n hx hb dX0_ofEyeOrCouple_71 rfl (lv_at hl 0 rfl) ?_
  obtain ⟨x72, hg, h⟩ := ob h
  refine wz_gI C hW flX0_74 hg dX0_ofEyeOrCouple_72 ?_
  refine lv_iload_n hx hb dX0_ofEyeOrCouple_75 rfl (lv_at hl 2 rfl) ?_
  obtain ⟨x76, hq, h⟩ := ob h
  refine wz_rI (c' := 0) (s' := 0) hW (wz_runN (rest := []) C hW lNX0_80 (ctX9_pick l G b68 x72 l2 z hq) ⟨⟨rfl, rfl⟩, Nat.le_of_ble_eq_true rfl, Nat.le_of_ble_eq_true rfl⟩ rfl hl.1 rfl (Nat.le_of_ble_eq_true rfl) dX0_ofEyeOrCouple_76 ⟨Nat.le_of_ble_eq_true rfl, Nat.le_of_ble_eq_true rfl⟩) rfl rfl (fun H locs hW => ?_)
  exact wz_iretE C hlk hr (Option.some.inj h) rfl hW dX0_ofEyeOrCouple_79
theorem dX0_ofLikes_0 : decode cX0_ofLikes 0 = .ok (.iload_n 3, 1) := by decide +kernel
theorem dX0_ofLikes_1 : decode cX0_ofLikes 1 = .ok (.ifCond .lt 21, 3) := by decide +kernel
theorem dX0_ofLikes_4 : decode cX0_ofLikes 4 = .ok (.iload_n 3, 1) := by decide +kernel
theorem dX0_ofLikes_5 : decode cX0_ofLikes 5 = .ok (.iconst 4, 1) := by decide +kernel
theorem dX0_ofLikes_6 : decode cX0_ofLikes 6 = .ok (.idiv, 1) := by decide +kernel
theorem dX0_ofLikes_7 : decode cX0_ofLikes 7 = .ok (.iload_n 1, 1) := by decide +kernel
theorem dX0_ofLikes_8 : decode cX0_ofLikes 8 = .ok (.if_icmp .ge 14, 3) := by decide +kernel
theorem dX0_ofLikes_11 : decode cX0_ofLikes 11 = .ok (.iload_n 3, 1) := by decide +kernel
theorem dX0_ofLikes_12 : decode cX0_ofLikes 12 = .ok (.iconst 4, 1) := by decide +kernel
theorem dX0_ofLikes_13 : decode cX0_ofLikes 13 = .ok (.irem, 1) := by decide +kernel
theorem dX0_ofLikes_14 : decode cX0_ofLikes 14 = .ok (.iload_n 2, 1) := by decide +kernel
theorem dX0_ofLikes_15 : decode cX0_ofLikes 15 = .ok (.if_icmp .ge 7, 3) := by decide +kernel
theorem dX0_ofLikes_18 : decode cX0_ofLikes 18 = .ok (.iconst 1, 1) := by decide +kernel
theorem dX0_ofLikes_19 : decode cX0_ofLikes 19 = .ok (.goto 4, 3) := by decide +kernel
theorem dX0_ofLikes_22 : decode cX0_ofLikes 22 = .ok (.iconst 0, 1) := by decide +kernel
theorem dX0_ofLikes_23 : decode cX0_ofLikes 23 = .ok (.istore 4, 2) := by decide +kernel
theorem dX0_ofLikes_25 : decode cX0_ofLikes 25 = .ok (.iload 4, 2) := by decide +kernel
theorem dX0_ofLikes_27 : decode cX0_ofLikes 27 = .ok (.ifCond .eq 13, 3) := by decide +kernel
theorem dX0_ofLikes_30 : decode cX0_ofLikes 30 = .ok (.aload_n 0, 1) := by decide +kernel
theorem dX0_ofLikes_31 : decode cX0_ofLikes 31 = .ok (.aload_n 0, 1) := by decide +kernel
theorem dX0_ofLikes_32 : decode cX0_ofLikes 32 = .ok (.arraylength, 1) := by decide +kernel
theorem dX0_ofLikes_33 : decode cX0_ofLikes 33 = .ok (.iload_n 3, 1) := by decide +kernel
theorem dX0_ofLikes_34 : decode cX0_ofLikes 34 = .ok (.invokestatic 80, 3) := by decide +kernel
theorem dX0_ofLikes_37 : decode cX0_ofLikes 37 = .ok (.goto 5, 3) := by decide +kernel
theorem dX0_ofLikes_40 : decode cX0_ofLikes 40 = .ok (.bipush (-2), 2) := by decide +kernel
theorem dX0_ofLikes_42 : decode cX0_ofLikes 42 = .ok (.ireturn, 1) := by decide +kernel
abbrev rmX0_ofLikes : Room := { frames := 1, cells := 0, slots := 0, locals := 22 }
def bX0_ofLikes_23 (a0 : Nat) (l3 : Int32) (s0 : Int32) (z : AH) : Option (Int32) :=
  if s0 = (0 : Int32) then (
    some (-2 : Int32)
  ) else (
    (lnI 0 z a0).bind fun x32 =>
    (fX9_pick a0 x32 l3 z).bind fun x34 =>
    some x34
  )
set_option maxHeartbeats 4000000 in
set_option maxRecDepth 100000 in
theorem kbX0_ofLikes_23 {p : Program} {l : Launch} {e : Env} {s : State} {m : MethodId} {args : Array Value} {below : List Frame} {meth : Method} {c : Code} {G : GW} {r : Int32} (C : Cx p m c cX0_ofLikes 5 s args RX0 G) (hlk : meth.locks = false) (hr : meth.sig.returnType = (some .int)) {z : AH} (a0 : Nat) (l3 : Int32) (s0 : Int32) {H : Heap} {locs : List Loc} {ls : Array Slot} (h : bX0_ofLikes_23 a0 l3 s0 z = some r) (hW : Wb G z s H locs) (hl : lv_has ls 5 [(0, .ref (gB G + a0)), (3, .int l3)]) : W p l e rmX0_ofLikes s m args below meth c H locs 0 0 (MQ below (Qi G r z) args s 0 0 (AA G)) (F0 m 23 ls [.int s0]) := by
  have hx := C.1
  have hb := C.2.1
  unfold bX0_ofLikes_23 at h
  refine lv_istore (lv' := [(4, .int s0), (0, .ref (gB G + a0)), (3, .int l3)]) hx hb dX0_ofLikes_23 hl (by decide) rfl (fun ls hl => ?_)
  refine lv_iload hx hb dX0_ofLikes_25 (lv_at hl 0 rfl) ?_
  refine lv_if_eq (tgt := 40) hx hb dX0_ofLikes_27 (by decide) (fun c27 => ?_) (fun c27 => ?_)
  · have h := ite_t c27 h
    refine lv_bipush (v := -2) hx hb dX0_ofLikes_40 (by decide) ?_
    exact wz_iretE C hlk hr (Option.some.inj h) rfl hW dX0_ofLikes_42
  · have h := ite_f c27 h
    refine lv_aload_n hx hb dX0_ofLikes_30 rfl (lv_at hl 1 rfl) ?_
    refine lv_aload_n hx hb dX0_ofLikes_31 rfl (lv_at hl 1 rfl) ?_
    obtain ⟨x32, hg, h⟩ := ob h
    refine wz_len C hW hg dX0_ofLikes_32 ?_
    refine lv_iload_n hx hb dX0_ofLikes_33 rfl (lv_at hl 2 rfl) ?_
    obtain ⟨x34, hq, h⟩ := ob h
    refine wz_rI (c' := 0) (s' := 0) hW (wz_runN (rest := []) C hW lNX0_80 (ctX9_pick l G a0 x32 l3 z hq) ⟨⟨rfl, rfl⟩, Nat.le_of_ble_eq_true rfl, Nat.le_of_ble_eq_true rfl⟩ rfl hl.1 rfl (Nat.le_of_ble_eq_true rfl) dX0_ofLikes_34 ⟨Nat.le_of_ble_eq_true rfl, Nat.le_of_ble_eq_true rfl⟩) rfl rfl (fun H locs hW => ?_)
    refine lv_goto (tgt := 42) hx hb dX0_ofLikes_37 (by decide) ?_
    exact wz_iretE C hlk hr (Option.some.inj h) rfl hW dX0_ofLikes_42
def bX0_ofLikes_22 (a0 : Nat) (l3 : Int32) (z : AH) : Option (Int32) :=
  bX0_ofLikes_23 a0 l3 (0 : Int32) z
set_option maxHeartbeats 4000000 in
set_option maxRecDepth 100000 in
theorem kbX0_ofLikes_22 {p : Program} {l : Launch} {e : Env} {s : State} {m : MethodId} {args : Array Value} {below : List Frame} {meth : Method} {c : Code} {G : GW} {r : Int32} (C : Cx p m c cX0_ofLikes 5 s args RX0 G) (hlk : meth.locks = false) (hr : meth.sig.returnType = (some .int)) {z : AH} (a0 : Nat) (l3 : Int32) {H : Heap} {locs : List Loc} {ls : Array Slot} (h : bX0_ofLikes_22 a0 l3 z = some r) (hW : Wb G z s H locs) (hl : lv_has ls 5 [(0, .ref (gB G + a0)), (3, .int l3)]) : W p l e rmX0_ofLikes s m args below meth c H locs 0 0 (MQ below (Qi G r z) args s 0 0 (AA G)) (F0 m 22 ls []) := by
  have hx := C.1
  have hb := C.2.1
  unfold bX0_ofLikes_22 at h
  refine lv_iconst (v := 0) hx hb dX0_ofLikes_22 (by decide) ?_
  exact kbX0_ofLikes_23 C hlk hr a0 l3 (0 : Int32) h hW (lv_sub hl [0, 1] rfl)
def fX0_ofLikes (a0 : Nat) (l1 : Int32) (l2 : Int32) (l3 : Int32) (z : AH) : Option (Int32) :=
  if l3 < (0 : Int32) then (
    bX0_ofLikes_22 a0 l3 z
  ) else (
    if l1 ≤ (l3 / (4 : Int32)) then (
      bX0_ofLikes_22 a0 l3 z
    ) else (
      if l2 ≤ (irem l3 (4 : Int32)) then (
        bX0_ofLikes_22 a0 l3 z
      ) else (
        bX0_ofLikes_23 a0 l3 (1 : Int32) z
      )
    )
  )
set_option maxHeartbeats 4000000 in
set_option maxRecDepth 100000 in
theorem ctX0_ofLikes (l : Launch) (G : GW) (a0 : Nat) (l1 : Int32) (l2 : Int32) (l3 : Int32) (z : AH) {r : Int32} (h : fX0_ofLikes a0 l1 l2 l3 z = some r) : Met l yX0_ofLikes (wy yX0_ofLikes cX0_ofLikes 5 (some .int)) rmX0_ofLikes (Pz G [.ref (gB G + a0), .int l1, .int l2, .int l3] z) (Qi G r z) 0 0 (AA G) := by
  refine wz_ent (own := RX0) (by decide +kernel) rfl (fun p e s m below meth c ls C hlk hr hin hW hl => ?_) (Nat.le_of_ble_eq_true rfl)
  have hl : lv_has ls 5 [(0, .ref (gB G + a0)), (1, .int l1), (2, .int l2), (3, .int l3)] := hl
  have hx := C.1
  have hb := C.2.1
  unfold fX0_ofLikes at h
  refine lv_iload_n hx hb dX0_ofLikes_0 rfl (lv_at hl 3 rfl) ?_
  refine lv_if_lt (tgt := 22) hx hb dX0_ofLikes_1 (by decide) (fun c1 => ?_) (fun c1 => ?_)
  · have h := ite_t c1 h
    exact kbX0_ofLikes_22 C hlk hr a0 l3 h hW (lv_sub hl [0, 3] rfl)
  · have h := ite_f c1 h
    refine lv_iload_n hx hb dX0_ofLikes_4 rfl (lv_at hl 3 rfl) ?_
    refine lv_iconst (v := 4) hx hb dX0_ofLikes_5 (by decide) ?_
    refine lv_idiv hx hb dX0_ofLikes_6 (by decide) ?_
    refine lv_iload_n hx hb dX0_ofLikes_7 rfl (lv_at hl 1 rfl) ?_
    refine lv_icmp_ge (tgt := 22) hx hb dX0_ofLikes_8 (by decide) (fun c8 => ?_) (fun c8 => ?_)
    · have h := ite_t c8 h
      exact kbX0_ofLikes_22 C hlk hr a0 l3 h hW (lv_sub hl [0, 3] rfl)
    · have h := ite_f c8 h
      refine lv_iload_n hx hb dX0_ofLikes_11 rfl (lv_at hl 3 rfl) ?_
      refine lv_iconst (v := 4) hx hb dX0_ofLikes_12 (by decide) ?_
      refine wz_irem hx hb dX0_ofLikes_13 (by decide) ?_
      refine lv_iload_n hx hb dX0_ofLikes_14 rfl (lv_at hl 2 rfl) ?_
      refine lv_icmp_ge (tgt := 22) hx hb dX0_ofLikes_15 (by decide) (fun c15 => ?_) (fun c15 => ?_)
      · have h := ite_t c15 h
        exact kbX0_ofLikes_22 C hlk hr a0 l3 h hW (lv_sub hl [0, 3] rfl)
      · have h := ite_f c15 h
        refine lv_iconst (v := 1) hx hb dX0_ofLikes_18 (by decide) ?_
        refine lv_goto (tgt := 23) hx hb dX0_ofLikes_19 (by decide) ?_
        exact kbX0_ofLikes_23 C hlk hr a0 l3 (1 : Int32) h hW (lv_sub hl [0, 3] rfl)
theorem lTX0_100 : LT RX0 100 yX0_ofLikes cX0_ofLikes 5 (some .int) 4 := ⟨tw 794 (by decide +kernel) rfl, tw 795 (by decide +kernel) rfl, tw 121 (by decide +kernel) rfl, tw 796 (by decide +kernel) rfl, ⟨by decide +kernel, by decide +kernel, by decide +kernel⟩⟩
theorem lVX0_97 : LV RX0 97 yX0_ofEyeOrCouple cX0_ofEyeOrCouple 3 (some .int) 2 := ⟨tw 790 (by decide +kernel) rfl, tw 792 (by decide +kernel) rfl, tw 16 (by decide +kernel) rfl, tw 121 (by decide +kernel) rfl, tw 793 (by decide +kernel) rfl, ⟨by decide +kernel, by decide +kernel, by decide +kernel⟩⟩
theorem lVX0_94 : LV RX0 94 yX0_ofThing cX0_ofThing 3 (some .int) 2 := ⟨tw 785 (by decide +kernel) rfl, tw 787 (by decide +kernel) rfl, tw 15 (by decide +kernel) rfl, tw 121 (by decide +kernel) rfl, tw 788 (by decide +kernel) rfl, ⟨by decide +kernel, by decide +kernel, by decide +kernel⟩⟩
theorem lVX0_90 : LV RX0 90 yX0_sizeOf cX0_sizeOf 2 (some .int) 1 := ⟨tw 781 (by decide +kernel) rfl, tw 783 (by decide +kernel) rfl, tw 14 (by decide +kernel) rfl, tw 121 (by decide +kernel) rfl, tw 784 (by decide +kernel) rfl, ⟨by decide +kernel, by decide +kernel, by decide +kernel⟩⟩
theorem dX0_answer_0 : decode cX0_answer 0 = .ok (.iload_n 1, 1) := by decide +kernel
theorem dX0_answer_1 : decode cX0_answer 1 = .ok (.bipush 10, 2) := by decide +kernel
theorem dX0_answer_3 : decode cX0_answer 3 = .ok (.if_icmp .ge 9, 3) := by decide +kernel
theorem dX0_answer_6 : decode cX0_answer 6 = .ok (.aload_n 0, 1) := by decide +kernel
theorem dX0_answer_7 : decode cX0_answer 7 = .ok (.iload_n 1, 1) := by decide +kernel
theorem dX0_answer_8 : decode cX0_answer 8 = .ok (.invokevirtual 90, 3) := by decide +kernel
theorem dX0_answer_11 : decode cX0_answer 11 = .ok (.ireturn, 1) := by decide +kernel
theorem dX0_answer_12 : decode cX0_answer 12 = .ok (.iload_n 1, 1) := by decide +kernel
theorem dX0_answer_13 : decode cX0_answer 13 = .ok (.bipush 50, 2) := by decide +kernel
theorem dX0_answer_15 : decode cX0_answer 15 = .ok (.if_icmp .ge 16, 3) := by decide +kernel
theorem dX0_answer_18 : decode cX0_answer 18 = .ok (.aload_n 0, 1) := by decide +kernel
theorem dX0_answer_19 : decode cX0_answer 19 = .ok (.iload_n 1, 1) := by decide +kernel
theorem dX0_answer_20 : decode cX0_answer 20 = .ok (.bipush 10, 2) := by decide +kernel
theorem dX0_answer_22 : decode cX0_answer 22 = .ok (.idiv, 1) := by decide +kernel
theorem dX0_answer_23 : decode cX0_answer 23 = .ok (.iload_n 1, 1) := by decide +kernel
theorem dX0_answer_24 : decode cX0_answer 24 = .ok (.bipush 10, 2) := by decide +kernel
theorem dX0_answer_26 : decode cX0_answer 26 = .ok (.irem, 1) := by decide +kernel
theorem dX0_answer_27 : decode cX0_answer 27 = .ok (.invokevirtual 94, 3) := by decide +kernel
theorem dX0_answer_30 : decode cX0_answer 30 = .ok (.ireturn, 1) := by decide +kernel
theorem dX0_answer_31 : decode cX0_answer 31 = .ok (.iload_n 1, 1) := by decide +kernel
theorem dX0_answer_32 : decode cX0_answer 32 = .ok (.bipush 90, 2) := by decide +kernel
theorem dX0_answer_34 : decode cX0_answer 34 = .ok (.if_icmp .ge 16, 3) := by decide +kernel
theorem dX0_answer_37 : decode cX0_answer 37 = .ok (.aload_n 0, 1) := by decide +kernel
theorem dX0_answer_38 : decode cX0_answer 38 = .ok (.iload_n 1, 1) := by decide +kernel
theorem dX0_answer_39 : decode cX0_answer 39 = .ok (.bipush 10, 2) := by decide +kernel
theorem dX0_answer_41 : decode cX0_answer 41 = .ok (.idiv, 1) := by decide +kernel
theorem dX0_answer_42 : decode cX0_answer 42 = .ok (.iload_n 1, 1) := by decide +kernel
theorem dX0_answer_43 : decode cX0_answer 43 = .ok (.bipush 10, 2) := by decide +kernel
theorem dX0_answer_45 : decode cX0_answer 45 = .ok (.irem, 1) := by decide +kernel
theorem dX0_answer_46 : decode cX0_answer 46 = .ok (.invokevirtual 97, 3) := by decide +kernel
theorem dX0_answer_49 : decode cX0_answer 49 = .ok (.ireturn, 1) := by decide +kernel
theorem dX0_answer_50 : decode cX0_answer 50 = .ok (.iload_n 1, 1) := by decide +kernel
theorem dX0_answer_51 : decode cX0_answer 51 = .ok (.bipush 100, 2) := by decide +kernel
theorem dX0_answer_53 : decode cX0_answer 53 = .ok (.if_icmp .lt 25, 3) := by decide +kernel
theorem dX0_answer_56 : decode cX0_answer 56 = .ok (.iload_n 1, 1) := by decide +kernel
theorem dX0_answer_57 : decode cX0_answer 57 = .ok (.bipush 120, 2) := by decide +kernel
theorem dX0_answer_59 : decode cX0_answer 59 = .ok (.if_icmp .ge 19, 3) := by decide +kernel
theorem dX0_answer_62 : decode cX0_answer 62 = .ok (.aload_n 0, 1) := by decide +kernel
theorem dX0_answer_63 : decode cX0_answer 63 = .ok (.getfield 30, 3) := by decide +kernel
theorem dX0_answer_66 : decode cX0_answer 66 = .ok (.aload_n 0, 1) := by decide +kernel
theorem dX0_answer_67 : decode cX0_answer 67 = .ok (.getfield 61, 3) := by decide +kernel
theorem dX0_answer_70 : decode cX0_answer 70 = .ok (.iload_n 1, 1) := by decide +kernel
theorem dX0_answer_71 : decode cX0_answer 71 = .ok (.bipush 100, 2) := by decide +kernel
theorem dX0_answer_73 : decode cX0_answer 73 = .ok (.isub, 1) := by decide +kernel
theorem dX0_answer_74 : decode cX0_answer 74 = .ok (.invokestatic 80, 3) := by decide +kernel
theorem dX0_answer_77 : decode cX0_answer 77 = .ok (.ireturn, 1) := by decide +kernel
theorem dX0_answer_78 : decode cX0_answer 78 = .ok (.iload_n 1, 1) := by decide +kernel
theorem dX0_answer_79 : decode cX0_answer 79 = .ok (.bipush 120, 2) := by decide +kernel
theorem dX0_answer_81 : decode cX0_answer 81 = .ok (.if_icmp .lt 26, 3) := by decide +kernel
theorem dX0_answer_84 : decode cX0_answer 84 = .ok (.iload_n 1, 1) := by decide +kernel
theorem dX0_answer_85 : decode cX0_answer 85 = .ok (.sipush 140, 3) := by decide +kernel
theorem dX0_answer_88 : decode cX0_answer 88 = .ok (.if_icmp .ge 19, 3) := by decide +kernel
theorem dX0_answer_91 : decode cX0_answer 91 = .ok (.aload_n 0, 1) := by decide +kernel
theorem dX0_answer_92 : decode cX0_answer 92 = .ok (.getfield 33, 3) := by decide +kernel
theorem dX0_answer_95 : decode cX0_answer 95 = .ok (.aload_n 0, 1) := by decide +kernel
theorem dX0_answer_96 : decode cX0_answer 96 = .ok (.getfield 61, 3) := by decide +kernel
theorem dX0_answer_99 : decode cX0_answer 99 = .ok (.iload_n 1, 1) := by decide +kernel
theorem dX0_answer_100 : decode cX0_answer 100 = .ok (.bipush 120, 2) := by decide +kernel
theorem dX0_answer_102 : decode cX0_answer 102 = .ok (.isub, 1) := by decide +kernel
theorem dX0_answer_103 : decode cX0_answer 103 = .ok (.invokestatic 80, 3) := by decide +kernel
theorem dX0_answer_106 : decode cX0_answer 106 = .ok (.ireturn, 1) := by decide +kernel
theorem dX0_answer_107 : decode cX0_answer 107 = .ok (.iload_n 1, 1) := by decide +kernel
theorem dX0_answer_108 : decode cX0_answer 108 = .ok (.sipush 140, 3) := by decide +kernel
theorem dX0_answer_111 : decode cX0_answer 111 = .ok (.if_icmp .lt 31, 3) := by decide +kernel
theorem dX0_answer_114 : decode cX0_answer 114 = .ok (.iload_n 1, 1) := by decide +kernel
theorem dX0_answer_115 : decode cX0_answer 115 = .ok (.sipush 160, 3) := by decide +kernel
theorem dX0_answer_118 : decode cX0_answer 118 = .ok (.if_icmp .ge 24, 3) := by decide +kernel
theorem dX0_answer_121 : decode cX0_answer 121 = .ok (.aload_n 0, 1) := by decide +kernel
theorem dX0_answer_122 : decode cX0_answer 122 = .ok (.getfield 48, 3) := by decide +kernel
theorem dX0_answer_125 : decode cX0_answer 125 = .ok (.aload_n 0, 1) := by decide +kernel
theorem dX0_answer_126 : decode cX0_answer 126 = .ok (.getfield 68, 3) := by decide +kernel
theorem dX0_answer_129 : decode cX0_answer 129 = .ok (.aload_n 0, 1) := by decide +kernel
theorem dX0_answer_130 : decode cX0_answer 130 = .ok (.getfield 71, 3) := by decide +kernel
theorem dX0_answer_133 : decode cX0_answer 133 = .ok (.iload_n 1, 1) := by decide +kernel
theorem dX0_answer_134 : decode cX0_answer 134 = .ok (.sipush 140, 3) := by decide +kernel
theorem dX0_answer_137 : decode cX0_answer 137 = .ok (.isub, 1) := by decide +kernel
theorem dX0_answer_138 : decode cX0_answer 138 = .ok (.invokestatic 100, 3) := by decide +kernel
theorem dX0_answer_141 : decode cX0_answer 141 = .ok (.ireturn, 1) := by decide +kernel
theorem dX0_answer_142 : decode cX0_answer 142 = .ok (.iload_n 1, 1) := by decide +kernel
theorem dX0_answer_143 : decode cX0_answer 143 = .ok (.sipush 160, 3) := by decide +kernel
theorem dX0_answer_146 : decode cX0_answer 146 = .ok (.if_icmp .lt 31, 3) := by decide +kernel
theorem dX0_answer_149 : decode cX0_answer 149 = .ok (.iload_n 1, 1) := by decide +kernel
theorem dX0_answer_150 : decode cX0_answer 150 = .ok (.sipush 180, 3) := by decide +kernel
theorem dX0_answer_153 : decode cX0_answer 153 = .ok (.if_icmp .ge 24, 3) := by decide +kernel
theorem dX0_answer_156 : decode cX0_answer 156 = .ok (.aload_n 0, 1) := by decide +kernel
theorem dX0_answer_157 : decode cX0_answer 157 = .ok (.getfield 51, 3) := by decide +kernel
theorem dX0_answer_160 : decode cX0_answer 160 = .ok (.aload_n 0, 1) := by decide +kernel
theorem dX0_answer_161 : decode cX0_answer 161 = .ok (.getfield 71, 3) := by decide +kernel
theorem dX0_answer_164 : decode cX0_answer 164 = .ok (.aload_n 0, 1) := by decide +kernel
theorem dX0_answer_165 : decode cX0_answer 165 = .ok (.getfield 68, 3) := by decide +kernel
theorem dX0_answer_168 : decode cX0_answer 168 = .ok (.iload_n 1, 1) := by decide +kernel
theorem dX0_answer_169 : decode cX0_answer 169 = .ok (.sipush 160, 3) := by decide +kernel
theorem dX0_answer_172 : decode cX0_answer 172 = .ok (.isub, 1) := by decide +kernel
theorem dX0_answer_173 : decode cX0_answer 173 = .ok (.invokestatic 100, 3) := by decide +kernel
theorem dX0_answer_176 : decode cX0_answer 176 = .ok (.ireturn, 1) := by decide +kernel
theorem dX0_answer_177 : decode cX0_answer 177 = .ok (.bipush (-2), 2) := by decide +kernel
theorem dX0_answer_179 : decode cX0_answer 179 = .ok (.ireturn, 1) := by decide +kernel
abbrev rmX0_answer : Room := { frames := 2, cells := 0, slots := 0, locals := 46 }
def bX0_answer_142 (a0 : Nat) (l1 : Int32) (z : AH) : Option (Int32) :=
  if l1 < (160 : Int32) then (
    some (-2 : Int32)
  ) else (
    if (180 : Int32) ≤ l1 then (
      some (-2 : Int32)
    ) else (
      (gN 0 18 z a0).bind fun b157 =>
      (gI 0 11 z a0).bind fun x161 =>
      (gI 0 10 z a0).bind fun x165 =>
      (fX0_ofLikes b157 x161 x165 (l1 - (160 : Int32)) z).bind fun x173 =>
      some x173
    )
  )
set_option maxHeartbeats 4000000 in
set_option maxRecDepth 100000 in
theorem kbX0_answer_142 {p : Program} {l : Launch} {e : Env} {s : State} {m : MethodId} {args : Array Value} {below : List Frame} {meth : Method} {c : Code} {G : GW} {r : Int32} (C : Cx p m c cX0_answer 2 s args RX0 G) (hlk : meth.locks = false) (hr : meth.sig.returnType = (some .int)) {z : AH} (a0 : Nat) (l1 : Int32) {H : Heap} {locs : List Loc} {ls : Array Slot} (h : bX0_answer_142 a0 l1 z = some r) (hW : Wb G z s H locs) (hl : lv_has ls 2 [(0, .ref (gB G + a0)), (1, .int l1)]) : W p l e rmX0_answer s m args below meth c H locs 0 0 (MQ below (Qi G r z) args s 0 0 (AA G)) (F0 m 142 ls []) := by
  have hx := C.1
  have hb := C.2.1
  unfold bX0_answer_142 at h
  refine lv_iload_n hx hb dX0_answer_142 rfl (lv_at hl 1 rfl) ?_
  refine lv_sipush (v := 160) hx hb dX0_answer_143 (by decide) ?_
  refine lv_icmp_lt (tgt := 177) hx hb dX0_answer_146 (by decide) (fun c146 => ?_) (fun c146 => ?_)
  · have h := ite_t c146 h
    refine lv_bipush (v := -2) hx hb dX0_answer_177 (by decide) ?_
    exact wz_iretE C hlk hr (Option.some.inj h) rfl hW dX0_answer_179
  · have h := ite_f c146 h
    refine lv_iload_n hx hb dX0_answer_149 rfl (lv_at hl 1 rfl) ?_
    refine lv_sipush (v := 180) hx hb dX0_answer_150 (by decide) ?_
    refine lv_icmp_ge (tgt := 177) hx hb dX0_answer_153 (by decide) (fun c153 => ?_) (fun c153 => ?_)
    · have h := ite_t c153 h
      refine lv_bipush (v := -2) hx hb dX0_answer_177 (by decide) ?_
      exact wz_iretE C hlk hr (Option.some.inj h) rfl hW dX0_answer_179
    · have h := ite_f c153 h
      refine lv_aload_n hx hb dX0_answer_156 rfl (lv_at hl 0 rfl) ?_
      obtain ⟨b157, hg, h⟩ := ob h
      refine wz_gN C hW flX0_51 hg dX0_answer_157 ?_
      refine lv_aload_n hx hb dX0_answer_160 rfl (lv_at hl 0 rfl) ?_
      obtain ⟨x161, hg, h⟩ := ob h
      refine wz_gI C hW flX0_71 hg dX0_answer_161 ?_
      refine lv_aload_n hx hb dX0_answer_164 rfl (lv_at hl 0 rfl) ?_
      obtain ⟨x165, hg, h⟩ := ob h
      refine wz_gI C hW flX0_68 hg dX0_answer_165 ?_
      refine lv_iload_n hx hb dX0_answer_168 rfl (lv_at hl 1 rfl) ?_
      refine lv_sipush (v := 160) hx hb dX0_answer_169 (by decide) ?_
      refine lv_isub hx hb dX0_answer_172 ?_
      obtain ⟨x173, hq, h⟩ := ob h
      refine wz_rI (c' := 0) (s' := 0) hW (wz_runS (rest := []) C hW lTX0_100 (ctX0_ofLikes l G b157 x161 x165 (l1 - (160 : Int32)) z hq) ⟨⟨rfl, rfl⟩, Nat.le_of_ble_eq_true rfl, Nat.le_of_ble_eq_true rfl⟩ rfl hl.1 rfl (Nat.le_of_ble_eq_true rfl) dX0_answer_173 ⟨Nat.le_of_ble_eq_true rfl, Nat.le_of_ble_eq_true rfl⟩) rfl rfl (fun H locs hW => ?_)
      exact wz_iretE C hlk hr (Option.some.inj h) rfl hW dX0_answer_176
def bX0_answer_107 (a0 : Nat) (l1 : Int32) (z : AH) : Option (Int32) :=
  if l1 < (140 : Int32) then (
    bX0_answer_142 a0 l1 z
  ) else (
    if (160 : Int32) ≤ l1 then (
      bX0_answer_142 a0 l1 z
    ) else (
      (gN 0 17 z a0).bind fun b122 =>
      (gI 0 10 z a0).bind fun x126 =>
      (gI 0 11 z a0).bind fun x130 =>
      (fX0_ofLikes b122 x126 x130 (l1 - (140 : Int32)) z).bind fun x138 =>
      some x138
    )
  )
set_option maxHeartbeats 4000000 in
set_option maxRecDepth 100000 in
theorem kbX0_answer_107 {p : Program} {l : Launch} {e : Env} {s : State} {m : MethodId} {args : Array Value} {below : List Frame} {meth : Method} {c : Code} {G : GW} {r : Int32} (C : Cx p m c cX0_answer 2 s args RX0 G) (hlk : meth.locks = false) (hr : meth.sig.returnType = (some .int)) {z : AH} (a0 : Nat) (l1 : Int32) {H : Heap} {locs : List Loc} {ls : Array Slot} (h : bX0_answer_107 a0 l1 z = some r) (hW : Wb G z s H locs) (hl : lv_has ls 2 [(0, .ref (gB G + a0)), (1, .int l1)]) : W p l e rmX0_answer s m args below meth c H locs 0 0 (MQ below (Qi G r z) args s 0 0 (AA G)) (F0 m 107 ls []) := by
  have hx := C.1
  have hb := C.2.1
  unfold bX0_answer_107 at h
  refine lv_iload_n hx hb dX0_answer_107 rfl (lv_at hl 1 rfl) ?_
  refine lv_sipush (v := 140) hx hb dX0_answer_108 (by decide) ?_
  refine lv_icmp_lt (tgt := 142) hx hb dX0_answer_111 (by decide) (fun c111 => ?_) (fun c111 => ?_)
  · have h := ite_t c111 h
    exact kbX0_answer_142 C hlk hr a0 l1 h hW (lv_sub hl [0, 1] rfl)
  · have h := ite_f c111 h
    refine lv_iload_n hx hb dX0_answer_114 rfl (lv_at hl 1 rfl) ?_
    refine lv_sipush (v := 160) hx hb dX0_answer_115 (by decide) ?_
    refine lv_icmp_ge (tgt := 142) hx hb dX0_answer_118 (by decide) (fun c118 => ?_) (fun c118 => ?_)
    · have h := ite_t c118 h
      exact kbX0_answer_142 C hlk hr a0 l1 h hW (lv_sub hl [0, 1] rfl)
    · have h := ite_f c118 h
      refine lv_aload_n hx hb dX0_answer_121 rfl (lv_at hl 0 rfl) ?_
      obtain ⟨b122, hg, h⟩ := ob h
      refine wz_gN C hW flX0_48 hg dX0_answer_122 ?_
      refine lv_aload_n hx hb dX0_answer_125 rfl (lv_at hl 0 rfl) ?_
      obtain ⟨x126, hg, h⟩ := ob h
      refine wz_gI C hW flX0_68 hg dX0_answer_126 ?_
      refine lv_aload_n hx hb dX0_answer_129 rfl (lv_at hl 0 rfl) ?_
      obtain ⟨x130, hg, h⟩ := ob h
      refine wz_gI C hW flX0_71 hg dX0_answer_130 ?_
      refine lv_iload_n hx hb dX0_answer_133 rfl (lv_at hl 1 rfl) ?_
      refine lv_sipush (v := 140) hx hb dX0_answer_134 (by decide) ?_
      refine lv_isub hx hb dX0_answer_137 ?_
      obtain ⟨x138, hq, h⟩ := ob h
      refine wz_rI (c' := 0) (s' := 0) hW (wz_runS (rest := []) C hW lTX0_100 (ctX0_ofLikes l G b122 x126 x130 (l1 - (140 : Int32)) z hq) ⟨⟨rfl, rfl⟩, Nat.le_of_ble_eq_true rfl, Nat.le_of_ble_eq_true rfl⟩ rfl hl.1 rfl (Nat.le_of_ble_eq_true rfl) dX0_answer_138 ⟨Nat.le_of_ble_eq_true rfl, Nat.le_of_ble_eq_true rfl⟩) rfl rfl (fun H locs hW => ?_)
      exact wz_iretE C hlk hr (Option.some.inj h) rfl hW dX0_answer_141
def bX0_answer_78 (a0 : Nat) (l1 : Int32) (z : AH) : Option (Int32) :=
  if l1 < (120 : Int32) then (
    bX0_answer_107 a0 l1 z
  ) else (
    if (140 : Int32) ≤ l1 then (
      bX0_answer_107 a0 l1 z
    ) else (
      (gN 0 9 z a0).bind fun b92 =>
      (gI 0 7 z a0).bind fun x96 =>
      (fX9_pick b92 x96 (l1 - (120 : Int32)) z).bind fun x103 =>
      some x103
    )
  )
set_option maxHeartbeats 4000000 in
set_option maxRecDepth 100000 in
theorem kbX0_answer_78 {p : Program} {l : Launch} {e : Env} {s : State} {m : MethodId} {args : Array Value} {below : List Frame} {meth : Method} {c : Code} {G : GW} {r : Int32} (C : Cx p m c cX0_answer 2 s args RX0 G) (hlk : meth.locks = false) (hr : meth.sig.returnType = (some .int)) {z : AH} (a0 : Nat) (l1 : Int32) {H : Heap} {locs : List Loc} {ls : Array Slot} (h : bX0_answer_78 a0 l1 z = some r) (hW : Wb G z s H locs) (hl : lv_has ls 2 [(0, .ref (gB G + a0)), (1, .int l1)]) : W p l e rmX0_answer s m args below meth c H locs 0 0 (MQ below (Qi G r z) args s 0 0 (AA G)) (F0 m 78 ls []) := by
  have hx := C.1
  have hb := C.2.1
  unfold bX0_answer_78 at h
  refine lv_iload_n hx hb dX0_answer_78 rfl (lv_at hl 1 rfl) ?_
  refine lv_bipush (v := 120) hx hb dX0_answer_79 (by decide) ?_
  refine lv_icmp_lt (tgt := 107) hx hb dX0_answer_81 (by decide) (fun c81 => ?_) (fun c81 => ?_)
  · have h := ite_t c81 h
    exact kbX0_answer_107 C hlk hr a0 l1 h hW (lv_sub hl [0, 1] rfl)
  · have h := ite_f c81 h
    refine lv_iload_n hx hb dX0_answer_84 rfl (lv_at hl 1 rfl) ?_
    refine lv_sipush (v := 140) hx hb dX0_answer_85 (by decide) ?_
    refine lv_icmp_ge (tgt := 107) hx hb dX0_answer_88 (by decide) (fun c88 => ?_) (fun c88 => ?_)
    · have h := ite_t c88 h
      exact kbX0_answer_107 C hlk hr a0 l1 h hW (lv_sub hl [0, 1] rfl)
    · have h := ite_f c88 h
      refine lv_aload_n hx hb dX0_answer_91 rfl (lv_at hl 0 rfl) ?_
      obtain ⟨b92, hg, h⟩ := ob h
      refine wz_gN C hW flX0_33 hg dX0_answer_92 ?_
      refine lv_aload_n hx hb dX0_answer_95 rfl (lv_at hl 0 rfl) ?_
      obtain ⟨x96, hg, h⟩ := ob h
      refine wz_gI C hW flX0_61 hg dX0_answer_96 ?_
      refine lv_iload_n hx hb dX0_answer_99 rfl (lv_at hl 1 rfl) ?_
      refine lv_bipush (v := 120) hx hb dX0_answer_100 (by decide) ?_
      refine lv_isub hx hb dX0_answer_102 ?_
      obtain ⟨x103, hq, h⟩ := ob h
      refine wz_rI (c' := 0) (s' := 0) hW (wz_runN (rest := []) C hW lNX0_80 (ctX9_pick l G b92 x96 (l1 - (120 : Int32)) z hq) ⟨⟨rfl, rfl⟩, Nat.le_of_ble_eq_true rfl, Nat.le_of_ble_eq_true rfl⟩ rfl hl.1 rfl (Nat.le_of_ble_eq_true rfl) dX0_answer_103 ⟨Nat.le_of_ble_eq_true rfl, Nat.le_of_ble_eq_true rfl⟩) rfl rfl (fun H locs hW => ?_)
      exact wz_iretE C hlk hr (Option.some.inj h) rfl hW dX0_answer_106
def fX0_answer (a0 : Nat) (l1 : Int32) (z : AH) : Option (Int32) :=
  if isO 0 z a0 = true then
    if (10 : Int32) ≤ l1 then (
      if (50 : Int32) ≤ l1 then (
        if (90 : Int32) ≤ l1 then (
          if l1 < (100 : Int32) then (
            bX0_answer_78 a0 l1 z
          ) else (
            if (120 : Int32) ≤ l1 then (
              bX0_answer_78 a0 l1 z
            ) else (
              (gN 0 8 z a0).bind fun b63 =>
              (gI 0 7 z a0).bind fun x67 =>
              (fX9_pick b63 x67 (l1 - (100 : Int32)) z).bind fun x74 =>
              some x74
            )
          )
        ) else (
          (fX0_ofEyeOrCouple a0 (l1 / (10 : Int32)) (irem l1 (10 : Int32)) z).bind fun x46 =>
          some x46
        )
      ) else (
        (fX0_ofThing a0 (l1 / (10 : Int32)) (irem l1 (10 : Int32)) z).bind fun x27 =>
        some x27
      )
    ) else (
      (fX0_sizeOf a0 l1 z).bind fun x8 =>
      some x8
    )
  else none
set_option maxHeartbeats 4000000 in
set_option maxRecDepth 100000 in
theorem ctX0_answer (l : Launch) (G : GW) (a0 : Nat) (l1 : Int32) (z : AH) {r : Int32} (h : fX0_answer a0 l1 z = some r) : Met l yX0_answer (wy yX0_answer cX0_answer 2 (some .int)) rmX0_answer (Pz G [.ref (gB G + a0), .int l1] z) (Qi G r z) 0 0 (AA G) := by
  refine wz_ent (own := RX0) (by decide +kernel) rfl (fun p e s m below meth c ls C hlk hr hin hW hl => ?_) (Nat.le_of_ble_eq_true rfl)
  have hl : lv_has ls 2 [(0, .ref (gB G + a0)), (1, .int l1)] := hl
  have hx := C.1
  have hb := C.2.1
  unfold fX0_answer at h
  obtain ⟨-, h⟩ := ck h
  refine lv_iload_n hx hb dX0_answer_0 rfl (lv_at hl 1 rfl) ?_
  refine lv_bipush (v := 10) hx hb dX0_answer_1 (by decide) ?_
  refine lv_icmp_ge (tgt := 12) hx hb dX0_answer_3 (by decide) (fun c3 => ?_) (fun c3 => ?_)
  · have h := ite_t c3 h
    refine lv_iload_n hx hb dX0_answer_12 rfl (lv_at hl 1 rfl) ?_
    refine lv_bipush (v := 50) hx hb dX0_answer_13 (by decide) ?_
    refine lv_icmp_ge (tgt := 31) hx hb dX0_answer_15 (by decide) (fun c15 => ?_) (fun c15 => ?_)
    · have h := ite_t c15 h
      refine lv_iload_n hx hb dX0_answer_31 rfl (lv_at hl 1 rfl) ?_
      refine lv_bipush (v := 90) hx hb dX0_answer_32 (by decide) ?_
      refine lv_icmp_ge (tgt := 50) hx hb dX0_answer_34 (by decide) (fun c34 => ?_) (fun c34 => ?_)
      · have h := ite_t c34 h
        refine lv_iload_n hx hb dX0_answer_50 rfl (lv_at hl 1 rfl) ?_
        refine lv_bipush (v := 100) hx hb dX0_answer_51 (by decide) ?_
        refine lv_icmp_lt (tgt := 78) hx hb dX0_answer_53 (by decide) (fun c53 => ?_) (fun c53 => ?_)
        · have h := ite_t c53 h
          exact kbX0_answer_78 C hlk hr a0 l1 h hW (lv_sub hl [0, 1] rfl)
        · have h := ite_f c53 h
          refine lv_iload_n hx hb dX0_answer_56 rfl (lv_at hl 1 rfl) ?_
          refine lv_bipush (v := 120) hx hb dX0_answer_57 (by decide) ?_
          refine lv_icmp_ge (tgt := 78) hx hb dX0_answer_59 (by decide) (fun c59 => ?_) (fun c59 => ?_)
          · have h := ite_t c59 h
            exact kbX0_answer_78 C hlk hr a0 l1 h hW (lv_sub hl [0, 1] rfl)
          · have h := ite_f c59 h
            refine lv_aload_n hx hb dX0_answer_62 rfl (lv_at hl 0 rfl) ?_
            obtain ⟨b63, hg, h⟩ := ob h
            refine wz_gN C hW flX0_30 hg dX0_answer_63 ?_
            refine lv_aload_n hx hb dX0_answer_66 rfl (lv_at hl 0 rfl) ?_
            obtain ⟨x67, hg, h⟩ := ob h
            refine wz_gI C hW flX0_61 hg dX0_answer_67 ?_
            refine lv_iload_n hx hb dX0_answer_70 rfl (lv_at hl 1 rfl) ?_
            refine lv_bipush (v := 100) hx hb dX0_answer_71 (by decide) ?_
            refine lv_isub hx hb dX0_answer_73 ?_
            obtain ⟨x74, hq, h⟩ := ob h
            refine wz_rI (c' := 0) (s' := 0) hW (wz_runN (rest := []) C hW lNX0_80 (ctX9_pick l G b63 x67 (l1 - (100 : Int32)) z hq) ⟨⟨rfl, rfl⟩, Nat.le_of_ble_eq_true rfl, Nat.le_of_ble_eq_true rfl⟩ rfl hl.1 rfl (Nat.le_of_ble_eq_true rfl) dX0_answer_74 ⟨Nat.le_of_ble_eq_true rfl, Nat.le_of_ble_eq_true rfl⟩) rfl rfl (fun H locs hW => ?_)
            exact wz_iretE C hlk hr (Option.some.inj h) rfl hW dX0_answer_77
      · have h := ite_f c34 h
        refine lv_aload_n hx hb dX0_answer_37 rfl (lv_at hl 0 rfl) ?_
        refine lv_iload_n hx hb dX0_answer_38 rfl (lv_at hl 1 rfl) ?_
        refine lv_bipush (v := 10) hx hb dX0_answer_39 (by decide) ?_
        refine lv_idiv hx hb dX0_answer_41 (by decide) ?_
        refine lv_iload_n hx hb dX0_answer_42 rfl (lv_at hl 1 rfl) ?_
        refine lv_bipush (v := 10) hx hb dX0_answer_43 (by decide) ?_
        refine wz_irem hx hb dX0_answer_45 (by decide) ?_
        obtain ⟨x46, hq, h⟩ := ob h
        refine wz_rI (c' := 0) (s' := 0) hW (wz_runV (rest := []) C hW lVX0_97 (ck hq).1 rfl (ctX0_ofEyeOrCouple l G a0 (l1 / (10 : Int32)) (irem l1 (10 : Int32)) z hq) ⟨⟨rfl, rfl⟩, Nat.le_of_ble_eq_true rfl, Nat.le_of_ble_eq_true rfl⟩ rfl hl.1 rfl (Nat.le_of_ble_eq_true rfl) dX0_answer_46 ⟨Nat.le_of_ble_eq_true rfl, Nat.le_of_ble_eq_true rfl⟩) rfl rfl (fun H locs hW => ?_)
        exact wz_iretE C hlk hr (Option.some.inj h) rfl hW dX0_answer_49
    · have h := ite_f c15 h
      refine lv_aload_n hx hb dX0_answer_18 rfl (lv_at hl 0 rfl) ?_
      refine lv_iload_n hx hb dX0_answer_19 rfl (lv_at hl 1 rfl) ?_
      refine lv_bipush (v := 10) hx hb dX0_answer_20 (by decide) ?_
      refine lv_idiv hx hb dX0_answer_22 (by decide) ?_
      refine lv_iload_n hx hb dX0_answer_23 rfl (lv_at hl 1 rfl) ?_
      refine lv_bipush (v := 10) hx hb dX0_answer_24 (by decide) ?_
      refine wz_irem hx hb dX0_answer_26 (by decide) ?_
      obtain ⟨x27, hq, h⟩ := ob h
      refine wz_rI (c' := 0) (s' := 0) hW (wz_runV (rest := []) C hW lVX0_94 (ck hq).1 rfl (ctX0_ofThing l G a0 (l1 / (10 : Int32)) (irem l1 (10 : Int32)) z hq) ⟨⟨rfl, rfl⟩, Nat.le_of_ble_eq_true rfl, Nat.le_of_ble_eq_true rfl⟩ rfl hl.1 rfl (Nat.le_of_ble_eq_true rfl) dX0_answer_27 ⟨Nat.le_of_ble_eq_true rfl, Nat.le_of_ble_eq_true rfl⟩) rfl rfl (fun H locs hW => ?_)
      exact wz_iretE C hlk hr (Option.some.inj h) rfl hW dX0_answer_30
  · have h := ite_f c3 h
    refine lv_aload_n hx hb dX0_answer_6 rfl (lv_at hl 0 rfl) ?_
    refine lv_iload_n hx hb dX0_answer_7 rfl (lv_at hl 1 rfl) ?_
    obtain ⟨x8, hq, h⟩ := ob h
    refine wz_rI (c' := 0) (s' := 0) hW (wz_runV (rest := []) C hW lVX0_90 (ck hq).1 rfl (ctX0_sizeOf l G a0 l1 z hq) ⟨⟨rfl, rfl⟩, Nat.le_of_ble_eq_true rfl, Nat.le_of_ble_eq_true rfl⟩ rfl hl.1 rfl (Nat.le_of_ble_eq_true rfl) dX0_answer_8 ⟨Nat.le_of_ble_eq_true rfl, Nat.le_of_ble_eq_true rfl⟩) rfl rfl (fun H locs hW => ?_)
    exact wz_iretE C hlk hr (Option.some.inj h) rfl hW dX0_answer_11
theorem flX1_11 : FL RX1 11 1 0 := ⟨_, rfl, Nat.le_of_ble_eq_true rfl, tw 447 (by decide +kernel) rfl, rfl⟩
theorem flX1_17 : FL RX1 17 1 1 := ⟨_, rfl, Nat.le_of_ble_eq_true rfl, tw 449 (by decide +kernel) rfl, rfl⟩
theorem flX1_20 : FL RX1 20 1 2 := ⟨_, rfl, Nat.le_of_ble_eq_true rfl, tw 451 (by decide +kernel) rfl, rfl⟩
theorem dX1_init_0 : decode cX1_init 0 = .ok (.aload_n 0, 1) := by decide +kernel
theorem dX1_init_1 : decode cX1_init 1 = .ok (.invokespecial 3, 3) := by decide +kernel
theorem dX1_init_4 : decode cX1_init 4 = .ok (.aload_n 0, 1) := by decide +kernel
theorem dX1_init_5 : decode cX1_init 5 = .ok (.iconst 4, 1) := by decide +kernel
theorem dX1_init_6 : decode cX1_init 6 = .ok (.newarray .int, 2) := by decide +kernel
theorem dX1_init_8 : decode cX1_init 8 = .ok (.putfield 11, 3) := by decide +kernel
theorem dX1_init_11 : decode cX1_init 11 = .ok (.aload_n 0, 1) := by decide +kernel
theorem dX1_init_12 : decode cX1_init 12 = .ok (.iconst 4, 1) := by decide +kernel
theorem dX1_init_13 : decode cX1_init 13 = .ok (.newarray .int, 2) := by decide +kernel
theorem dX1_init_15 : decode cX1_init 15 = .ok (.putfield 17, 3) := by decide +kernel
theorem dX1_init_18 : decode cX1_init 18 = .ok (.aload_n 0, 1) := by decide +kernel
theorem dX1_init_19 : decode cX1_init 19 = .ok (.iconst 4, 1) := by decide +kernel
theorem dX1_init_20 : decode cX1_init 20 = .ok (.newarray .int, 2) := by decide +kernel
theorem dX1_init_22 : decode cX1_init 22 = .ok (.putfield 20, 3) := by decide +kernel
theorem dX1_init_25 : decode cX1_init 25 = .ok (.return_, 1) := by decide +kernel
abbrev rmX1_init : Room := { frames := 1, cells := 3, slots := 12, locals := 20 }
def fX1_init (a0 : Nat) (z : AH) : Option AH :=
  if isO 1 z a0 = true then
    mk (.inl (0, 4, fun _ => 0)) z fun b6 z6 =>
    (pF 1 0 z6 a0 (.ref b6)).bind fun z8 =>
    mk (.inl (0, 4, fun _ => 0)) z8 fun b13 z13 =>
    (pF 1 1 z13 a0 (.ref b13)).bind fun z15 =>
    mk (.inl (0, 4, fun _ => 0)) z15 fun b20 z20 =>
    (pF 1 2 z20 a0 (.ref b20)).bind fun z22 =>
    some z22
  else none
set_option maxHeartbeats 4000000 in
set_option maxRecDepth 100000 in
theorem ctX1_init (l : Launch) (G : GW) (a0 : Nat) (z : AH) {z' : AH} (h : fX1_init a0 z = some z') : Met l yX1_init (wy yX1_init cX1_init 1 none) rmX1_init (Pz G [.ref (gB G + a0)] z) (Qv G z') 3 12 (AA G) := by
  refine wz_ent (own := RX1) (by decide +kernel) rfl (fun p e s m below meth c ls C hlk hr hin hW hl => ?_) (Nat.le_of_ble_eq_true rfl)
  have hl : lv_has ls 1 [(0, .ref (gB G + a0))] := hl
  have hx := C.1
  have hb := C.2.1
  unfold fX1_init at h
  obtain ⟨-, h⟩ := ck h
  refine lv_aload_n hx hb dX1_init_0 rfl (lv_at hl 0 rfl) ?_
  refine wz_obj ⟨tw 446 (by decide +kernel) rfl, tw 144 (by decide +kernel) rfl, tw 145 (by decide +kernel) rfl⟩ C hl.1 dX1_init_1 ⟨Nat.le_of_ble_eq_true rfl, Nat.le_of_ble_eq_true rfl⟩ ?_
  refine lv_aload_n hx hb dX1_init_4 rfl (lv_at hl 0 rfl) ?_
  refine lv_iconst (v := 4) hx hb dX1_init_5 (by decide) ?_
  obtain ⟨b6, z6, ea, ez, h⟩ := mk_ob h
  refine wz_newIK (N := 4) (c' := 1) (s' := 4) ea ez (tw 247 (by decide +kernel) rfl) C hW (by decide) (by decide +kernel) (Nat.le_of_ble_eq_true rfl) ⟨Nat.le_of_ble_eq_true rfl, Nat.le_of_ble_eq_true rfl⟩ rfl rfl dX1_init_6 (fun H hW => ?_)
  obtain ⟨z8, hg, h⟩ := ob h
  refine wz_putF (v := (.ref b6)) C hin hW flX1_11 rfl rfl hg dX1_init_8 (fun H locs hW => ?_)
  refine lv_aload_n hx hb dX1_init_11 rfl (lv_at hl 0 rfl) ?_
  refine lv_iconst (v := 4) hx hb dX1_init_12 (by decide) ?_
  obtain ⟨b13, z13, ea, ez, h⟩ := mk_ob h
  refine wz_newIK (N := 4) (c' := 2) (s' := 8) ea ez (tw 247 (by decide +kernel) rfl) C hW (by decide) (by decide +kernel) (Nat.le_of_ble_eq_true rfl) ⟨Nat.le_of_ble_eq_true rfl, Nat.le_of_ble_eq_true rfl⟩ rfl rfl dX1_init_13 (fun H hW => ?_)
  obtain ⟨z15, hg, h⟩ := ob h
  refine wz_putF (v := (.ref b13)) C hin hW flX1_17 rfl rfl hg dX1_init_15 (fun H locs hW => ?_)
  refine lv_aload_n hx hb dX1_init_18 rfl (lv_at hl 0 rfl) ?_
  refine lv_iconst (v := 4) hx hb dX1_init_19 (by decide) ?_
  obtain ⟨b20, z20, ea, ez, h⟩ := mk_ob h
  refine wz_newIK (N := 4) (c' := 3) (s' := 12) ea ez (tw 247 (by decide +kernel) rfl) C hW (by decide) (by decide +kernel) (Nat.le_of_ble_eq_true rfl) ⟨Nat.le_of_ble_eq_true rfl, Nat.le_of_ble_eq_true rfl⟩ rfl rfl dX1_init_20 (fun H hW => ?_)
  obtain ⟨z22, hg, h⟩ := ob h
  refine wz_putF (v := (.ref b20)) C hin hW flX1_20 rfl rfl hg dX1_init_22 (fun H locs hW => ?_)
  exact wz_vretE C hlk hr (Option.some.inj h) hW dX1_init_25
theorem dX1_part_0 : decode cX1_part 0 = .ok (.iconst 0, 1) := by decide +kernel
theorem dX1_part_1 : decode cX1_part 1 = .ok (.istore_n 1, 1) := by decide +kernel
theorem dX1_part_2 : decode cX1_part 2 = .ok (.iload_n 1, 1) := by decide +kernel
theorem dX1_part_3 : decode cX1_part 3 = .ok (.iconst 4, 1) := by decide +kernel
theorem dX1_part_4 : decode cX1_part 4 = .ok (.if_icmp .ge 30, 3) := by decide +kernel
theorem dX1_part_7 : decode cX1_part 7 = .ok (.aload_n 0, 1) := by decide +kernel
theorem dX1_part_8 : decode cX1_part 8 = .ok (.getfield 11, 3) := by decide +kernel
theorem dX1_part_11 : decode cX1_part 11 = .ok (.iload_n 1, 1) := by decide +kernel
theorem dX1_part_12 : decode cX1_part 12 = .ok (.iconst (-1), 1) := by decide +kernel
theorem dX1_part_13 : decode cX1_part 13 = .ok (.iastore, 1) := by decide +kernel
theorem dX1_part_14 : decode cX1_part 14 = .ok (.aload_n 0, 1) := by decide +kernel
theorem dX1_part_15 : decode cX1_part 15 = .ok (.getfield 17, 3) := by decide +kernel
theorem dX1_part_18 : decode cX1_part 18 = .ok (.iload_n 1, 1) := by decide +kernel
theorem dX1_part_19 : decode cX1_part 19 = .ok (.iconst (-1), 1) := by decide +kernel
theorem dX1_part_20 : decode cX1_part 20 = .ok (.iastore, 1) := by decide +kernel
theorem dX1_part_21 : decode cX1_part 21 = .ok (.aload_n 0, 1) := by decide +kernel
theorem dX1_part_22 : decode cX1_part 22 = .ok (.getfield 20, 3) := by decide +kernel
theorem dX1_part_25 : decode cX1_part 25 = .ok (.iload_n 1, 1) := by decide +kernel
theorem dX1_part_26 : decode cX1_part 26 = .ok (.iconst 0, 1) := by decide +kernel
theorem dX1_part_27 : decode cX1_part 27 = .ok (.iastore, 1) := by decide +kernel
theorem dX1_part_28 : decode cX1_part 28 = .ok (.iinc 1 1, 3) := by decide +kernel
theorem dX1_part_31 : decode cX1_part 31 = .ok (.goto (-29), 3) := by decide +kernel
theorem dX1_part_34 : decode cX1_part 34 = .ok (.return_, 1) := by decide +kernel
abbrev rmX1_part : Room := { frames := 0, cells := 0, slots := 0, locals := 0 }
def bX1_part_2 (k2 : Nat → Int32 → AH → Option AH) (a0 : Nat) (l1 : Int32) (z : AH) : Option AH :=
  if (4 : Int32) ≤ l1 then (
    some z
  ) else (
    (gN 1 0 z a0).bind fun b8 =>
    (stI 0 z b8 l1 (-1 : Int32)).bind fun z13 =>
    (gN 1 1 z13 a0).bind fun b15 =>
    (stI 0 z13 b15 l1 (-1 : Int32)).bind fun z20 =>
    (gN 1 2 z20 a0).bind fun b22 =>
    (stI 0 z20 b22 l1 (0 : Int32)).bind fun z27 =>
    nm (l1 + (1 : Int32)) fun v28 =>
    k2 a0 v28 z27
  )
set_option maxHeartbeats 4000000 in
set_option maxRecDepth 100000 in
theorem kbX1_part_2 {p : Program} {l : Launch} {e : Env} {s : State} {m : MethodId} {args : Array Value} {below : List Frame} {meth : Method} {c : Code} {G : GW} {z' : AH} (C : Cx p m c cX1_part 2 s args RX1 G) (hlk : meth.locks = false) (hr : meth.sig.returnType = none) (k2 : Nat → Int32 → AH → Option AH) (hk2 : ∀ (a0 : Nat) (l1 : Int32) (z : AH) (H : Heap) (locs : List Loc) (ls : Array Slot), k2 a0 l1 z = some z' → Wb G z s H locs → lv_has ls 2 [(0, .ref (gB G + a0)), (1, .int l1)] → W p l e rmX1_part s m args below meth c H locs 0 0 (MQ below (Qv G z') args s 0 0 (AA G)) (F0 m 2 ls [])) (a0 : Nat) (l1 : Int32) {z : AH} {H : Heap} {locs : List Loc} {ls : Array Slot} (h : bX1_part_2 k2 a0 l1 z = some z') (hW : Wb G z s H locs) (hl : lv_has ls 2 [(0, .ref (gB G + a0)), (1, .int l1)]) : W p l e rmX1_part s m args below meth c H locs 0 0 (MQ below (Qv G z') args s 0 0 (AA G)) (F0 m 2 ls []) := by
  have hx := C.1
  have hb := C.2.1
  unfold bX1_part_2 at h
  refine lv_iload_n hx hb dX1_part_2 rfl (lv_at hl 1 rfl) ?_
  refine lv_iconst (v := 4) hx hb dX1_part_3 (by decide) ?_
  refine lv_icmp_ge (tgt := 34) hx hb dX1_part_4 (by decide) (fun c4 => ?_) (fun c4 => ?_)
  · have h := ite_t c4 h
    exact wz_vretE C hlk hr (Option.some.inj h) hW dX1_part_34
  · have h := ite_f c4 h
    refine lv_aload_n hx hb dX1_part_7 rfl (lv_at hl 0 rfl) ?_
    obtain ⟨b8, hg, h⟩ := ob h
    refine wz_gN C hW flX1_11 hg dX1_part_8 ?_
    refine lv_iload_n hx hb dX1_part_11 rfl (lv_at hl 1 rfl) ?_
    refine lv_iconst (v := -1) hx hb dX1_part_12 (by decide) ?_
    obtain ⟨z13, hg, h⟩ := ob h
    refine wz_ast C hW hg dX1_part_13 (fun H locs hW => ?_)
    refine lv_aload_n hx hb dX1_part_14 rfl (lv_at hl 0 rfl) ?_
    obtain ⟨b15, hg, h⟩ := ob h
    refine wz_gN C hW flX1_17 hg dX1_part_15 ?_
    refine lv_iload_n hx hb dX1_part_18 rfl (lv_at hl 1 rfl) ?_
    refine lv_iconst (v := -1) hx hb dX1_part_19 (by decide) ?_
    obtain ⟨z20, hg, h⟩ := ob h
    refine wz_ast C hW hg dX1_part_20 (fun H locs hW => ?_)
    refine lv_aload_n hx hb dX1_part_21 rfl (lv_at hl 0 rfl) ?_
    obtain ⟨b22, hg, h⟩ := ob h
    refine wz_gN C hW flX1_20 hg dX1_part_22 ?_
    refine lv_iload_n hx hb dX1_part_25 rfl (lv_at hl 1 rfl) ?_
    refine lv_iconst (v := 0) hx hb dX1_part_26 (by decide) ?_
    obtain ⟨z27, hg, h⟩ := ob h
    refine wz_ast C hW hg dX1_part_27 (fun H locs hW => ?_)
    obtain ⟨v28, ev28⟩ : ∃ y : Int32, y = (l1 + (1 : Int32)) := ⟨_, rfl⟩
    have h := nm_to h ev28
    refine lv_iinc (v := v28) (lv' := [(1, .int v28), (0, .ref (gB G + a0))]) hx hb dX1_part_28 hl (k := 1) rfl (by rw [ev28]; rfl) (by decide) rfl (fun ls hl => ?_)
    refine lv_goto (tgt := 2) hx hb dX1_part_31 (by decide) ?_
    exact hk2 a0 v28 z27 _ _ _ h hW (lv_sub hl [1, 0] rfl)
def fX1_part_2 : Nat → Nat → Int32 → AH → Option AH
  | 0, _, _, _ => none
  | n + 1, a0, l1, z => bX1_part_2 (fX1_part_2 n) a0 l1 z
theorem klX1_part_2 {p : Program} {l : Launch} {e : Env} {s : State} {m : MethodId} {args : Array Value} {below : List Frame} {meth : Method} {c : Code} {G : GW} {z' : AH} (C : Cx p m c cX1_part 2 s args RX1 G) (hlk : meth.locks = false) (hr : meth.sig.returnType = none) : ∀ (n : Nat) (a0 : Nat) (l1 : Int32) (z : AH) (H : Heap) (locs : List Loc) (ls : Array Slot), fX1_part_2 n a0 l1 z = some z' → Wb G z s H locs → lv_has ls 2 [(0, .ref (gB G + a0)), (1, .int l1)] → W p l e rmX1_part s m args below meth c H locs 0 0 (MQ below (Qv G z') args s 0 0 (AA G)) (F0 m 2 ls []) := by
  intro n
  induction n with
  | zero => intro a0 l1 z H locs ls h; have h : (none : Option AH) = some z' := h; cases h
  | succ n ih => intro a0 l1 z H locs ls h hW hl; exact kbX1_part_2 C hlk hr (fX1_part_2 n) (fun a0 l1 z H locs ls h hW hl => ih a0 l1 z H locs ls h hW hl) a0 l1 h hW hl
def fX1_part (a0 : Nat) (z : AH) : Option AH :=
  if isO 1 z a0 = true then
    fX1_part_2 FU a0 (0 : Int32) z
  else none
set_option maxHeartbeats 4000000 in
set_option maxRecDepth 100000 in
theorem ctX1_part (l : Launch) (G : GW) (a0 : Nat) (z : AH) {z' : AH} (h : fX1_part a0 z = some z') : Met l yX1_part (wy yX1_part cX1_part 2 none) rmX1_part (Pz G [.ref (gB G + a0)] z) (Qv G z') 0 0 (AA G) := by
  refine wz_ent (own := RX1) (by decide +kernel) rfl (fun p e s m below meth c ls C hlk hr hin hW hl => ?_) (Nat.le_of_ble_eq_true rfl)
  have hl : lv_has ls 2 [(0, .ref (gB G + a0))] := hl
  have hx := C.1
  have hb := C.2.1
  unfold fX1_part at h
  obtain ⟨-, h⟩ := ck h
  refine lv_iconst (v := 0) hx hb dX1_part_0 (by decide) ?_
  refine lv_istore_n (lv' := [(1, .int (0 : Int32)), (0, .ref (gB G + a0))]) hx hb dX1_part_1 rfl hl (by decide) rfl (fun ls hl => ?_)
  exact klX1_part_2 C hlk hr FU a0 (0 : Int32) z _ _ _ h hW (lv_sub hl [1, 0] rfl)
theorem flX1_56 : FL RX1 56 0 17 := ⟨_, rfl, Nat.le_of_ble_eq_true rfl, tw 197 (by decide +kernel) rfl, rfl⟩
theorem lNX1_59 : LN RX1 59 yX9_pick cX9_pick 3 (some .int) 3 := ⟨by decide +kernel, tw 523 (by decide +kernel) rfl, tw 120 (by decide +kernel) rfl, tw 524 (by decide +kernel) rfl, ⟨by decide +kernel, by decide +kernel, by decide +kernel⟩⟩
theorem dX1_leftLikes_0 : decode cX1_leftLikes 0 = .ok (.aload_n 0, 1) := by decide +kernel
theorem dX1_leftLikes_1 : decode cX1_leftLikes 1 = .ok (.getfield 56, 3) := by decide +kernel
theorem dX1_leftLikes_4 : decode cX1_leftLikes 4 = .ok (.aload_n 0, 1) := by decide +kernel
theorem dX1_leftLikes_5 : decode cX1_leftLikes 5 = .ok (.getfield 56, 3) := by decide +kernel
theorem dX1_leftLikes_8 : decode cX1_leftLikes 8 = .ok (.arraylength, 1) := by decide +kernel
theorem dX1_leftLikes_9 : decode cX1_leftLikes 9 = .ok (.iconst 4, 1) := by decide +kernel
theorem dX1_leftLikes_10 : decode cX1_leftLikes 10 = .ok (.iload_n 1, 1) := by decide +kernel
theorem dX1_leftLikes_11 : decode cX1_leftLikes 11 = .ok (.imul, 1) := by decide +kernel
theorem dX1_leftLikes_12 : decode cX1_leftLikes 12 = .ok (.iload_n 2, 1) := by decide +kernel
theorem dX1_leftLikes_13 : decode cX1_leftLikes 13 = .ok (.iadd, 1) := by decide +kernel
theorem dX1_leftLikes_14 : decode cX1_leftLikes 14 = .ok (.invokestatic 59, 3) := by decide +kernel
theorem dX1_leftLikes_17 : decode cX1_leftLikes 17 = .ok (.ireturn, 1) := by decide +kernel
abbrev rmX1_leftLikes : Room := { frames := 1, cells := 0, slots := 0, locals := 22 }
def fX1_leftLikes (a0 : Nat) (l1 : Int32) (l2 : Int32) (z : AH) : Option (Int32) :=
  (gN 0 17 z a0).bind fun b1 =>
  (gN 0 17 z a0).bind fun b5 =>
  (lnI 0 z b5).bind fun x8 =>
  (fX9_pick b1 x8 (((4 : Int32) * l1) + l2) z).bind fun x14 =>
  some x14
set_option maxHeartbeats 4000000 in
set_option maxRecDepth 100000 in
theorem ctX1_leftLikes (l : Launch) (G : GW) (a0 : Nat) (l1 : Int32) (l2 : Int32) (z : AH) {r : Int32} (h : fX1_leftLikes a0 l1 l2 z = some r) : Met l yX1_leftLikes (wy yX1_leftLikes cX1_leftLikes 3 (some .int)) rmX1_leftLikes (Pz G [.ref (gB G + a0), .int l1, .int l2] z) (Qi G r z) 0 0 (AA G) := by
  refine wz_ent (own := RX1) (by decide +kernel) rfl (fun p e s m below meth c ls C hlk hr hin hW hl => ?_) (Nat.le_of_ble_eq_true rfl)
  have hl : lv_has ls 3 [(0, .ref (gB G + a0)), (1, .int l1), (2, .int l2)] := hl
  have hx := C.1
  have hb := C.2.1
  unfold fX1_leftLikes at h
  refine lv_aload_n hx hb dX1_leftLikes_0 rfl (lv_at hl 0 rfl) ?_
  obtain ⟨b1, hg, h⟩ := ob h
  refine wz_gN C hW flX1_56 hg dX1_leftLikes_1 ?_
  refine lv_aload_n hx hb dX1_leftLikes_4 rfl (lv_at hl 0 rfl) ?_
  obtain ⟨b5, hg, h⟩ := ob h
  refine wz_gN C hW flX1_56 hg dX1_leftLikes_5 ?_
  obtain ⟨x8, hg, h⟩ := ob h
  refine wz_len C hW hg dX1_leftLikes_8 ?_
  refine lv_iconst (v := 4) hx hb dX1_leftLikes_9 (by decide) ?_
  refine lv_iload_n hx hb dX1_leftLikes_10 rfl (lv_at hl 1 rfl) ?_
  refine lv_imul hx hb dX1_leftLikes_11 ?_
  refine lv_iload_n hx hb dX1_leftLikes_12 rfl (lv_at hl 2 rfl) ?_
  refine lv_iadd hx hb dX1_leftLikes_13 ?_
  obtain ⟨x14, hq, h⟩ := ob h
  refine wz_rI (c' := 0) (s' := 0) hW (wz_runN (rest := []) C hW lNX1_59 (ctX9_pick l G b1 x8 (((4 : Int32) * l1) + l2) z hq) ⟨⟨rfl, rfl⟩, Nat.le_of_ble_eq_true rfl, Nat.le_of_ble_eq_true rfl⟩ rfl hl.1 rfl (Nat.le_of_ble_eq_true rfl) dX1_leftLikes_14 ⟨Nat.le_of_ble_eq_true rfl, Nat.le_of_ble_eq_true rfl⟩) rfl rfl (fun H locs hW => ?_)
  exact wz_iretE C hlk hr (Option.some.inj h) rfl hW dX1_leftLikes_17
theorem dX9_hasBit_0 : decode cX9_hasBit 0 = .ok (.iload_n 1, 1) := by decide +kernel
theorem dX9_hasBit_1 : decode cX9_hasBit 1 = .ok (.ifCond .lt 21, 3) := by decide +kernel
theorem dX9_hasBit_4 : decode cX9_hasBit 4 = .ok (.iload_n 1, 1) := by decide +kernel
theorem dX9_hasBit_5 : decode cX9_hasBit 5 = .ok (.bipush 32, 2) := by decide +kernel
theorem dX9_hasBit_7 : decode cX9_hasBit 7 = .ok (.if_icmp .ge 15, 3) := by decide +kernel
theorem dX9_hasBit_10 : decode cX9_hasBit 10 = .ok (.iload_n 0, 1) := by decide +kernel
theorem dX9_hasBit_11 : decode cX9_hasBit 11 = .ok (.iload_n 1, 1) := by decide +kernel
theorem dX9_hasBit_12 : decode cX9_hasBit 12 = .ok (.iushr, 1) := by decide +kernel
theorem dX9_hasBit_13 : decode cX9_hasBit 13 = .ok (.iconst 1, 1) := by decide +kernel
theorem dX9_hasBit_14 : decode cX9_hasBit 14 = .ok (.iand, 1) := by decide +kernel
theorem dX9_hasBit_15 : decode cX9_hasBit 15 = .ok (.ifCond .eq 7, 3) := by decide +kernel
theorem dX9_hasBit_18 : decode cX9_hasBit 18 = .ok (.iconst 1, 1) := by decide +kernel
theorem dX9_hasBit_19 : decode cX9_hasBit 19 = .ok (.goto 4, 3) := by decide +kernel
theorem dX9_hasBit_22 : decode cX9_hasBit 22 = .ok (.iconst 0, 1) := by decide +kernel
theorem dX9_hasBit_23 : decode cX9_hasBit 23 = .ok (.ireturn, 1) := by decide +kernel
abbrev rmX9_hasBit : Room := { frames := 0, cells := 0, slots := 0, locals := 0 }
def fX9_hasBit (l0 : Int32) (l1 : Int32) : Int32 :=
  if l1 < (0 : Int32) then (
    (0 : Int32)
  ) else (
    if (32 : Int32) ≤ l1 then (
      (0 : Int32)
    ) else (
      if ((ush l0 l1) &&& (1 : Int32)) = (0 : Int32) then (
        (0 : Int32)
      ) else (
        (1 : Int32)
      )
    )
  )
set_option maxHeartbeats 4000000 in
set_option maxRecDepth 100000 in
theorem ctX9_hasBit (l : Launch) (G : GW) (l0 : Int32) (l1 : Int32) (z : AH) {r : Int32} (h : fX9_hasBit l0 l1 = r) : Met l yX9_hasBit (wy yX9_hasBit cX9_hasBit 2 (some .boolean)) rmX9_hasBit (Pz G [.int l0, .int l1] z) (Qi G r z) 0 0 (AA G) := by
  refine wz_ent (own := RX9) (by decide +kernel) rfl (fun p e s m below meth c ls C hlk hr hin hW hl => ?_) (Nat.le_of_ble_eq_true rfl)
  have hl : lv_has ls 2 [(0, .int l0), (1, .int l1)] := hl
  have hx := C.1
  have hb := C.2.1
  unfold fX9_hasBit at h
  refine lv_iload_n hx hb dX9_hasBit_0 rfl (lv_at hl 1 rfl) ?_
  refine lv_if_lt (tgt := 22) hx hb dX9_hasBit_1 (by decide) (fun c1 => ?_) (fun c1 => ?_)
  · have h := ite_t c1 h
    refine lv_iconst (v := 0) hx hb dX9_hasBit_22 (by decide) ?_
    exact wz_zretE C hlk hr (Or.inl rfl) h rfl hW dX9_hasBit_23
  · have h := ite_f c1 h
    refine lv_iload_n hx hb dX9_hasBit_4 rfl (lv_at hl 1 rfl) ?_
    refine lv_bipush (v := 32) hx hb dX9_hasBit_5 (by decide) ?_
    refine lv_icmp_ge (tgt := 22) hx hb dX9_hasBit_7 (by decide) (fun c7 => ?_) (fun c7 => ?_)
    · have h := ite_t c7 h
      refine lv_iconst (v := 0) hx hb dX9_hasBit_22 (by decide) ?_
      exact wz_zretE C hlk hr (Or.inl rfl) h rfl hW dX9_hasBit_23
    · have h := ite_f c7 h
      refine lv_iload_n hx hb dX9_hasBit_10 rfl (lv_at hl 0 rfl) ?_
      refine lv_iload_n hx hb dX9_hasBit_11 rfl (lv_at hl 1 rfl) ?_
      refine wz_ush hx hb dX9_hasBit_12 ?_
      refine lv_iconst (v := 1) hx hb dX9_hasBit_13 (by decide) ?_
      refine lv_iand hx hb dX9_hasBit_14 ?_
      refine lv_if_eq (tgt := 22) hx hb dX9_hasBit_15 (by decide) (fun c15 => ?_) (fun c15 => ?_)
      · have h := ite_t c15 h
        refine lv_iconst (v := 0) hx hb dX9_hasBit_22 (by decide) ?_
        exact wz_zretE C hlk hr (Or.inl rfl) h rfl hW dX9_hasBit_23
      · have h := ite_f c15 h
        refine lv_iconst (v := 1) hx hb dX9_hasBit_18 (by decide) ?_
        refine lv_goto (tgt := 23) hx hb dX9_hasBit_19 (by decide) ?_
        exact wz_zretE C hlk hr (Or.inr rfl) h rfl hW dX9_hasBit_23
theorem flX1_42 : FL RX1 42 0 11 := ⟨_, rfl, Nat.le_of_ble_eq_true rfl, tw 179 (by decide +kernel) rfl, rfl⟩
theorem lTX1_45 : LT RX1 45 yX1_leftLikes cX1_leftLikes 3 (some .int) 3 := ⟨tw 983 (by decide +kernel) rfl, tw 984 (by decide +kernel) rfl, tw 126 (by decide +kernel) rfl, tw 985 (by decide +kernel) rfl, ⟨by decide +kernel, by decide +kernel, by decide +kernel⟩⟩
theorem lNX1_49 : LN RX1 49 yX9_hasBit cX9_hasBit 2 (some .boolean) 2 := ⟨by decide +kernel, tw 853 (by decide +kernel) rfl, tw 120 (by decide +kernel) rfl, tw 854 (by decide +kernel) rfl, ⟨by decide +kernel, by decide +kernel, by decide +kernel⟩⟩
theorem dX1_favourite_0 : decode cX1_favourite 0 = .ok (.iconst (-1), 1) := by decide +kernel
theorem dX1_favourite_1 : decode cX1_favourite 1 = .ok (.istore_n 3, 1) := by decide +kernel
theorem dX1_favourite_2 : decode cX1_favourite 2 = .ok (.iconst (-1), 1) := by decide +kernel
theorem dX1_favourite_3 : decode cX1_favourite 3 = .ok (.istore 4, 2) := by decide +kernel
theorem dX1_favourite_5 : decode cX1_favourite 5 = .ok (.iconst 0, 1) := by decide +kernel
theorem dX1_favourite_6 : decode cX1_favourite 6 = .ok (.istore 5, 2) := by decide +kernel
theorem dX1_favourite_8 : decode cX1_favourite 8 = .ok (.iload 5, 2) := by decide +kernel
theorem dX1_favourite_10 : decode cX1_favourite 10 = .ok (.aload_n 1, 1) := by decide +kernel
theorem dX1_favourite_11 : decode cX1_favourite 11 = .ok (.getfield 42, 3) := by decide +kernel
theorem dX1_favourite_14 : decode cX1_favourite 14 = .ok (.if_icmp .ge 46, 3) := by decide +kernel
theorem dX1_favourite_17 : decode cX1_favourite 17 = .ok (.aload_n 1, 1) := by decide +kernel
theorem dX1_favourite_18 : decode cX1_favourite 18 = .ok (.iload_n 2, 1) := by decide +kernel
theorem dX1_favourite_19 : decode cX1_favourite 19 = .ok (.iload 5, 2) := by decide +kernel
theorem dX1_favourite_21 : decode cX1_favourite 21 = .ok (.invokestatic 45, 3) := by decide +kernel
theorem dX1_favourite_24 : decode cX1_favourite 24 = .ok (.istore 6, 2) := by decide +kernel
theorem dX1_favourite_26 : decode cX1_favourite 26 = .ok (.aload_n 0, 1) := by decide +kernel
theorem dX1_favourite_27 : decode cX1_favourite 27 = .ok (.getfield 20, 3) := by decide +kernel
theorem dX1_favourite_30 : decode cX1_favourite 30 = .ok (.iload_n 2, 1) := by decide +kernel
theorem dX1_favourite_31 : decode cX1_favourite 31 = .ok (.iaload, 1) := by decide +kernel
theorem dX1_favourite_32 : decode cX1_favourite 32 = .ok (.iload 5, 2) := by decide +kernel
theorem dX1_favourite_34 : decode cX1_favourite 34 = .ok (.invokestatic 49, 3) := by decide +kernel
theorem dX1_favourite_37 : decode cX1_favourite 37 = .ok (.ifCond .ne 17, 3) := by decide +kernel
theorem dX1_favourite_40 : decode cX1_favourite 40 = .ok (.iload 6, 2) := by decide +kernel
theorem dX1_favourite_42 : decode cX1_favourite 42 = .ok (.iload 4, 2) := by decide +kernel
theorem dX1_favourite_44 : decode cX1_favourite 44 = .ok (.if_icmp .le 10, 3) := by decide +kernel
theorem dX1_favourite_47 : decode cX1_favourite 47 = .ok (.iload 5, 2) := by decide +kernel
theorem dX1_favourite_49 : decode cX1_favourite 49 = .ok (.istore_n 3, 1) := by decide +kernel
theorem dX1_favourite_50 : decode cX1_favourite 50 = .ok (.iload 6, 2) := by decide +kernel
theorem dX1_favourite_52 : decode cX1_favourite 52 = .ok (.istore 4, 2) := by decide +kernel
theorem dX1_favourite_54 : decode cX1_favourite 54 = .ok (.iinc 5 1, 3) := by decide +kernel
theorem dX1_favourite_57 : decode cX1_favourite 57 = .ok (.goto (-49), 3) := by decide +kernel
theorem dX1_favourite_60 : decode cX1_favourite 60 = .ok (.iload_n 3, 1) := by decide +kernel
theorem dX1_favourite_61 : decode cX1_favourite 61 = .ok (.ireturn, 1) := by decide +kernel
abbrev rmX1_favourite : Room := { frames := 2, cells := 0, slots := 0, locals := 44 }
def bX1_favourite_8 (k8 : Nat → Nat → Int32 → Int32 → Int32 → Int32 → Option (Int32)) (a0 : Nat) (a1 : Nat) (l2 : Int32) (l3 : Int32) (l4 : Int32) (l5 : Int32) (z : AH) : Option (Int32) :=
  (gI 0 11 z a1).bind fun x11 =>
  if x11 ≤ l5 then (
    some l3
  ) else (
    (fX1_leftLikes a1 l2 l5 z).bind fun x21 =>
    (gN 1 2 z a0).bind fun b27 =>
    (ixI 0 z b27 l2).bind fun x31 =>
    if (fX9_hasBit x31 l5) = (0 : Int32) then (
      if x21 ≤ l4 then (
        nm (l5 + (1 : Int32)) fun v54 =>
        k8 a0 a1 l2 l3 l4 v54
      ) else (
        nm (l5 + (1 : Int32)) fun v54 =>
        k8 a0 a1 l2 l5 x21 v54
      )
    ) else (
      nm (l5 + (1 : Int32)) fun v54 =>
      k8 a0 a1 l2 l3 l4 v54
    )
  )
set_option maxHeartbeats 4000000 in
set_option maxRecDepth 100000 in
theorem kbX1_favourite_8 {p : Program} {l : Launch} {e : Env} {s : State} {m : MethodId} {args : Array Value} {below : List Frame} {meth : Method} {c : Code} {G : GW} {r : Int32} (C : Cx p m c cX1_favourite 7 s args RX1 G) (hlk : meth.locks = false) (hr : meth.sig.returnType = (some .int)) {z : AH} (k8 : Nat → Nat → Int32 → Int32 → Int32 → Int32 → Option (Int32)) (hk8 : ∀ (a0 : Nat) (a1 : Nat) (l2 : Int32) (l3 : Int32) (l4 : Int32) (l5 : Int32) (H : Heap) (locs : List Loc) (ls : Array Slot), k8 a0 a1 l2 l3 l4 l5 = some r → Wb G z s H locs → lv_has ls 7 [(0, .ref (gB G + a0)), (1, .ref (gB G + a1)), (2, .int l2), (3, .int l3), (4, .int l4), (5, .int l5)] → W p l e rmX1_favourite s m args below meth c H locs 0 0 (MQ below (Qi G r z) args s 0 0 (AA G)) (F0 m 8 ls [])) (a0 : Nat) (a1 : Nat) (l2 : Int32) (l3 : Int32) (l4 : Int32) (l5 : Int32) {H : Heap} {locs : List Loc} {ls : Array Slot} (h : bX1_favourite_8 k8 a0 a1 l2 l3 l4 l5 z = some r) (hW : Wb G z s H locs) (hl : lv_has ls 7 [(0, .ref (gB G + a0)), (1, .ref (gB G + a1)), (2, .int l2), (3, .int l3), (4, .int l4), (5, .int l5)]) : W p l e rmX1_favourite s m args below meth c H locs 0 0 (MQ below (Qi G r z) args s 0 0 (AA G)) (F0 m 8 ls []) := by
  have hx := C.1
  have hb := C.2.1
  unfold bX1_favourite_8 at h
  refine lv_iload hx hb dX1_favourite_8 (lv_at hl 5 rfl) ?_
  refine lv_aload_n hx hb dX1_favourite_10 rfl (lv_at hl 1 rfl) ?_
  obtain ⟨x11, hg, h⟩ := ob h
  refine wz_gI C hW flX1_42 hg dX1_favourite_11 ?_
  refine lv_icmp_ge (tgt := 60) hx hb dX1_favourite_14 (by decide) (fun c14 => ?_) (fun c14 => ?_)
  · have h := ite_t c14 h
    refine lv_iload_n hx hb dX1_favourite_60 rfl (lv_at hl 3 rfl) ?_
    exact wz_iretE C hlk hr (Option.some.inj h) rfl hW dX1_favourite_61
  · have h := ite_f c14 h
    refine lv_aload_n hx hb dX1_favourite_17 rfl (lv_at hl 1 rfl) ?_
    refine lv_iload_n hx hb dX1_favourite_18 rfl (lv_at hl 2 rfl) ?_
    refine lv_iload hx hb dX1_favourite_19 (lv_at hl 5 rfl) ?_
    obtain ⟨x21, hq, h⟩ := ob h
    refine wz_rI (c' := 0) (s' := 0) hW (wz_runS (rest := []) C hW lTX1_45 (ctX1_leftLikes l G a1 l2 l5 z hq) ⟨⟨rfl, rfl⟩, Nat.le_of_ble_eq_true rfl, Nat.le_of_ble_eq_true rfl⟩ rfl hl.1 rfl (Nat.le_of_ble_eq_true rfl) dX1_favourite_21 ⟨Nat.le_of_ble_eq_true rfl, Nat.le_of_ble_eq_true rfl⟩) rfl rfl (fun H locs hW => ?_)
    refine lv_istore (lv' := [(6, .int x21), (0, .ref (gB G + a0)), (1, .ref (gB G + a1)), (2, .int l2), (3, .int l3), (4, .int l4), (5, .int l5)]) hx hb dX1_favourite_24 hl (by decide) rfl (fun ls hl => ?_)
    refine lv_aload_n hx hb dX1_favourite_26 rfl (lv_at hl 1 rfl) ?_
    obtain ⟨b27, hg, h⟩ := ob h
    refine wz_gN C hW flX1_20 hg dX1_favourite_27 ?_
    refine lv_iload_n hx hb dX1_favourite_30 rfl (lv_at hl 3 rfl) ?_
    obtain ⟨x31, hg, h⟩ := ob h
    refine wz_ald C hW hg dX1_favourite_31 ?_
    refine lv_iload hx hb dX1_favourite_32 (lv_at hl 6 rfl) ?_
    refine wz_rI (c' := 0) (s' := 0) hW (wz_runN (rest := []) C hW lNX1_49 (ctX9_hasBit l G x31 l5 z rfl) ⟨⟨rfl, rfl⟩, Nat.le_of_ble_eq_true rfl, Nat.le_of_ble_eq_true rfl⟩ rfl hl.1 rfl (Nat.le_of_ble_eq_true rfl) dX1_favourite_34 ⟨Nat.le_of_ble_eq_true rfl, Nat.le_of_ble_eq_true rfl⟩) rfl rfl (fun H locs hW => ?_)
    refine lv_if_ne (tgt := 54) hx hb dX1_favourite_37 (by decide) (fun c37 => ?_) (fun c37 => ?_)
    · have h := ite_f c37 h
      obtain ⟨v54, ev54⟩ : ∃ y : Int32, y = (l5 + (1 : Int32)) := ⟨_, rfl⟩
      have h := nm_to h ev54
      refine lv_iinc (v := v54) (lv' := [(5, .int v54), (6, .int x21), (0, .ref (gB G + a0)), (1, .ref (gB G + a1)), (2, .int l2), (3, .int l3), (4, .int l4)]) hx hb dX1_favourite_54 hl (k := 6) rfl (by rw [ev54]; rfl) (by decide) rfl (fun ls hl => ?_)
      refine lv_goto (tgt := 8) hx hb dX1_favourite_57 (by decide) ?_
      exact hk8 a0 a1 l2 l3 l4 v54 _ _ _ h hW (lv_sub hl [2, 3, 4, 5, 6, 0] rfl)
    · have h := ite_t c37 h
      refine lv_iload hx hb dX1_favourite_40 (lv_at hl 0 rfl) ?_
      refine lv_iload hx hb dX1_favourite_42 (lv_at hl 5 rfl) ?_
      refine lv_icmp_le (tgt := 54) hx hb dX1_favourite_44 (by decide) (fun c44 => ?_) (fun c44 => ?_)
      · have h := ite_t c44 h
        obtain ⟨v54, ev54⟩ : ∃ y : Int32, y = (l5 + (1 : Int32)) := ⟨_, rfl⟩
        have h := nm_to h ev54
        refine lv_iinc (v := v54) (lv' := [(5, .int v54), (6, .int x21), (0, .ref (gB G + a0)), (1, .ref (gB G + a1)), (2, .int l2), (3, .int l3), (4, .int l4)]) hx hb dX1_favourite_54 hl (k := 6) rfl (by rw [ev54]; rfl) (by decide) rfl (fun ls hl => ?_)
        refine lv_goto (tgt := 8) hx hb dX1_favourite_57 (by decide) ?_
        exact hk8 a0 a1 l2 l3 l4 v54 _ _ _ h hW (lv_sub hl [2, 3, 4, 5, 6, 0] rfl)
      · have h := ite_f c44 h
        refine lv_iload hx hb dX1_favourite_47 (lv_at hl 6 rfl) ?_
        refine lv_istore_n (lv' := [(3, .int l5), (6, .int x21), (0, .ref (gB G + a0)), (1, .ref (gB G + a1)), (2, .int l2), (4, .int l4), (5, .int l5)]) hx hb dX1_favourite_49 rfl hl (by decide) rfl (fun ls hl => ?_)
        refine lv_iload hx hb dX1_favourite_50 (lv_at hl 1 rfl) ?_
        refine lv_istore (lv' := [(4, .int x21), (3, .int l5), (6, .int x21), (0, .ref (gB G + a0)), (1, .ref (gB G + a1)), (2, .int l2), (5, .int l5)]) hx hb dX1_favourite_52 hl (by decide) rfl (fun ls hl => ?_)
        obtain ⟨v54, ev54⟩ : ∃ y : Int32, y = (l5 + (1 : Int32)) := ⟨_, rfl⟩
        have h := nm_to h ev54
        refine lv_iinc (v := v54) (lv' := [(5, .int v54), (4, .int x21), (3, .int l5), (6, .int x21), (0, .ref (gB G + a0)), (1, .ref (gB G + a1)), (2, .int l2)]) hx hb dX1_favourite_54 hl (k := 6) rfl (by rw [ev54]; rfl) (by decide) rfl (fun ls hl => ?_)
        refine lv_goto (tgt := 8) hx hb dX1_favourite_57 (by decide) ?_
        exact hk8 a0 a1 l2 l5 x21 v54 _ _ _ h hW (lv_sub hl [4, 5, 6, 2, 1, 0] rfl)
def fX1_favourite_8 (z : AH) : Nat → Nat → Nat → Int32 → Int32 → Int32 → Int32 → Option (Int32)
  | 0, _, _, _, _, _, _ => none
  | n + 1, a0, a1, l2, l3, l4, l5 => bX1_favourite_8 (fX1_favourite_8 z n) a0 a1 l2 l3 l4 l5 z
theorem klX1_favourite_8 {p : Program} {l : Launch} {e : Env} {s : State} {m : MethodId} {args : Array Value} {below : List Frame} {meth : Method} {c : Code} {G : GW} {r : Int32} (C : Cx p m c cX1_favourite 7 s args RX1 G) (hlk : meth.locks = false) (hr : meth.sig.returnType = (some .int)) {z : AH} : ∀ (n : Nat) (a0 : Nat) (a1 : Nat) (l2 : Int32) (l3 : Int32) (l4 : Int32) (l5 : Int32) (H : Heap) (locs : List Loc) (ls : Array Slot), fX1_favourite_8 z n a0 a1 l2 l3 l4 l5 = some r → Wb G z s H locs → lv_has ls 7 [(0, .ref (gB G + a0)), (1, .ref (gB G + a1)), (2, .int l2), (3, .int l3), (4, .int l4), (5, .int l5)] → W p l e rmX1_favourite s m args below meth c H locs 0 0 (MQ below (Qi G r z) args s 0 0 (AA G)) (F0 m 8 ls []) := by
  intro n
  induction n with
  | zero => intro a0 a1 l2 l3 l4 l5 H locs ls h; have h : (none : Option (Int32)) = some r := h; cases h
  | succ n ih => intro a0 a1 l2 l3 l4 l5 H locs ls h hW hl; exact kbX1_favourite_8 C hlk hr (fX1_favourite_8 z n) (fun a0 a1 l2 l3 l4 l5 H locs ls h hW hl => ih a0 a1 l2 l3 l4 l5 H locs ls h hW hl) a0 a1 l2 l3 l4 l5 h hW hl
def fX1_favourite (a0 : Nat) (a1 : Nat) (l2 : Int32) (z : AH) : Option (Int32) :=
  if isO 1 z a0 = true then
    fX1_favourite_8 z FU a0 a1 l2 (-1 : Int32) (-1 : Int32) (0 : Int32)
  else none
set_option maxHeartbeats 4000000 in
set_option maxRecDepth 100000 in
theorem ctX1_favourite (l : Launch) (G : GW) (a0 : Nat) (a1 : Nat) (l2 : Int32) (z : AH) {r : Int32} (h : fX1_favourite a0 a1 l2 z = some r) : Met l yX1_favourite (wy yX1_favourite cX1_favourite 7 (some .int)) rmX1_favourite (Pz G [.ref (gB G + a0), .ref (gB G + a1), .int l2] z) (Qi G r z) 0 0 (AA G) := by
  refine wz_ent (own := RX1) (by decide +kernel) rfl (fun p e s m below meth c ls C hlk hr hin hW hl => ?_) (Nat.le_of_ble_eq_true rfl)
  have hl : lv_has ls 7 [(0, .ref (gB G + a0)), (1, .ref (gB G + a1)), (2, .int l2)] := hl
  have hx := C.1
  have hb := C.2.1
  unfold fX1_favourite at h
  obtain ⟨-, h⟩ := ck h
  refine lv_iconst (v := -1) hx hb dX1_favourite_0 (by decide) ?_
  refine lv_istore_n (lv' := [(3, .int (-1 : Int32)), (0, .ref (gB G + a0)), (1, .ref (gB G + a1)), (2, .int l2)]) hx hb dX1_favourite_1 rfl hl (by decide) rfl (fun ls hl => ?_)
  refine lv_iconst (v := -1) hx hb dX1_favourite_2 (by decide) ?_
  refine lv_istore (lv' := [(4, .int (-1 : Int32)), (3, .int (-1 : Int32)), (0, .ref (gB G + a0)), (1, .ref (gB G + a1)), (2, .int l2)]) hx hb dX1_favourite_3 hl (by decide) rfl (fun ls hl => ?_)
  refine lv_iconst (v := 0) hx hb dX1_favourite_5 (by decide) ?_
  refine lv_istore (lv' := [(5, .int (0 : Int32)), (4, .int (-1 : Int32)), (3, .int (-1 : Int32)), (0, .ref (gB G + a0)), (1, .ref (gB G + a1)), (2, .int l2)]) hx hb dX1_favourite_6 hl (by decide) rfl (fun ls hl => ?_)
  exact klX1_favourite_8 C hlk hr FU a0 a1 l2 (-1 : Int32) (-1 : Int32) (0 : Int32) _ _ _ h hW (lv_sub hl [3, 4, 5, 2, 1, 0] rfl)
theorem flX1_38 : FL RX1 38 0 10 := ⟨_, rfl, Nat.le_of_ble_eq_true rfl, tw 175 (by decide +kernel) rfl, rfl⟩
theorem lVX1_30 : LV RX1 30 yX1_favourite cX1_favourite 7 (some .int) 2 := ⟨tw 979 (by decide +kernel) rfl, tw 981 (by decide +kernel) rfl, tw 28 (by decide +kernel) rfl, tw 126 (by decide +kernel) rfl, tw 982 (by decide +kernel) rfl, ⟨by decide +kernel, by decide +kernel, by decide +kernel⟩⟩
theorem dX1_firstWhoAsks_0 : decode cX1_firstWhoAsks 0 = .ok (.iconst 0, 1) := by decide +kernel
theorem dX1_firstWhoAsks_1 : decode cX1_firstWhoAsks 1 = .ok (.istore_n 2, 1) := by decide +kernel
theorem dX1_firstWhoAsks_2 : decode cX1_firstWhoAsks 2 = .ok (.iload_n 2, 1) := by decide +kernel
theorem dX1_firstWhoAsks_3 : decode cX1_firstWhoAsks 3 = .ok (.aload_n 1, 1) := by decide +kernel
theorem dX1_firstWhoAsks_4 : decode cX1_firstWhoAsks 4 = .ok (.getfield 38, 3) := by decide +kernel
theorem dX1_firstWhoAsks_7 : decode cX1_firstWhoAsks 7 = .ok (.if_icmp .ge 31, 3) := by decide +kernel
theorem dX1_firstWhoAsks_10 : decode cX1_firstWhoAsks 10 = .ok (.aload_n 0, 1) := by decide +kernel
theorem dX1_firstWhoAsks_11 : decode cX1_firstWhoAsks 11 = .ok (.getfield 11, 3) := by decide +kernel
theorem dX1_firstWhoAsks_14 : decode cX1_firstWhoAsks 14 = .ok (.iload_n 2, 1) := by decide +kernel
theorem dX1_firstWhoAsks_15 : decode cX1_firstWhoAsks 15 = .ok (.iaload, 1) := by decide +kernel
theorem dX1_firstWhoAsks_16 : decode cX1_firstWhoAsks 16 = .ok (.iconst (-1), 1) := by decide +kernel
theorem dX1_firstWhoAsks_17 : decode cX1_firstWhoAsks 17 = .ok (.if_icmp .ne 15, 3) := by decide +kernel
theorem dX1_firstWhoAsks_20 : decode cX1_firstWhoAsks 20 = .ok (.aload_n 0, 1) := by decide +kernel
theorem dX1_firstWhoAsks_21 : decode cX1_firstWhoAsks 21 = .ok (.aload_n 1, 1) := by decide +kernel
theorem dX1_firstWhoAsks_22 : decode cX1_firstWhoAsks 22 = .ok (.iload_n 2, 1) := by decide +kernel
theorem dX1_firstWhoAsks_23 : decode cX1_firstWhoAsks 23 = .ok (.invokevirtual 30, 3) := by decide +kernel
theorem dX1_firstWhoAsks_26 : decode cX1_firstWhoAsks 26 = .ok (.iconst (-1), 1) := by decide +kernel
theorem dX1_firstWhoAsks_27 : decode cX1_firstWhoAsks 27 = .ok (.if_icmp .eq 5, 3) := by decide +kernel
theorem dX1_firstWhoAsks_30 : decode cX1_firstWhoAsks 30 = .ok (.iload_n 2, 1) := by decide +kernel
theorem dX1_firstWhoAsks_31 : decode cX1_firstWhoAsks 31 = .ok (.ireturn, 1) := by decide +kernel
theorem dX1_firstWhoAsks_32 : decode cX1_firstWhoAsks 32 = .ok (.iinc 2 1, 3) := by decide +kernel
theorem dX1_firstWhoAsks_35 : decode cX1_firstWhoAsks 35 = .ok (.goto (-33), 3) := by decide +kernel
theorem dX1_firstWhoAsks_38 : decode cX1_firstWhoAsks 38 = .ok (.iconst (-1), 1) := by decide +kernel
theorem dX1_firstWhoAsks_39 : decode cX1_firstWhoAsks 39 = .ok (.ireturn, 1) := by decide +kernel
abbrev rmX1_firstWhoAsks : Room := { frames := 3, cells := 0, slots := 0, locals := 70 }
def bX1_firstWhoAsks_2 (k2 : Nat → Nat → Int32 → Option (Int32)) (a0 : Nat) (a1 : Nat) (l2 : Int32) (z : AH) : Option (Int32) :=
  (gI 0 10 z a1).bind fun x4 =>
  if x4 ≤ l2 then (
    some (-1 : Int32)
  ) else (
    (gN 1 0 z a0).bind fun b11 =>
    (ixI 0 z b11 l2).bind fun x15 =>
    if x15 = (-1 : Int32) then (
      (fX1_favourite a0 a1 l2 z).bind fun x23 =>
      if x23 = (-1 : Int32) then (
        nm (l2 + (1 : Int32)) fun v32 =>
        k2 a0 a1 v32
      ) else (
        some l2
      )
    ) else (
      nm (l2 + (1 : Int32)) fun v32 =>
      k2 a0 a1 v32
    )
  )
set_option maxHeartbeats 4000000 in
set_option maxRecDepth 100000 in
theorem kbX1_firstWhoAsks_2 {p : Program} {l : Launch} {e : Env} {s : State} {m : MethodId} {args : Array Value} {below : List Frame} {meth : Method} {c : Code} {G : GW} {r : Int32} (C : Cx p m c cX1_firstWhoAsks 3 s args RX1 G) (hlk : meth.locks = false) (hr : meth.sig.returnType = (some .int)) {z : AH} (k2 : Nat → Nat → Int32 → Option (Int32)) (hk2 : ∀ (a0 : Nat) (a1 : Nat) (l2 : Int32) (H : Heap) (locs : List Loc) (ls : Array Slot), k2 a0 a1 l2 = some r → Wb G z s H locs → lv_has ls 3 [(0, .ref (gB G + a0)), (1, .ref (gB G + a1)), (2, .int l2)] → W p l e rmX1_firstWhoAsks s m args below meth c H locs 0 0 (MQ below (Qi G r z) args s 0 0 (AA G)) (F0 m 2 ls [])) (a0 : Nat) (a1 : Nat) (l2 : Int32) {H : Heap} {locs : List Loc} {ls : Array Slot} (h : bX1_firstWhoAsks_2 k2 a0 a1 l2 z = some r) (hW : Wb G z s H locs) (hl : lv_has ls 3 [(0, .ref (gB G + a0)), (1, .ref (gB G + a1)), (2, .int l2)]) : W p l e rmX1_firstWhoAsks s m args below meth c H locs 0 0 (MQ below (Qi G r z) args s 0 0 (AA G)) (F0 m 2 ls []) := by
  have hx := C.1
  have hb := C.2.1
  unfold bX1_firstWhoAsks_2 at h
  refine lv_iload_n hx hb dX1_firstWhoAsks_2 rfl (lv_at hl 2 rfl) ?_
  refine lv_aload_n hx hb dX1_firstWhoAsks_3 rfl (lv_at hl 1 rfl) ?_
  obtain ⟨x4, hg, h⟩ := ob h
  refine wz_gI C hW flX1_38 hg dX1_firstWhoAsks_4 ?_
  refine lv_icmp_ge (tgt := 38) hx hb dX1_firstWhoAsks_7 (by decide) (fun c7 => ?_) (fun c7 => ?_)
  · have h := ite_t c7 h
    refine lv_iconst (v := -1) hx hb dX1_firstWhoAsks_38 (by decide) ?_
    exact wz_iretE C hlk hr (Option.some.inj h) rfl hW dX1_firstWhoAsks_39
  · have h := ite_f c7 h
    refine lv_aload_n hx hb dX1_firstWhoAsks_10 rfl (lv_at hl 0 rfl) ?_
    obtain ⟨b11, hg, h⟩ := ob h
    refine wz_gN C hW flX1_11 hg dX1_firstWhoAsks_11 ?_
    refine lv_iload_n hx hb dX1_firstWhoAsks_14 rfl (lv_at hl 2 rfl) ?_
    obtain ⟨x15, hg, h⟩ := ob h
    refine wz_ald C hW hg dX1_firstWhoAsks_15 ?_
    refine lv_iconst (v := -1) hx hb dX1_firstWhoAsks_16 (by decide) ?_
    refine lv_icmp_ne (tgt := 32) hx hb dX1_firstWhoAsks_17 (by decide) (fun c17 => ?_) (fun c17 => ?_)
    · have h := ite_f c17 h
      obtain ⟨v32, ev32⟩ : ∃ y : Int32, y = (l2 + (1 : Int32)) := ⟨_, rfl⟩
      have h := nm_to h ev32
      refine lv_iinc (v := v32) (lv' := [(2, .int v32), (0, .ref (gB G + a0)), (1, .ref (gB G + a1))]) hx hb dX1_firstWhoAsks_32 hl (k := 2) rfl (by rw [ev32]; rfl) (by decide) rfl (fun ls hl => ?_)
      refine lv_goto (tgt := 2) hx hb dX1_firstWhoAsks_35 (by decide) ?_
      exact hk2 a0 a1 v32 _ _ _ h hW (lv_sub hl [1, 2, 0] rfl)
    · have h := ite_t c17 h
      refine lv_aload_n hx hb dX1_firstWhoAsks_20 rfl (lv_at hl 0 rfl) ?_
      refine lv_aload_n hx hb dX1_firstWhoAsks_21 rfl (lv_at hl 1 rfl) ?_
      refine lv_iload_n hx hb dX1_firstWhoAsks_22 rfl (lv_at hl 2 rfl) ?_
      obtain ⟨x23, hq, h⟩ := ob h
      refine wz_rI (c' := 0) (s' := 0) hW (wz_runV (rest := []) C hW lVX1_30 (ck hq).1 rfl (ctX1_favourite l G a0 a1 l2 z hq) ⟨⟨rfl, rfl⟩, Nat.le_of_ble_eq_true rfl, Nat.le_of_ble_eq_true rfl⟩ rfl hl.1 rfl (Nat.le_of_ble_eq_true rfl) dX1_firstWhoAsks_23 ⟨Nat.le_of_ble_eq_true rfl, Nat.le_of_ble_eq_true rfl⟩) rfl rfl (fun H locs hW => ?_)
      refine lv_iconst (v := -1) hx hb dX1_firstWhoAsks_26 (by decide) ?_
      refine lv_icmp_eq (tgt := 32) hx hb dX1_firstWhoAsks_27 (by decide) (fun c27 => ?_) (fun c27 => ?_)
      · have h := ite_t c27 h
        obtain ⟨v32, ev32⟩ : ∃ y : Int32, y = (l2 + (1 : Int32)) := ⟨_, rfl⟩
        have h := nm_to h ev32
        refine lv_iinc (v := v32) (lv' := [(2, .int v32), (0, .ref (gB G + a0)), (1, .ref (gB G + a1))]) hx hb dX1_firstWhoAsks_32 hl (k := 2) rfl (by rw [ev32]; rfl) (by decide) rfl (fun ls hl => ?_)
        refine lv_goto (tgt := 2) hx hb dX1_firstWhoAsks_35 (by decide) ?_
        exact hk2 a0 a1 v32 _ _ _ h hW (lv_sub hl [1, 2, 0] rfl)
      · have h := ite_f c27 h
        refine lv_iload_n hx hb dX1_firstWhoAsks_30 rfl (lv_at hl 2 rfl) ?_
        exact wz_iretE C hlk hr (Option.some.inj h) rfl hW dX1_firstWhoAsks_31
def fX1_firstWhoAsks_2 (z : AH) : Nat → Nat → Nat → Int32 → Option (Int32)
  | 0, _, _, _ => none
  | n + 1, a0, a1, l2 => bX1_firstWhoAsks_2 (fX1_firstWhoAsks_2 z n) a0 a1 l2 z
theorem klX1_firstWhoAsks_2 {p : Program} {l : Launch} {e : Env} {s : State} {m : MethodId} {args : Array Value} {below : List Frame} {meth : Method} {c : Code} {G : GW} {r : Int32} (C : Cx p m c cX1_firstWhoAsks 3 s args RX1 G) (hlk : meth.locks = false) (hr : meth.sig.returnType = (some .int)) {z : AH} : ∀ (n : Nat) (a0 : Nat) (a1 : Nat) (l2 : Int32) (H : Heap) (locs : List Loc) (ls : Array Slot), fX1_firstWhoAsks_2 z n a0 a1 l2 = some r → Wb G z s H locs → lv_has ls 3 [(0, .ref (gB G + a0)), (1, .ref (gB G + a1)), (2, .int l2)] → W p l e rmX1_firstWhoAsks s m args below meth c H locs 0 0 (MQ below (Qi G r z) args s 0 0 (AA G)) (F0 m 2 ls []) := by
  intro n
  induction n with
  | zero => intro a0 a1 l2 H locs ls h; have h : (none : Option (Int32)) = some r := h; cases h
  | succ n ih => intro a0 a1 l2 H locs ls h hW hl; exact kbX1_firstWhoAsks_2 C hlk hr (fX1_firstWhoAsks_2 z n) (fun a0 a1 l2 H locs ls h hW hl => ih a0 a1 l2 H locs ls h hW hl) a0 a1 l2 h hW hl
def fX1_firstWhoAsks (a0 : Nat) (a1 : Nat) (z : AH) : Option (Int32) :=
  if isO 1 z a0 = true then
    fX1_firstWhoAsks_2 z FU a0 a1 (0 : Int32)
  else none
set_option maxHeartbeats 4000000 in
set_option maxRecDepth 100000 in
theorem ctX1_firstWhoAsks (l : Launch) (G : GW) (a0 : Nat) (a1 : Nat) (z : AH) {r : Int32} (h : fX1_firstWhoAsks a0 a1 z = some r) : Met l yX1_firstWhoAsks (wy yX1_firstWhoAsks cX1_firstWhoAsks 3 (some .int)) rmX1_firstWhoAsks (Pz G [.ref (gB G + a0), .ref (gB G + a1)] z) (Qi G r z) 0 0 (AA G) := by
  refine wz_ent (own := RX1) (by decide +kernel) rfl (fun p e s m below meth c ls C hlk hr hin hW hl => ?_) (Nat.le_of_ble_eq_true rfl)
  have hl : lv_has ls 3 [(0, .ref (gB G + a0)), (1, .ref (gB G + a1))] := hl
  have hx := C.1
  have hb := C.2.1
  unfold fX1_firstWhoAsks at h
  obtain ⟨-, h⟩ := ck h
  refine lv_iconst (v := 0) hx hb dX1_firstWhoAsks_0 (by decide) ?_
  refine lv_istore_n (lv' := [(2, .int (0 : Int32)), (0, .ref (gB G + a0)), (1, .ref (gB G + a1))]) hx hb dX1_firstWhoAsks_1 rfl hl (by decide) rfl (fun ls hl => ?_)
  exact klX1_firstWhoAsks_2 C hlk hr FU a0 a1 (0 : Int32) _ _ _ h hW (lv_sub hl [1, 2, 0] rfl)
theorem flX1_63 : FL RX1 63 0 18 := ⟨_, rfl, Nat.le_of_ble_eq_true rfl, tw 200 (by decide +kernel) rfl, rfl⟩
theorem dX1_rightLikes_0 : decode cX1_rightLikes 0 = .ok (.aload_n 0, 1) := by decide +kernel
theorem dX1_rightLikes_1 : decode cX1_rightLikes 1 = .ok (.getfield 63, 3) := by decide +kernel
theorem dX1_rightLikes_4 : decode cX1_rightLikes 4 = .ok (.aload_n 0, 1) := by decide +kernel
theorem dX1_rightLikes_5 : decode cX1_rightLikes 5 = .ok (.getfield 63, 3) := by decide +kernel
theorem dX1_rightLikes_8 : decode cX1_rightLikes 8 = .ok (.arraylength, 1) := by decide +kernel
theorem dX1_rightLikes_9 : decode cX1_rightLikes 9 = .ok (.iconst 4, 1) := by decide +kernel
theorem dX1_rightLikes_10 : decode cX1_rightLikes 10 = .ok (.iload_n 1, 1) := by decide +kernel
theorem dX1_rightLikes_11 : decode cX1_rightLikes 11 = .ok (.imul, 1) := by decide +kernel
theorem dX1_rightLikes_12 : decode cX1_rightLikes 12 = .ok (.iload_n 2, 1) := by decide +kernel
theorem dX1_rightLikes_13 : decode cX1_rightLikes 13 = .ok (.iadd, 1) := by decide +kernel
theorem dX1_rightLikes_14 : decode cX1_rightLikes 14 = .ok (.invokestatic 59, 3) := by decide +kernel
theorem dX1_rightLikes_17 : decode cX1_rightLikes 17 = .ok (.ireturn, 1) := by decide +kernel
abbrev rmX1_rightLikes : Room := { frames := 1, cells := 0, slots := 0, locals := 22 }
def fX1_rightLikes (a0 : Nat) (l1 : Int32) (l2 : Int32) (z : AH) : Option (Int32) :=
  (gN 0 18 z a0).bind fun b1 =>
  (gN 0 18 z a0).bind fun b5 =>
  (lnI 0 z b5).bind fun x8 =>
  (fX9_pick b1 x8 (((4 : Int32) * l1) + l2) z).bind fun x14 =>
  some x14
set_option maxHeartbeats 4000000 in
set_option maxRecDepth 100000 in
theorem ctX1_rightLikes (l : Launch) (G : GW) (a0 : Nat) (l1 : Int32) (l2 : Int32) (z : AH) {r : Int32} (h : fX1_rightLikes a0 l1 l2 z = some r) : Met l yX1_rightLikes (wy yX1_rightLikes cX1_rightLikes 3 (some .int)) rmX1_rightLikes (Pz G [.ref (gB G + a0), .int l1, .int l2] z) (Qi G r z) 0 0 (AA G) := by
  refine wz_ent (own := RX1) (by decide +kernel) rfl (fun p e s m below meth c ls C hlk hr hin hW hl => ?_) (Nat.le_of_ble_eq_true rfl)
  have hl : lv_has ls 3 [(0, .ref (gB G + a0)), (1, .int l1), (2, .int l2)] := hl
  have hx := C.1
  have hb := C.2.1
  unfold fX1_rightLikes at h
  refine lv_aload_n hx hb dX1_rightLikes_0 rfl (lv_at hl 0 rfl) ?_
  obtain ⟨b1, hg, h⟩ := ob h
  refine wz_gN C hW flX1_63 hg dX1_rightLikes_1 ?_
  refine lv_aload_n hx hb dX1_rightLikes_4 rfl (lv_at hl 0 rfl) ?_
  obtain ⟨b5, hg, h⟩ := ob h
  refine wz_gN C hW flX1_63 hg dX1_rightLikes_5 ?_
  obtain ⟨x8, hg, h⟩ := ob h
  refine wz_len C hW hg dX1_rightLikes_8 ?_
  refine lv_iconst (v := 4) hx hb dX1_rightLikes_9 (by decide) ?_
  refine lv_iload_n hx hb dX1_rightLikes_10 rfl (lv_at hl 1 rfl) ?_
  refine lv_imul hx hb dX1_rightLikes_11 ?_
  refine lv_iload_n hx hb dX1_rightLikes_12 rfl (lv_at hl 2 rfl) ?_
  refine lv_iadd hx hb dX1_rightLikes_13 ?_
  obtain ⟨x14, hq, h⟩ := ob h
  refine wz_rI (c' := 0) (s' := 0) hW (wz_runN (rest := []) C hW lNX1_59 (ctX9_pick l G b1 x8 (((4 : Int32) * l1) + l2) z hq) ⟨⟨rfl, rfl⟩, Nat.le_of_ble_eq_true rfl, Nat.le_of_ble_eq_true rfl⟩ rfl hl.1 rfl (Nat.le_of_ble_eq_true rfl) dX1_rightLikes_14 ⟨Nat.le_of_ble_eq_true rfl, Nat.le_of_ble_eq_true rfl⟩) rfl rfl (fun H locs hW => ?_)
  exact wz_iretE C hlk hr (Option.some.inj h) rfl hW dX1_rightLikes_17
theorem lTX1_53 : LT RX1 53 yX1_rightLikes cX1_rightLikes 3 (some .int) 3 := ⟨tw 992 (by decide +kernel) rfl, tw 993 (by decide +kernel) rfl, tw 126 (by decide +kernel) rfl, tw 994 (by decide +kernel) rfl, ⟨by decide +kernel, by decide +kernel, by decide +kernel⟩⟩
theorem dX1_ask_0 : decode cX1_ask 0 = .ok (.iload_n 3, 1) := by decide +kernel
theorem dX1_ask_1 : decode cX1_ask 1 = .ok (.ifCond .lt 8, 3) := by decide +kernel
theorem dX1_ask_4 : decode cX1_ask 4 = .ok (.iload_n 3, 1) := by decide +kernel
theorem dX1_ask_5 : decode cX1_ask 5 = .ok (.iconst 4, 1) := by decide +kernel
theorem dX1_ask_6 : decode cX1_ask 6 = .ok (.if_icmp .lt 4, 3) := by decide +kernel
theorem dX1_ask_9 : decode cX1_ask 9 = .ok (.return_, 1) := by decide +kernel
theorem dX1_ask_10 : decode cX1_ask 10 = .ok (.aload_n 0, 1) := by decide +kernel
theorem dX1_ask_11 : decode cX1_ask 11 = .ok (.getfield 20, 3) := by decide +kernel
theorem dX1_ask_14 : decode cX1_ask 14 = .ok (.iload_n 2, 1) := by decide +kernel
theorem dX1_ask_15 : decode cX1_ask 15 = .ok (.dup2, 1) := by decide +kernel
theorem dX1_ask_16 : decode cX1_ask 16 = .ok (.iaload, 1) := by decide +kernel
theorem dX1_ask_17 : decode cX1_ask 17 = .ok (.iconst 1, 1) := by decide +kernel
theorem dX1_ask_18 : decode cX1_ask 18 = .ok (.iload_n 3, 1) := by decide +kernel
theorem dX1_ask_19 : decode cX1_ask 19 = .ok (.ishl, 1) := by decide +kernel
theorem dX1_ask_20 : decode cX1_ask 20 = .ok (.ior, 1) := by decide +kernel
theorem dX1_ask_21 : decode cX1_ask 21 = .ok (.iastore, 1) := by decide +kernel
theorem dX1_ask_22 : decode cX1_ask 22 = .ok (.aload_n 0, 1) := by decide +kernel
theorem dX1_ask_23 : decode cX1_ask 23 = .ok (.getfield 17, 3) := by decide +kernel
theorem dX1_ask_26 : decode cX1_ask 26 = .ok (.iload_n 3, 1) := by decide +kernel
theorem dX1_ask_27 : decode cX1_ask 27 = .ok (.iaload, 1) := by decide +kernel
theorem dX1_ask_28 : decode cX1_ask 28 = .ok (.istore 4, 2) := by decide +kernel
theorem dX1_ask_30 : decode cX1_ask 30 = .ok (.iload 4, 2) := by decide +kernel
theorem dX1_ask_32 : decode cX1_ask 32 = .ok (.iconst (-1), 1) := by decide +kernel
theorem dX1_ask_33 : decode cX1_ask 33 = .ok (.if_icmp .ne 7, 3) := by decide +kernel
theorem dX1_ask_36 : decode cX1_ask 36 = .ok (.iconst 1, 1) := by decide +kernel
theorem dX1_ask_37 : decode cX1_ask 37 = .ok (.goto 17, 3) := by decide +kernel
theorem dX1_ask_40 : decode cX1_ask 40 = .ok (.aload_n 1, 1) := by decide +kernel
theorem dX1_ask_41 : decode cX1_ask 41 = .ok (.iload_n 3, 1) := by decide +kernel
theorem dX1_ask_42 : decode cX1_ask 42 = .ok (.iload_n 2, 1) := by decide +kernel
theorem dX1_ask_43 : decode cX1_ask 43 = .ok (.invokestatic 53, 3) := by decide +kernel
theorem dX1_ask_46 : decode cX1_ask 46 = .ok (.aload_n 1, 1) := by decide +kernel
theorem dX1_ask_47 : decode cX1_ask 47 = .ok (.iload_n 3, 1) := by decide +kernel
theorem dX1_ask_48 : decode cX1_ask 48 = .ok (.iload 4, 2) := by decide +kernel
theorem dX1_ask_50 : decode cX1_ask 50 = .ok (.invokestatic 53, 3) := by decide +kernel
theorem dX1_ask_53 : decode cX1_ask 53 = .ok (.isub, 1) := by decide +kernel
theorem dX1_ask_54 : decode cX1_ask 54 = .ok (.istore 5, 2) := by decide +kernel
theorem dX1_ask_56 : decode cX1_ask 56 = .ok (.iload 5, 2) := by decide +kernel
theorem dX1_ask_58 : decode cX1_ask 58 = .ok (.ifCond .gt 14, 3) := by decide +kernel
theorem dX1_ask_61 : decode cX1_ask 61 = .ok (.iload 5, 2) := by decide +kernel
theorem dX1_ask_63 : decode cX1_ask 63 = .ok (.ifCond .ne 42, 3) := by decide +kernel
theorem dX1_ask_66 : decode cX1_ask 66 = .ok (.iload_n 2, 1) := by decide +kernel
theorem dX1_ask_67 : decode cX1_ask 67 = .ok (.iload 4, 2) := by decide +kernel
theorem dX1_ask_69 : decode cX1_ask 69 = .ok (.if_icmp .ge 36, 3) := by decide +kernel
theorem dX1_ask_72 : decode cX1_ask 72 = .ok (.aload_n 0, 1) := by decide +kernel
theorem dX1_ask_73 : decode cX1_ask 73 = .ok (.getfield 11, 3) := by decide +kernel
theorem dX1_ask_76 : decode cX1_ask 76 = .ok (.iload_n 2, 1) := by decide +kernel
theorem dX1_ask_77 : decode cX1_ask 77 = .ok (.iload_n 3, 1) := by decide +kernel
theorem dX1_ask_78 : decode cX1_ask 78 = .ok (.iastore, 1) := by decide +kernel
theorem dX1_ask_79 : decode cX1_ask 79 = .ok (.aload_n 0, 1) := by decide +kernel
theorem dX1_ask_80 : decode cX1_ask 80 = .ok (.getfield 17, 3) := by decide +kernel
theorem dX1_ask_83 : decode cX1_ask 83 = .ok (.iload_n 3, 1) := by decide +kernel
theorem dX1_ask_84 : decode cX1_ask 84 = .ok (.iload_n 2, 1) := by decide +kernel
theorem dX1_ask_85 : decode cX1_ask 85 = .ok (.iastore, 1) := by decide +kernel
theorem dX1_ask_86 : decode cX1_ask 86 = .ok (.iload 4, 2) := by decide +kernel
theorem dX1_ask_88 : decode cX1_ask 88 = .ok (.ifCond .lt 17, 3) := by decide +kernel
theorem dX1_ask_91 : decode cX1_ask 91 = .ok (.iload 4, 2) := by decide +kernel
theorem dX1_ask_93 : decode cX1_ask 93 = .ok (.iconst 4, 1) := by decide +kernel
theorem dX1_ask_94 : decode cX1_ask 94 = .ok (.if_icmp .ge 11, 3) := by decide +kernel
theorem dX1_ask_97 : decode cX1_ask 97 = .ok (.aload_n 0, 1) := by decide +kernel
theorem dX1_ask_98 : decode cX1_ask 98 = .ok (.getfield 11, 3) := by decide +kernel
theorem dX1_ask_101 : decode cX1_ask 101 = .ok (.iload 4, 2) := by decide +kernel
theorem dX1_ask_103 : decode cX1_ask 103 = .ok (.iconst (-1), 1) := by decide +kernel
theorem dX1_ask_104 : decode cX1_ask 104 = .ok (.iastore, 1) := by decide +kernel
theorem dX1_ask_105 : decode cX1_ask 105 = .ok (.return_, 1) := by decide +kernel
abbrev rmX1_ask : Room := { frames := 2, cells := 0, slots := 0, locals := 44 }
def bX1_ask_72 (a0 : Nat) (l2 : Int32) (l3 : Int32) (l4 : Int32) (z : AH) : Option AH :=
  (gN 1 0 z a0).bind fun b73 =>
  (stI 0 z b73 l2 l3).bind fun z78 =>
  (gN 1 1 z78 a0).bind fun b80 =>
  (stI 0 z78 b80 l3 l2).bind fun z85 =>
  if l4 < (0 : Int32) then (
    some z85
  ) else (
    if (4 : Int32) ≤ l4 then (
      some z85
    ) else (
      (gN 1 0 z85 a0).bind fun b98 =>
      (stI 0 z85 b98 l4 (-1 : Int32)).bind fun z104 =>
      some z104
    )
  )
set_option maxHeartbeats 4000000 in
set_option maxRecDepth 100000 in
theorem kbX1_ask_72 {p : Program} {l : Launch} {e : Env} {s : State} {m : MethodId} {args : Array Value} {below : List Frame} {meth : Method} {c : Code} {G : GW} {z' : AH} (C : Cx p m c cX1_ask 6 s args RX1 G) (hlk : meth.locks = false) (hr : meth.sig.returnType = none) (a0 : Nat) (l2 : Int32) (l3 : Int32) (l4 : Int32) {z : AH} {H : Heap} {locs : List Loc} {ls : Array Slot} (h : bX1_ask_72 a0 l2 l3 l4 z = some z') (hW : Wb G z s H locs) (hl : lv_has ls 6 [(0, .ref (gB G + a0)), (2, .int l2), (3, .int l3), (4, .int l4)]) : W p l e rmX1_ask s m args below meth c H locs 0 0 (MQ below (Qv G z') args s 0 0 (AA G)) (F0 m 72 ls []) := by
  have hx := C.1
  have hb := C.2.1
  unfold bX1_ask_72 at h
  refine lv_aload_n hx hb dX1_ask_72 rfl (lv_at hl 0 rfl) ?_
  obtain ⟨b73, hg, h⟩ := ob h
  refine wz_gN C hW flX1_11 hg dX1_ask_73 ?_
  refine lv_iload_n hx hb dX1_ask_76 rfl (lv_at hl 1 rfl) ?_
  refine lv_iload_n hx hb dX1_ask_77 rfl (lv_at hl 2 rfl) ?_
  obtain ⟨z78, hg, h⟩ := ob h
  refine wz_ast C hW hg dX1_ask_78 (fun H locs hW => ?_)
  refine lv_aload_n hx hb dX1_ask_79 rfl (lv_at hl 0 rfl) ?_
  obtain ⟨b80, hg, h⟩ := ob h
  refine wz_gN C hW flX1_17 hg dX1_ask_80 ?_
  refine lv_iload_n hx hb dX1_ask_83 rfl (lv_at hl 2 rfl) ?_
  refine lv_iload_n hx hb dX1_ask_84 rfl (lv_at hl 1 rfl) ?_
  obtain ⟨z85, hg, h⟩ := ob h
  refine wz_ast C hW hg dX1_ask_85 (fun H locs hW => ?_)
  refine lv_iload hx hb dX1_ask_86 (lv_at hl 3 rfl) ?_
  refine lv_if_lt (tgt := 105) hx hb dX1_ask_88 (by decide) (fun c88 => ?_) (fun c88 => ?_)
  · have h := ite_t c88 h
    exact wz_vretE C hlk hr (Option.some.inj h) hW dX1_ask_105
  · have h := ite_f c88 h
    refine lv_iload hx hb dX1_ask_91 (lv_at hl 3 rfl) ?_
    refine lv_iconst (v := 4) hx hb dX1_ask_93 (by decide) ?_
    refine lv_icmp_ge (tgt := 105) hx hb dX1_ask_94 (by decide) (fun c94 => ?_) (fun c94 => ?_)
    · have h := ite_t c94 h
      exact wz_vretE C hlk hr (Option.some.inj h) hW dX1_ask_105
    · have h := ite_f c94 h
      refine lv_aload_n hx hb dX1_ask_97 rfl (lv_at hl 0 rfl) ?_
      obtain ⟨b98, hg, h⟩ := ob h
      refine wz_gN C hW flX1_11 hg dX1_ask_98 ?_
      refine lv_iload hx hb dX1_ask_101 (lv_at hl 3 rfl) ?_
      refine lv_iconst (v := -1) hx hb dX1_ask_103 (by decide) ?_
      obtain ⟨z104, hg, h⟩ := ob h
      refine wz_ast C hW hg dX1_ask_104 (fun H locs hW => ?_)
      exact wz_vretE C hlk hr (Option.some.inj h) hW dX1_ask_105
def bX1_ask_54 (a0 : Nat) (l2 : Int32) (l3 : Int32) (l4 : Int32) (s0 : Int32) (z : AH) : Option AH :=
  if (0 : Int32) < s0 then (
    bX1_ask_72 a0 l2 l3 l4 z
  ) else (
    if s0 = (0 : Int32) then (
      if l4 ≤ l2 then (
        some z
      ) else (
        bX1_ask_72 a0 l2 l3 l4 z
      )
    ) else (
      some z
    )
  )
set_option maxHeartbeats 4000000 in
set_option maxRecDepth 100000 in
theorem kbX1_ask_54 {p : Program} {l : Launch} {e : Env} {s : State} {m : MethodId} {args : Array Value} {below : List Frame} {meth : Method} {c : Code} {G : GW} {z' : AH} (C : Cx p m c cX1_ask 6 s args RX1 G) (hlk : meth.locks = false) (hr : meth.sig.returnType = none) (a0 : Nat) (l2 : Int32) (l3 : Int32) (l4 : Int32) (s0 : Int32) {z : AH} {H : Heap} {locs : List Loc} {ls : Array Slot} (h : bX1_ask_54 a0 l2 l3 l4 s0 z = some z') (hW : Wb G z s H locs) (hl : lv_has ls 6 [(0, .ref (gB G + a0)), (2, .int l2), (3, .int l3), (4, .int l4)]) : W p l e rmX1_ask s m args below meth c H locs 0 0 (MQ below (Qv G z') args s 0 0 (AA G)) (F0 m 54 ls [.int s0]) := by
  have hx := C.1
  have hb := C.2.1
  unfold bX1_ask_54 at h
  refine lv_istore (lv' := [(5, .int s0), (0, .ref (gB G + a0)), (2, .int l2), (3, .int l3), (4, .int l4)]) hx hb dX1_ask_54 hl (by decide) rfl (fun ls hl => ?_)
  refine lv_iload hx hb dX1_ask_56 (lv_at hl 0 rfl) ?_
  refine lv_if_gt (tgt := 72) hx hb dX1_ask_58 (by decide) (fun c58 => ?_) (fun c58 => ?_)
  · have h := ite_t c58 h
    exact kbX1_ask_72 C hlk hr a0 l2 l3 l4 h hW (lv_sub hl [1, 2, 3, 4] rfl)
  · have h := ite_f c58 h
    refine lv_iload hx hb dX1_ask_61 (lv_at hl 0 rfl) ?_
    refine lv_if_ne (tgt := 105) hx hb dX1_ask_63 (by decide) (fun c63 => ?_) (fun c63 => ?_)
    · have h := ite_f c63 h
      exact wz_vretE C hlk hr (Option.some.inj h) hW dX1_ask_105
    · have h := ite_t c63 h
      refine lv_iload_n hx hb dX1_ask_66 rfl (lv_at hl 2 rfl) ?_
      refine lv_iload hx hb dX1_ask_67 (lv_at hl 4 rfl) ?_
      refine lv_icmp_ge (tgt := 105) hx hb dX1_ask_69 (by decide) (fun c69 => ?_) (fun c69 => ?_)
      · have h := ite_t c69 h
        exact wz_vretE C hlk hr (Option.some.inj h) hW dX1_ask_105
      · have h := ite_f c69 h
        exact kbX1_ask_72 C hlk hr a0 l2 l3 l4 h hW (lv_sub hl [1, 2, 3, 4] rfl)
def fX1_ask (a0 : Nat) (a1 : Nat) (l2 : Int32) (l3 : Int32) (z : AH) : Option AH :=
  if isO 1 z a0 = true then
    if l3 < (0 : Int32) then (
      some z
    ) else (
      if l3 < (4 : Int32) then (
        (gN 1 2 z a0).bind fun b11 =>
        (ixI 0 z b11 l2).bind fun x16 =>
        (stI 0 z b11 l2 (x16 ||| (shl (1 : Int32) l3))).bind fun z21 =>
        (gN 1 1 z21 a0).bind fun b23 =>
        (ixI 0 z21 b23 l3).bind fun x27 =>
        if x27 = (-1 : Int32) then (
          bX1_ask_54 a0 l2 l3 x27 (1 : Int32) z21
        ) else (
          (fX1_rightLikes a1 l3 l2 z21).bind fun x43 =>
          (fX1_rightLikes a1 l3 x27 z21).bind fun x50 =>
          bX1_ask_54 a0 l2 l3 x27 (x43 - x50) z21
        )
      ) else (
        some z
      )
    )
  else none
set_option maxHeartbeats 4000000 in
set_option maxRecDepth 100000 in
theorem ctX1_ask (l : Launch) (G : GW) (a0 : Nat) (a1 : Nat) (l2 : Int32) (l3 : Int32) (z : AH) {z' : AH} (h : fX1_ask a0 a1 l2 l3 z = some z') : Met l yX1_ask (wy yX1_ask cX1_ask 6 none) rmX1_ask (Pz G [.ref (gB G + a0), .ref (gB G + a1), .int l2, .int l3] z) (Qv G z') 0 0 (AA G) := by
  refine wz_ent (own := RX1) (by decide +kernel) rfl (fun p e s m below meth c ls C hlk hr hin hW hl => ?_) (Nat.le_of_ble_eq_true rfl)
  have hl : lv_has ls 6 [(0, .ref (gB G + a0)), (1, .ref (gB G + a1)), (2, .int l2), (3, .int l3)] := hl
  have hx := C.1
  have hb := C.2.1
  unfold fX1_ask at h
  obtain ⟨-, h⟩ := ck h
  refine lv_iload_n hx hb dX1_ask_0 rfl (lv_at hl 3 rfl) ?_
  refine lv_if_lt (tgt := 9) hx hb dX1_ask_1 (by decide) (fun c1 => ?_) (fun c1 => ?_)
  · have h := ite_t c1 h
    exact wz_vretE C hlk hr (Option.some.inj h) hW dX1_ask_9
  · have h := ite_f c1 h
    refine lv_iload_n hx hb dX1_ask_4 rfl (lv_at hl 3 rfl) ?_
    refine lv_iconst (v := 4) hx hb dX1_ask_5 (by decide) ?_
    refine lv_icmp_lt (tgt := 10) hx hb dX1_ask_6 (by decide) (fun c6 => ?_) (fun c6 => ?_)
    · have h := ite_t c6 h
      refine lv_aload_n hx hb dX1_ask_10 rfl (lv_at hl 0 rfl) ?_
      obtain ⟨b11, hg, h⟩ := ob h
      refine wz_gN C hW flX1_20 hg dX1_ask_11 ?_
      refine lv_iload_n hx hb dX1_ask_14 rfl (lv_at hl 2 rfl) ?_
      refine lv_dup2_11 hx hb dX1_ask_15 rfl rfl ?_
      obtain ⟨x16, hg, h⟩ := ob h
      refine wz_ald C hW hg dX1_ask_16 ?_
      refine lv_iconst (v := 1) hx hb dX1_ask_17 (by decide) ?_
      refine lv_iload_n hx hb dX1_ask_18 rfl (lv_at hl 3 rfl) ?_
      refine wz_shl hx hb dX1_ask_19 ?_
      refine lv_ior hx hb dX1_ask_20 ?_
      obtain ⟨z21, hg, h⟩ := ob h
      refine wz_ast C hW hg dX1_ask_21 (fun H locs hW => ?_)
      refine lv_aload_n hx hb dX1_ask_22 rfl (lv_at hl 0 rfl) ?_
      obtain ⟨b23, hg, h⟩ := ob h
      refine wz_gN C hW flX1_17 hg dX1_ask_23 ?_
      refine lv_iload_n hx hb dX1_ask_26 rfl (lv_at hl 3 rfl) ?_
      obtain ⟨x27, hg, h⟩ := ob h
      refine wz_ald C hW hg dX1_ask_27 ?_
      refine lv_istore (lv' := [(4, .int x27), (0, .ref (gB G + a0)), (1, .ref (gB G + a1)), (2, .int l2), (3, .int l3)]) hx hb dX1_ask_28 hl (by decide) rfl (fun ls hl => ?_)
      refine lv_iload hx hb dX1_ask_30 (lv_at hl 0 rfl) ?_
      refine lv_iconst (v := -1) hx hb dX1_ask_32 (by decide) ?_
      refine lv_icmp_ne (tgt := 40) hx hb dX1_ask_33 (by decide) (fun c33 => ?_) (fun c33 => ?_)
      · have h := ite_f c33 h
        refine lv_aload_n hx hb dX1_ask_40 rfl (lv_at hl 2 rfl) ?_
        refine lv_iload_n hx hb dX1_ask_41 rfl (lv_at hl 4 rfl) ?_
        refine lv_iload_n hx hb dX1_ask_42 rfl (lv_at hl 3 rfl) ?_
        obtain ⟨x43, hq, h⟩ := ob h
        refine wz_rI (c' := 0) (s' := 0) hW (wz_runS (rest := []) C hW lTX1_53 (ctX1_rightLikes l G a1 l3 l2 z21 hq) ⟨⟨rfl, rfl⟩, Nat.le_of_ble_eq_true rfl, Nat.le_of_ble_eq_true rfl⟩ rfl hl.1 rfl (Nat.le_of_ble_eq_true rfl) dX1_ask_43 ⟨Nat.le_of_ble_eq_true rfl, Nat.le_of_ble_eq_true rfl⟩) rfl rfl (fun H locs hW => ?_)
        refine lv_aload_n hx hb dX1_ask_46 rfl (lv_at hl 2 rfl) ?_
        refine lv_iload_n hx hb dX1_ask_47 rfl (lv_at hl 4 rfl) ?_
        refine lv_iload hx hb dX1_ask_48 (lv_at hl 0 rfl) ?_
        obtain ⟨x50, hq, h⟩ := ob h
        refine wz_rI (c' := 0) (s' := 0) hW (wz_runS (rest := [.int x43]) C hW lTX1_53 (ctX1_rightLikes l G a1 l3 x27 z21 hq) ⟨⟨rfl, rfl⟩, Nat.le_of_ble_eq_true rfl, Nat.le_of_ble_eq_true rfl⟩ rfl hl.1 rfl (Nat.le_of_ble_eq_true rfl) dX1_ask_50 ⟨Nat.le_of_ble_eq_true rfl, Nat.le_of_ble_eq_true rfl⟩) rfl rfl (fun H locs hW => ?_)
        refine lv_isub hx hb dX1_ask_53 ?_
        exact kbX1_ask_54 C hlk hr a0 l2 l3 x27 (x43 - x50) h hW (lv_sub hl [1, 3, 4, 0] rfl)
      · have h := ite_t c33 h
        refine lv_iconst (v := 1) hx hb dX1_ask_36 (by decide) ?_
        refine lv_goto (tgt := 54) hx hb dX1_ask_37 (by decide) ?_
        exact kbX1_ask_54 C hlk hr a0 l2 l3 x27 (1 : Int32) h hW (lv_sub hl [1, 3, 4, 0] rfl)
    · have h := ite_f c6 h
      exact wz_vretE C hlk hr (Option.some.inj h) hW dX1_ask_9
theorem lVX1_26 : LV RX1 26 yX1_firstWhoAsks cX1_firstWhoAsks 3 (some .int) 1 := ⟨tw 975 (by decide +kernel) rfl, tw 977 (by decide +kernel) rfl, tw 27 (by decide +kernel) rfl, tw 126 (by decide +kernel) rfl, tw 978 (by decide +kernel) rfl, ⟨by decide +kernel, by decide +kernel, by decide +kernel⟩⟩
theorem lVX1_34 : LV RX1 34 yX1_ask cX1_ask 6 none 3 := ⟨tw 988 (by decide +kernel) rfl, tw 990 (by decide +kernel) rfl, tw 29 (by decide +kernel) rfl, tw 126 (by decide +kernel) rfl, tw 991 (by decide +kernel) rfl, ⟨by decide +kernel, by decide +kernel, by decide +kernel⟩⟩
theorem lVX1_23 : LV RX1 23 yX1_part cX1_part 2 none 0 := ⟨tw 971 (by decide +kernel) rfl, tw 973 (by decide +kernel) rfl, tw 26 (by decide +kernel) rfl, tw 126 (by decide +kernel) rfl, tw 974 (by decide +kernel) rfl, ⟨by decide +kernel, by decide +kernel, by decide +kernel⟩⟩
theorem dX1_marry_0 : decode cX1_marry 0 = .ok (.aload_n 0, 1) := by decide +kernel
theorem dX1_marry_1 : decode cX1_marry 1 = .ok (.invokevirtual 23, 3) := by decide +kernel
theorem dX1_marry_4 : decode cX1_marry 4 = .ok (.iconst 0, 1) := by decide +kernel
theorem dX1_marry_5 : decode cX1_marry 5 = .ok (.istore_n 2, 1) := by decide +kernel
theorem dX1_marry_6 : decode cX1_marry 6 = .ok (.iload_n 2, 1) := by decide +kernel
theorem dX1_marry_7 : decode cX1_marry 7 = .ok (.bipush 16, 2) := by decide +kernel
theorem dX1_marry_9 : decode cX1_marry 9 = .ok (.if_icmp .ge 33, 3) := by decide +kernel
theorem dX1_marry_12 : decode cX1_marry 12 = .ok (.aload_n 0, 1) := by decide +kernel
theorem dX1_marry_13 : decode cX1_marry 13 = .ok (.aload_n 1, 1) := by decide +kernel
theorem dX1_marry_14 : decode cX1_marry 14 = .ok (.invokevirtual 26, 3) := by decide +kernel
theorem dX1_marry_17 : decode cX1_marry 17 = .ok (.istore_n 3, 1) := by decide +kernel
theorem dX1_marry_18 : decode cX1_marry 18 = .ok (.iload_n 3, 1) := by decide +kernel
theorem dX1_marry_19 : decode cX1_marry 19 = .ok (.iconst (-1), 1) := by decide +kernel
theorem dX1_marry_20 : decode cX1_marry 20 = .ok (.if_icmp .ne 4, 3) := by decide +kernel
theorem dX1_marry_23 : decode cX1_marry 23 = .ok (.return_, 1) := by decide +kernel
theorem dX1_marry_24 : decode cX1_marry 24 = .ok (.aload_n 0, 1) := by decide +kernel
theorem dX1_marry_25 : decode cX1_marry 25 = .ok (.aload_n 1, 1) := by decide +kernel
theorem dX1_marry_26 : decode cX1_marry 26 = .ok (.iload_n 3, 1) := by decide +kernel
theorem dX1_marry_27 : decode cX1_marry 27 = .ok (.aload_n 0, 1) := by decide +kernel
theorem dX1_marry_28 : decode cX1_marry 28 = .ok (.aload_n 1, 1) := by decide +kernel
theorem dX1_marry_29 : decode cX1_marry 29 = .ok (.iload_n 3, 1) := by decide +kernel
theorem dX1_marry_30 : decode cX1_marry 30 = .ok (.invokevirtual 30, 3) := by decide +kernel
theorem dX1_marry_33 : decode cX1_marry 33 = .ok (.invokevirtual 34, 3) := by decide +kernel
theorem dX1_marry_36 : decode cX1_marry 36 = .ok (.iinc 2 1, 3) := by decide +kernel
theorem dX1_marry_39 : decode cX1_marry 39 = .ok (.goto (-33), 3) := by decide +kernel
theorem dX1_marry_42 : decode cX1_marry 42 = .ok (.return_, 1) := by decide +kernel
abbrev rmX1_marry : Room := { frames := 4, cells := 0, slots := 0, locals := 92 }
def bX1_marry_6 (k6 : Nat → Nat → Int32 → AH → Option AH) (a0 : Nat) (a1 : Nat) (l2 : Int32) (z : AH) : Option AH :=
  if (16 : Int32) ≤ l2 then (
    some z
  ) else (
    (fX1_firstWhoAsks a0 a1 z).bind fun x14 =>
    if x14 = (-1 : Int32) then (
      some z
    ) else (
      (fX1_favourite a0 a1 x14 z).bind fun x30 =>
      (fX1_ask a0 a1 x14 x30 z).bind fun z33 =>
      nm (l2 + (1 : Int32)) fun v36 =>
      k6 a0 a1 v36 z33
    )
  )
set_option maxHeartbeats 4000000 in
set_option maxRecDepth 100000 in
theorem kbX1_marry_6 {p : Program} {l : Launch} {e : Env} {s : State} {m : MethodId} {args : Array Value} {below : List Frame} {meth : Method} {c : Code} {G : GW} {z' : AH} (C : Cx p m c cX1_marry 4 s args RX1 G) (hlk : meth.locks = false) (hr : meth.sig.returnType = none) (k6 : Nat → Nat → Int32 → AH → Option AH) (hk6 : ∀ (a0 : Nat) (a1 : Nat) (l2 : Int32) (z : AH) (H : Heap) (locs : List Loc) (ls : Array Slot), k6 a0 a1 l2 z = some z' → Wb G z s H locs → lv_has ls 4 [(0, .ref (gB G + a0)), (1, .ref (gB G + a1)), (2, .int l2)] → W p l e rmX1_marry s m args below meth c H locs 0 0 (MQ below (Qv G z') args s 0 0 (AA G)) (F0 m 6 ls [])) (a0 : Nat) (a1 : Nat) (l2 : Int32) {z : AH} {H : Heap} {locs : List Loc} {ls : Array Slot} (h : bX1_marry_6 k6 a0 a1 l2 z = some z') (hW : Wb G z s H locs) (hl : lv_has ls 4 [(0, .ref (gB G + a0)), (1, .ref (gB G + a1)), (2, .int l2)]) : W p l e rmX1_marry s m args below meth c H locs 0 0 (MQ below (Qv G z') args s 0 0 (AA G)) (F0 m 6 ls []) := by
  have hx := C.1
  have hb := C.2.1
  unfold bX1_marry_6 at h
  refine lv_iload_n hx hb dX1_marry_6 rfl (lv_at hl 2 rfl) ?_
  refine lv_bipush (v := 16) hx hb dX1_marry_7 (by decide) ?_
  refine lv_icmp_ge (tgt := 42) hx hb dX1_marry_9 (by decide) (fun c9 => ?_) (fun c9 => ?_)
  · have h := ite_t c9 h
    exact wz_vretE C hlk hr (Option.some.inj h) hW dX1_marry_42
  · have h := ite_f c9 h
    refine lv_aload_n hx hb dX1_marry_12 rfl (lv_at hl 0 rfl) ?_
    refine lv_aload_n hx hb dX1_marry_13 rfl (lv_at hl 1 rfl) ?_
    obtain ⟨x14, hq, h⟩ := ob h
    refine wz_rI (c' := 0) (s' := 0) hW (wz_runV (rest := []) C hW lVX1_26 (ck hq).1 rfl (ctX1_firstWhoAsks l G a0 a1 z hq) ⟨⟨rfl, rfl⟩, Nat.le_of_ble_eq_true rfl, Nat.le_of_ble_eq_true rfl⟩ rfl hl.1 rfl (Nat.le_of_ble_eq_true rfl) dX1_marry_14 ⟨Nat.le_of_ble_eq_true rfl, Nat.le_of_ble_eq_true rfl⟩) rfl rfl (fun H locs hW => ?_)
    refine lv_istore_n (lv' := [(3, .int x14), (0, .ref (gB G + a0)), (1, .ref (gB G + a1)), (2, .int l2)]) hx hb dX1_marry_17 rfl hl (by decide) rfl (fun ls hl => ?_)
    refine lv_iload_n hx hb dX1_marry_18 rfl (lv_at hl 0 rfl) ?_
    refine lv_iconst (v := -1) hx hb dX1_marry_19 (by decide) ?_
    refine lv_icmp_ne (tgt := 24) hx hb dX1_marry_20 (by decide) (fun c20 => ?_) (fun c20 => ?_)
    · have h := ite_f c20 h
      refine lv_aload_n hx hb dX1_marry_24 rfl (lv_at hl 1 rfl) ?_
      refine lv_aload_n hx hb dX1_marry_25 rfl (lv_at hl 2 rfl) ?_
      refine lv_iload_n hx hb dX1_marry_26 rfl (lv_at hl 0 rfl) ?_
      refine lv_aload_n hx hb dX1_marry_27 rfl (lv_at hl 1 rfl) ?_
      refine lv_aload_n hx hb dX1_marry_28 rfl (lv_at hl 2 rfl) ?_
      refine lv_iload_n hx hb dX1_marry_29 rfl (lv_at hl 0 rfl) ?_
      obtain ⟨x30, hq, h⟩ := ob h
      refine wz_rI (c' := 0) (s' := 0) hW (wz_runV (rest := [.int x14, .ref (gB G + a1), .ref (gB G + a0)]) C hW lVX1_30 (ck hq).1 rfl (ctX1_favourite l G a0 a1 x14 z hq) ⟨⟨rfl, rfl⟩, Nat.le_of_ble_eq_true rfl, Nat.le_of_ble_eq_true rfl⟩ rfl hl.1 rfl (Nat.le_of_ble_eq_true rfl) dX1_marry_30 ⟨Nat.le_of_ble_eq_true rfl, Nat.le_of_ble_eq_true rfl⟩) rfl rfl (fun H locs hW => ?_)
      obtain ⟨z33, hq, h⟩ := ob h
      refine wz_rV (c' := 0) (s' := 0) hW (wz_runV (rest := []) C hW lVX1_34 (ck hq).1 rfl (ctX1_ask l G a0 a1 x14 x30 z hq) ⟨⟨rfl, rfl⟩, Nat.le_of_ble_eq_true rfl, Nat.le_of_ble_eq_true rfl⟩ rfl hl.1 rfl (Nat.le_of_ble_eq_true rfl) dX1_marry_33 ⟨Nat.le_of_ble_eq_true rfl, Nat.le_of_ble_eq_true rfl⟩) rfl rfl (fun H locs hW => ?_)
      obtain ⟨v36, ev36⟩ : ∃ y : Int32, y = (l2 + (1 : Int32)) := ⟨_, rfl⟩
      have h := nm_to h ev36
      refine lv_iinc (v := v36) (lv' := [(2, .int v36), (3, .int x14), (0, .ref (gB G + a0)), (1, .ref (gB G + a1))]) hx hb dX1_marry_36 hl (k := 3) rfl (by rw [ev36]; rfl) (by decide) rfl (fun ls hl => ?_)
      refine lv_goto (tgt := 6) hx hb dX1_marry_39 (by decide) ?_
      exact hk6 a0 a1 v36 z33 _ _ _ h hW (lv_sub hl [2, 3, 0] rfl)
    · have h := ite_t c20 h
      exact wz_vretE C hlk hr (Option.some.inj h) hW dX1_marry_23
def fX1_marry_6 : Nat → Nat → Nat → Int32 → AH → Option AH
  | 0, _, _, _, _ => none
  | n + 1, a0, a1, l2, z => bX1_marry_6 (fX1_marry_6 n) a0 a1 l2 z
theorem klX1_marry_6 {p : Program} {l : Launch} {e : Env} {s : State} {m : MethodId} {args : Array Value} {below : List Frame} {meth : Method} {c : Code} {G : GW} {z' : AH} (C : Cx p m c cX1_marry 4 s args RX1 G) (hlk : meth.locks = false) (hr : meth.sig.returnType = none) : ∀ (n : Nat) (a0 : Nat) (a1 : Nat) (l2 : Int32) (z : AH) (H : Heap) (locs : List Loc) (ls : Array Slot), fX1_marry_6 n a0 a1 l2 z = some z' → Wb G z s H locs → lv_has ls 4 [(0, .ref (gB G + a0)), (1, .ref (gB G + a1)), (2, .int l2)] → W p l e rmX1_marry s m args below meth c H locs 0 0 (MQ below (Qv G z') args s 0 0 (AA G)) (F0 m 6 ls []) := by
  intro n
  induction n with
  | zero => intro a0 a1 l2 z H locs ls h; have h : (none : Option AH) = some z' := h; cases h
  | succ n ih => intro a0 a1 l2 z H locs ls h hW hl; exact kbX1_marry_6 C hlk hr (fX1_marry_6 n) (fun a0 a1 l2 z H locs ls h hW hl => ih a0 a1 l2 z H locs ls h hW hl) a0 a1 l2 h hW hl
def fX1_marry (a0 : Nat) (a1 : Nat) (z : AH) : Option AH :=
  if isO 1 z a0 = true then
    (fX1_part a0 z).bind fun z1 =>
    fX1_marry_6 FU a0 a1 (0 : Int32) z1
  else none
set_option maxHeartbeats 4000000 in
set_option maxRecDepth 100000 in
theorem ctX1_marry (l : Launch) (G : GW) (a0 : Nat) (a1 : Nat) (z : AH) {z' : AH} (h : fX1_marry a0 a1 z = some z') : Met l yX1_marry (wy yX1_marry cX1_marry 4 none) rmX1_marry (Pz G [.ref (gB G + a0), .ref (gB G + a1)] z) (Qv G z') 0 0 (AA G) := by
  refine wz_ent (own := RX1) (by decide +kernel) rfl (fun p e s m below meth c ls C hlk hr hin hW hl => ?_) (Nat.le_of_ble_eq_true rfl)
  have hl : lv_has ls 4 [(0, .ref (gB G + a0)), (1, .ref (gB G + a1))] := hl
  have hx := C.1
  have hb := C.2.1
  unfold fX1_marry at h
  obtain ⟨-, h⟩ := ck h
  refine lv_aload_n hx hb dX1_marry_0 rfl (lv_at hl 0 rfl) ?_
  obtain ⟨z1, hq, h⟩ := ob h
  refine wz_rV (c' := 0) (s' := 0) hW (wz_runV (rest := []) C hW lVX1_23 (ck hq).1 rfl (ctX1_part l G a0 z hq) ⟨⟨rfl, rfl⟩, Nat.le_of_ble_eq_true rfl, Nat.le_of_ble_eq_true rfl⟩ rfl hl.1 rfl (Nat.le_of_ble_eq_true rfl) dX1_marry_1 ⟨Nat.le_of_ble_eq_true rfl, Nat.le_of_ble_eq_true rfl⟩) rfl rfl (fun H locs hW => ?_)
  refine lv_iconst (v := 0) hx hb dX1_marry_4 (by decide) ?_
  refine lv_istore_n (lv' := [(2, .int (0 : Int32)), (0, .ref (gB G + a0)), (1, .ref (gB G + a1))]) hx hb dX1_marry_5 rfl hl (by decide) rfl (fun ls hl => ?_)
  exact klX1_marry_6 C hlk hr FU a0 a1 (0 : Int32) z1 _ _ _ h hW (lv_sub hl [1, 2, 0] rfl)
theorem dX1_couple_0 : decode cX1_couple 0 = .ok (.iload_n 1, 1) := by decide +kernel
theorem dX1_couple_1 : decode cX1_couple 1 = .ok (.ifCond .lt 31, 3) := by decide +kernel
theorem dX1_couple_4 : decode cX1_couple 4 = .ok (.iload_n 1, 1) := by decide +kernel
theorem dX1_couple_5 : decode cX1_couple 5 = .ok (.iconst 4, 1) := by decide +kernel
theorem dX1_couple_6 : decode cX1_couple 6 = .ok (.if_icmp .ge 26, 3) := by decide +kernel
theorem dX1_couple_9 : decode cX1_couple 9 = .ok (.iload_n 2, 1) := by decide +kernel
theorem dX1_couple_10 : decode cX1_couple 10 = .ok (.ifCond .lt 22, 3) := by decide +kernel
theorem dX1_couple_13 : decode cX1_couple 13 = .ok (.iload_n 2, 1) := by decide +kernel
theorem dX1_couple_14 : decode cX1_couple 14 = .ok (.iconst 4, 1) := by decide +kernel
theorem dX1_couple_15 : decode cX1_couple 15 = .ok (.if_icmp .ge 17, 3) := by decide +kernel
theorem dX1_couple_18 : decode cX1_couple 18 = .ok (.aload_n 0, 1) := by decide +kernel
theorem dX1_couple_19 : decode cX1_couple 19 = .ok (.getfield 11, 3) := by decide +kernel
theorem dX1_couple_22 : decode cX1_couple 22 = .ok (.iload_n 1, 1) := by decide +kernel
theorem dX1_couple_23 : decode cX1_couple 23 = .ok (.iload_n 2, 1) := by decide +kernel
theorem dX1_couple_24 : decode cX1_couple 24 = .ok (.iastore, 1) := by decide +kernel
theorem dX1_couple_25 : decode cX1_couple 25 = .ok (.aload_n 0, 1) := by decide +kernel
theorem dX1_couple_26 : decode cX1_couple 26 = .ok (.getfield 17, 3) := by decide +kernel
theorem dX1_couple_29 : decode cX1_couple 29 = .ok (.iload_n 2, 1) := by decide +kernel
theorem dX1_couple_30 : decode cX1_couple 30 = .ok (.iload_n 1, 1) := by decide +kernel
theorem dX1_couple_31 : decode cX1_couple 31 = .ok (.iastore, 1) := by decide +kernel
theorem dX1_couple_32 : decode cX1_couple 32 = .ok (.return_, 1) := by decide +kernel
abbrev rmX1_couple : Room := { frames := 0, cells := 0, slots := 0, locals := 0 }
def fX1_couple (a0 : Nat) (l1 : Int32) (l2 : Int32) (z : AH) : Option AH :=
  if isO 1 z a0 = true then
    if l1 < (0 : Int32) then (
      some z
    ) else (
      if (4 : Int32) ≤ l1 then (
        some z
      ) else (
        if l2 < (0 : Int32) then (
          some z
        ) else (
          if (4 : Int32) ≤ l2 then (
            some z
          ) else (
            (gN 1 0 z a0).bind fun b19 =>
            (stI 0 z b19 l1 l2).bind fun z24 =>
            (gN 1 1 z24 a0).bind fun b26 =>
            (stI 0 z24 b26 l2 l1).bind fun z31 =>
            some z31
          )
        )
      )
    )
  else none
set_option maxHeartbeats 4000000 in
set_option maxRecDepth 100000 in
theorem ctX1_couple (l : Launch) (G : GW) (a0 : Nat) (l1 : Int32) (l2 : Int32) (z : AH) {z' : AH} (h : fX1_couple a0 l1 l2 z = some z') : Met l yX1_couple (wy yX1_couple cX1_couple 3 none) rmX1_couple (Pz G [.ref (gB G + a0), .int l1, .int l2] z) (Qv G z') 0 0 (AA G) := by
  refine wz_ent (own := RX1) (by decide +kernel) rfl (fun p e s m below meth c ls C hlk hr hin hW hl => ?_) (Nat.le_of_ble_eq_true rfl)
  have hl : lv_has ls 3 [(0, .ref (gB G + a0)), (1, .int l1), (2, .int l2)] := hl
  have hx := C.1
  have hb := C.2.1
  unfold fX1_couple at h
  obtain ⟨-, h⟩ := ck h
  refine lv_iload_n hx hb dX1_couple_0 rfl (lv_at hl 1 rfl) ?_
  refine lv_if_lt (tgt := 32) hx hb dX1_couple_1 (by decide) (fun c1 => ?_) (fun c1 => ?_)
  · have h := ite_t c1 h
    exact wz_vretE C hlk hr (Option.some.inj h) hW dX1_couple_32
  · have h := ite_f c1 h
    refine lv_iload_n hx hb dX1_couple_4 rfl (lv_at hl 1 rfl) ?_
    refine lv_iconst (v := 4) hx hb dX1_couple_5 (by decide) ?_
    refine lv_icmp_ge (tgt := 32) hx hb dX1_couple_6 (by decide) (fun c6 => ?_) (fun c6 => ?_)
    · have h := ite_t c6 h
      exact wz_vretE C hlk hr (Option.some.inj h) hW dX1_couple_32
    · have h := ite_f c6 h
      refine lv_iload_n hx hb dX1_couple_9 rfl (lv_at hl 2 rfl) ?_
      refine lv_if_lt (tgt := 32) hx hb dX1_couple_10 (by decide) (fun c10 => ?_) (fun c10 => ?_)
      · have h := ite_t c10 h
        exact wz_vretE C hlk hr (Option.some.inj h) hW dX1_couple_32
      · have h := ite_f c10 h
        refine lv_iload_n hx hb dX1_couple_13 rfl (lv_at hl 2 rfl) ?_
        refine lv_iconst (v := 4) hx hb dX1_couple_14 (by decide) ?_
        refine lv_icmp_ge (tgt := 32) hx hb dX1_couple_15 (by decide) (fun c15 => ?_) (fun c15 => ?_)
        · have h := ite_t c15 h
          exact wz_vretE C hlk hr (Option.some.inj h) hW dX1_couple_32
        · have h := ite_f c15 h
          refine lv_aload_n hx hb dX1_couple_18 rfl (lv_at hl 0 rfl) ?_
          obtain ⟨b19, hg, h⟩ := ob h
          refine wz_gN C hW flX1_11 hg dX1_couple_19 ?_
          refine lv_iload_n hx hb dX1_couple_22 rfl (lv_at hl 1 rfl) ?_
          refine lv_iload_n hx hb dX1_couple_23 rfl (lv_at hl 2 rfl) ?_
          obtain ⟨z24, hg, h⟩ := ob h
          refine wz_ast C hW hg dX1_couple_24 (fun H locs hW => ?_)
          refine lv_aload_n hx hb dX1_couple_25 rfl (lv_at hl 0 rfl) ?_
          obtain ⟨b26, hg, h⟩ := ob h
          refine wz_gN C hW flX1_17 hg dX1_couple_26 ?_
          refine lv_iload_n hx hb dX1_couple_29 rfl (lv_at hl 2 rfl) ?_
          refine lv_iload_n hx hb dX1_couple_30 rfl (lv_at hl 1 rfl) ?_
          obtain ⟨z31, hg, h⟩ := ob h
          refine wz_ast C hW hg dX1_couple_31 (fun H locs hW => ?_)
          exact wz_vretE C hlk hr (Option.some.inj h) hW dX1_couple_32
theorem dX1_leftWould_0 : decode cX1_leftWould 0 = .ok (.aload_n 0, 1) := by decide +kernel
theorem dX1_leftWould_1 : decode cX1_leftWould 1 = .ok (.getfield 11, 3) := by decide +kernel
theorem dX1_leftWould_4 : decode cX1_leftWould 4 = .ok (.iload_n 2, 1) := by decide +kernel
theorem dX1_leftWould_5 : decode cX1_leftWould 5 = .ok (.iaload, 1) := by decide +kernel
theorem dX1_leftWould_6 : decode cX1_leftWould 6 = .ok (.istore 4, 2) := by decide +kernel
theorem dX1_leftWould_8 : decode cX1_leftWould 8 = .ok (.iload 4, 2) := by decide +kernel
theorem dX1_leftWould_10 : decode cX1_leftWould 10 = .ok (.iconst (-1), 1) := by decide +kernel
theorem dX1_leftWould_11 : decode cX1_leftWould 11 = .ok (.if_icmp .eq 19, 3) := by decide +kernel
theorem dX1_leftWould_14 : decode cX1_leftWould 14 = .ok (.aload_n 1, 1) := by decide +kernel
theorem dX1_leftWould_15 : decode cX1_leftWould 15 = .ok (.iload_n 2, 1) := by decide +kernel
theorem dX1_leftWould_16 : decode cX1_leftWould 16 = .ok (.iload_n 3, 1) := by decide +kernel
theorem dX1_leftWould_17 : decode cX1_leftWould 17 = .ok (.invokestatic 45, 3) := by decide +kernel
theorem dX1_leftWould_20 : decode cX1_leftWould 20 = .ok (.aload_n 1, 1) := by decide +kernel
theorem dX1_leftWould_21 : decode cX1_leftWould 21 = .ok (.iload_n 2, 1) := by decide +kernel
theorem dX1_leftWould_22 : decode cX1_leftWould 22 = .ok (.iload 4, 2) := by decide +kernel
theorem dX1_leftWould_24 : decode cX1_leftWould 24 = .ok (.invokestatic 45, 3) := by decide +kernel
theorem dX1_leftWould_27 : decode cX1_leftWould 27 = .ok (.if_icmp .le 7, 3) := by decide +kernel
theorem dX1_leftWould_30 : decode cX1_leftWould 30 = .ok (.iconst 1, 1) := by decide +kernel
theorem dX1_leftWould_31 : decode cX1_leftWould 31 = .ok (.goto 4, 3) := by decide +kernel
theorem dX1_leftWould_34 : decode cX1_leftWould 34 = .ok (.iconst 0, 1) := by decide +kernel
theorem dX1_leftWould_35 : decode cX1_leftWould 35 = .ok (.ireturn, 1) := by decide +kernel
abbrev rmX1_leftWould : Room := { frames := 2, cells := 0, slots := 0, locals := 44 }
def fX1_leftWould (a0 : Nat) (a1 : Nat) (l2 : Int32) (l3 : Int32) (z : AH) : Option (Int32) :=
  if isO 1 z a0 = true then
    (gN 1 0 z a0).bind fun b1 =>
    (ixI 0 z b1 l2).bind fun x5 =>
    if x5 = (-1 : Int32) then (
      some (1 : Int32)
    ) else (
      (fX1_leftLikes a1 l2 l3 z).bind fun x17 =>
      (fX1_leftLikes a1 l2 x5 z).bind fun x24 =>
      if x17 ≤ x24 then (
        some (0 : Int32)
      ) else (
        some (1 : Int32)
      )
    )
  else none
set_option maxHeartbeats 4000000 in
set_option maxRecDepth 100000 in
theorem ctX1_leftWould (l : Launch) (G : GW) (a0 : Nat) (a1 : Nat) (l2 : Int32) (l3 : Int32) (z : AH) {r : Int32} (h : fX1_leftWould a0 a1 l2 l3 z = some r) : Met l yX1_leftWould (wy yX1_leftWould cX1_leftWould 5 (some .boolean)) rmX1_leftWould (Pz G [.ref (gB G + a0), .ref (gB G + a1), .int l2, .int l3] z) (Qi G r z) 0 0 (AA G) := by
  refine wz_ent (own := RX1) (by decide +kernel) rfl (fun p e s m below meth c ls C hlk hr hin hW hl => ?_) (Nat.le_of_ble_eq_true rfl)
  have hl : lv_has ls 5 [(0, .ref (gB G + a0)), (1, .ref (gB G + a1)), (2, .int l2), (3, .int l3)] := hl
  have hx := C.1
  have hb := C.2.1
  unfold fX1_leftWould at h
  obtain ⟨-, h⟩ := ck h
  refine lv_aload_n hx hb dX1_leftWould_0 rfl (lv_at hl 0 rfl) ?_
  obtain ⟨b1, hg, h⟩ := ob h
  refine wz_gN C hW flX1_11 hg dX1_leftWould_1 ?_
  refine lv_iload_n hx hb dX1_leftWould_4 rfl (lv_at hl 2 rfl) ?_
  obtain ⟨x5, hg, h⟩ := ob h
  refine wz_ald C hW hg dX1_leftWould_5 ?_
  refine lv_istore (lv' := [(4, .int x5), (0, .ref (gB G + a0)), (1, .ref (gB G + a1)), (2, .int l2), (3, .int l3)]) hx hb dX1_leftWould_6 hl (by decide) rfl (fun ls hl => ?_)
  refine lv_iload hx hb dX1_leftWould_8 (lv_at hl 0 rfl) ?_
  refine lv_iconst (v := -1) hx hb dX1_leftWould_10 (by decide) ?_
  refine lv_icmp_eq (tgt := 30) hx hb dX1_leftWould_11 (by decide) (fun c11 => ?_) (fun c11 => ?_)
  · have h := ite_t c11 h
    refine lv_iconst (v := 1) hx hb dX1_leftWould_30 (by decide) ?_
    refine lv_goto (tgt := 35) hx hb dX1_leftWould_31 (by decide) ?_
    exact wz_zretE C hlk hr (Or.inr rfl) (Option.some.inj h) rfl hW dX1_leftWould_35
  · have h := ite_f c11 h
    refine lv_aload_n hx hb dX1_leftWould_14 rfl (lv_at hl 2 rfl) ?_
    refine lv_iload_n hx hb dX1_leftWould_15 rfl (lv_at hl 3 rfl) ?_
    refine lv_iload_n hx hb dX1_leftWould_16 rfl (lv_at hl 4 rfl) ?_
    obtain ⟨x17, hq, h⟩ := ob h
    refine wz_rI (c' := 0) (s' := 0) hW (wz_runS (rest := []) C hW lTX1_45 (ctX1_leftLikes l G a1 l2 l3 z hq) ⟨⟨rfl, rfl⟩, Nat.le_of_ble_eq_true rfl, Nat.le_of_ble_eq_true rfl⟩ rfl hl.1 rfl (Nat.le_of_ble_eq_true rfl) dX1_leftWould_17 ⟨Nat.le_of_ble_eq_true rfl, Nat.le_of_ble_eq_true rfl⟩) rfl rfl (fun H locs hW => ?_)
    refine lv_aload_n hx hb dX1_leftWould_20 rfl (lv_at hl 2 rfl) ?_
    refine lv_iload_n hx hb dX1_leftWould_21 rfl (lv_at hl 3 rfl) ?_
    refine lv_iload hx hb dX1_leftWould_22 (lv_at hl 0 rfl) ?_
    obtain ⟨x24, hq, h⟩ := ob h
    refine wz_rI (c' := 0) (s' := 0) hW (wz_runS (rest := [.int x17]) C hW lTX1_45 (ctX1_leftLikes l G a1 l2 x5 z hq) ⟨⟨rfl, rfl⟩, Nat.le_of_ble_eq_true rfl, Nat.le_of_ble_eq_true rfl⟩ rfl hl.1 rfl (Nat.le_of_ble_eq_true rfl) dX1_leftWould_24 ⟨Nat.le_of_ble_eq_true rfl, Nat.le_of_ble_eq_true rfl⟩) rfl rfl (fun H locs hW => ?_)
    refine lv_icmp_le (tgt := 34) hx hb dX1_leftWould_27 (by decide) (fun c27 => ?_) (fun c27 => ?_)
    · have h := ite_t c27 h
      refine lv_iconst (v := 0) hx hb dX1_leftWould_34 (by decide) ?_
      exact wz_zretE C hlk hr (Or.inl rfl) (Option.some.inj h) rfl hW dX1_leftWould_35
    · have h := ite_f c27 h
      refine lv_iconst (v := 1) hx hb dX1_leftWould_30 (by decide) ?_
      refine lv_goto (tgt := 35) hx hb dX1_leftWould_31 (by decide) ?_
      exact wz_zretE C hlk hr (Or.inr rfl) (Option.some.inj h) rfl hW dX1_leftWould_35
theorem dX1_rightWould_0 : decode cX1_rightWould 0 = .ok (.aload_n 0, 1) := by decide +kernel
theorem dX1_rightWould_1 : decode cX1_rightWould 1 = .ok (.getfield 17, 3) := by decide +kernel
theorem dX1_rightWould_4 : decode cX1_rightWould 4 = .ok (.iload_n 2, 1) := by decide +kernel
theorem dX1_rightWould_5 : decode cX1_rightWould 5 = .ok (.iaload, 1) := by decide +kernel
theorem dX1_rightWould_6 : decode cX1_rightWould 6 = .ok (.istore 4, 2) := by decide +kernel
theorem dX1_rightWould_8 : decode cX1_rightWould 8 = .ok (.iload 4, 2) := by decide +kernel
theorem dX1_rightWould_10 : decode cX1_rightWould 10 = .ok (.iconst (-1), 1) := by decide +kernel
theorem dX1_rightWould_11 : decode cX1_rightWould 11 = .ok (.if_icmp .eq 19, 3) := by decide +kernel
theorem dX1_rightWould_14 : decode cX1_rightWould 14 = .ok (.aload_n 1, 1) := by decide +kernel
theorem dX1_rightWould_15 : decode cX1_rightWould 15 = .ok (.iload_n 2, 1) := by decide +kernel
theorem dX1_rightWould_16 : decode cX1_rightWould 16 = .ok (.iload_n 3, 1) := by decide +kernel
theorem dX1_rightWould_17 : decode cX1_rightWould 17 = .ok (.invokestatic 53, 3) := by decide +kernel
theorem dX1_rightWould_20 : decode cX1_rightWould 20 = .ok (.aload_n 1, 1) := by decide +kernel
theorem dX1_rightWould_21 : decode cX1_rightWould 21 = .ok (.iload_n 2, 1) := by decide +kernel
theorem dX1_rightWould_22 : decode cX1_rightWould 22 = .ok (.iload 4, 2) := by decide +kernel
theorem dX1_rightWould_24 : decode cX1_rightWould 24 = .ok (.invokestatic 53, 3) := by decide +kernel
theorem dX1_rightWould_27 : decode cX1_rightWould 27 = .ok (.if_icmp .le 7, 3) := by decide +kernel
theorem dX1_rightWould_30 : decode cX1_rightWould 30 = .ok (.iconst 1, 1) := by decide +kernel
theorem dX1_rightWould_31 : decode cX1_rightWould 31 = .ok (.goto 4, 3) := by decide +kernel
theorem dX1_rightWould_34 : decode cX1_rightWould 34 = .ok (.iconst 0, 1) := by decide +kernel
theorem dX1_rightWould_35 : decode cX1_rightWould 35 = .ok (.ireturn, 1) := by decide +kernel
abbrev rmX1_rightWould : Room := { frames := 2, cells := 0, slots := 0, locals := 44 }
def fX1_rightWould (a0 : Nat) (a1 : Nat) (l2 : Int32) (l3 : Int32) (z : AH) : Option (Int32) :=
  if isO 1 z a0 = true then
    (gN 1 1 z a0).bind fun b1 =>
    (ixI 0 z b1 l2).bind fun x5 =>
    if x5 = (-1 : Int32) then (
      some (1 : Int32)
    ) else (
      (fX1_rightLikes a1 l2 l3 z).bind fun x17 =>
      (fX1_rightLikes a1 l2 x5 z).bind fun x24 =>
      if x17 ≤ x24 then (
        some (0 : Int32)
      ) else (
        some (1 : Int32)
      )
    )
  else none
set_option maxHeartbeats 4000000 in
set_option maxRecDepth 100000 in
theorem ctX1_rightWould (l : Launch) (G : GW) (a0 : Nat) (a1 : Nat) (l2 : Int32) (l3 : Int32) (z : AH) {r : Int32} (h : fX1_rightWould a0 a1 l2 l3 z = some r) : Met l yX1_rightWould (wy yX1_rightWould cX1_rightWould 5 (some .boolean)) rmX1_rightWould (Pz G [.ref (gB G + a0), .ref (gB G + a1), .int l2, .int l3] z) (Qi G r z) 0 0 (AA G) := by
  refine wz_ent (own := RX1) (by decide +kernel) rfl (fun p e s m below meth c ls C hlk hr hin hW hl => ?_) (Nat.le_of_ble_eq_true rfl)
  have hl : lv_has ls 5 [(0, .ref (gB G + a0)), (1, .ref (gB G + a1)), (2, .int l2), (3, .int l3)] := hl
  have hx := C.1
  have hb := C.2.1
  unfold fX1_rightWould at h
  obtain ⟨-, h⟩ := ck h
  refine lv_aload_n hx hb dX1_rightWould_0 rfl (lv_at hl 0 rfl) ?_
  obtain ⟨b1, hg, h⟩ := ob h
  refine wz_gN C hW flX1_17 hg dX1_rightWould_1 ?_
  refine lv_iload_n hx hb dX1_rightWould_4 rfl (lv_at hl 2 rfl) ?_
  obtain ⟨x5, hg, h⟩ := ob h
  refine wz_ald C hW hg dX1_rightWould_5 ?_
  refine lv_istore (lv' := [(4, .int x5), (0, .ref (gB G + a0)), (1, .ref (gB G + a1)), (2, .int l2), (3, .int l3)]) hx hb dX1_rightWould_6 hl (by decide) rfl (fun ls hl => ?_)
  refine lv_iload hx hb dX1_rightWould_8 (lv_at hl 0 rfl) ?_
  refine lv_iconst (v := -1) hx hb dX1_rightWould_10 (by decide) ?_
  refine lv_icmp_eq (tgt := 30) hx hb dX1_rightWould_11 (by decide) (fun c11 => ?_) (fun c11 => ?_)
  · have h := ite_t c11 h
    refine lv_iconst (v := 1) hx hb dX1_rightWould_30 (by decide) ?_
    refine lv_goto (tgt := 35) hx hb dX1_rightWould_31 (by decide) ?_
    exact wz_zretE C hlk hr (Or.inr rfl) (Option.some.inj h) rfl hW dX1_rightWould_35
  · have h := ite_f c11 h
    refine lv_aload_n hx hb dX1_rightWould_14 rfl (lv_at hl 2 rfl) ?_
    refine lv_iload_n hx hb dX1_rightWould_15 rfl (lv_at hl 3 rfl) ?_
    refine lv_iload_n hx hb dX1_rightWould_16 rfl (lv_at hl 4 rfl) ?_
    obtain ⟨x17, hq, h⟩ := ob h
    refine wz_rI (c' := 0) (s' := 0) hW (wz_runS (rest := []) C hW lTX1_53 (ctX1_rightLikes l G a1 l2 l3 z hq) ⟨⟨rfl, rfl⟩, Nat.le_of_ble_eq_true rfl, Nat.le_of_ble_eq_true rfl⟩ rfl hl.1 rfl (Nat.le_of_ble_eq_true rfl) dX1_rightWould_17 ⟨Nat.le_of_ble_eq_true rfl, Nat.le_of_ble_eq_true rfl⟩) rfl rfl (fun H locs hW => ?_)
    refine lv_aload_n hx hb dX1_rightWould_20 rfl (lv_at hl 2 rfl) ?_
    refine lv_iload_n hx hb dX1_rightWould_21 rfl (lv_at hl 3 rfl) ?_
    refine lv_iload hx hb dX1_rightWould_22 (lv_at hl 0 rfl) ?_
    obtain ⟨x24, hq, h⟩ := ob h
    refine wz_rI (c' := 0) (s' := 0) hW (wz_runS (rest := [.int x17]) C hW lTX1_53 (ctX1_rightLikes l G a1 l2 x5 z hq) ⟨⟨rfl, rfl⟩, Nat.le_of_ble_eq_true rfl, Nat.le_of_ble_eq_true rfl⟩ rfl hl.1 rfl (Nat.le_of_ble_eq_true rfl) dX1_rightWould_24 ⟨Nat.le_of_ble_eq_true rfl, Nat.le_of_ble_eq_true rfl⟩) rfl rfl (fun H locs hW => ?_)
    refine lv_icmp_le (tgt := 34) hx hb dX1_rightWould_27 (by decide) (fun c27 => ?_) (fun c27 => ?_)
    · have h := ite_t c27 h
      refine lv_iconst (v := 0) hx hb dX1_rightWould_34 (by decide) ?_
      exact wz_zretE C hlk hr (Or.inl rfl) (Option.some.inj h) rfl hW dX1_rightWould_35
    · have h := ite_f c27 h
      refine lv_iconst (v := 1) hx hb dX1_rightWould_30 (by decide) ?_
      refine lv_goto (tgt := 35) hx hb dX1_rightWould_31 (by decide) ?_
      exact wz_zretE C hlk hr (Or.inr rfl) (Option.some.inj h) rfl hW dX1_rightWould_35
theorem lVX1_79 : LV RX1 79 yX1_leftWould cX1_leftWould 5 (some .boolean) 3 := ⟨tw 1008 (by decide +kernel) rfl, tw 1010 (by decide +kernel) rfl, tw 31 (by decide +kernel) rfl, tw 126 (by decide +kernel) rfl, tw 1011 (by decide +kernel) rfl, ⟨by decide +kernel, by decide +kernel, by decide +kernel⟩⟩
theorem lVX1_83 : LV RX1 83 yX1_rightWould cX1_rightWould 5 (some .boolean) 3 := ⟨tw 1012 (by decide +kernel) rfl, tw 1014 (by decide +kernel) rfl, tw 32 (by decide +kernel) rfl, tw 126 (by decide +kernel) rfl, tw 1015 (by decide +kernel) rfl, ⟨by decide +kernel, by decide +kernel, by decide +kernel⟩⟩
theorem flX1_66 : FL RX1 66 0 14 := ⟨_, rfl, Nat.le_of_ble_eq_true rfl, tw 189 (by decide +kernel) rfl, rfl⟩
theorem flX1_69 : FL RX1 69 0 15 := ⟨_, rfl, Nat.le_of_ble_eq_true rfl, tw 193 (by decide +kernel) rfl, rfl⟩
theorem flX1_72 : FL RX1 72 0 16 := ⟨_, rfl, Nat.le_of_ble_eq_true rfl, tw 195 (by decide +kernel) rfl, rfl⟩
theorem lVX1_75 : LV RX1 75 yX1_couple cX1_couple 3 none 2 := ⟨tw 1004 (by decide +kernel) rfl, tw 1006 (by decide +kernel) rfl, tw 30 (by decide +kernel) rfl, tw 126 (by decide +kernel) rfl, tw 1007 (by decide +kernel) rfl, ⟨by decide +kernel, by decide +kernel, by decide +kernel⟩⟩
theorem dX1_countUnhappy_0 : decode cX1_countUnhappy 0 = .ok (.aload_n 0, 1) := by decide +kernel
theorem dX1_countUnhappy_1 : decode cX1_countUnhappy 1 = .ok (.invokevirtual 23, 3) := by decide +kernel
theorem dX1_countUnhappy_4 : decode cX1_countUnhappy 4 = .ok (.iconst 0, 1) := by decide +kernel
theorem dX1_countUnhappy_5 : decode cX1_countUnhappy 5 = .ok (.istore_n 2, 1) := by decide +kernel
theorem dX1_countUnhappy_6 : decode cX1_countUnhappy 6 = .ok (.iload_n 2, 1) := by decide +kernel
theorem dX1_countUnhappy_7 : decode cX1_countUnhappy 7 = .ok (.aload_n 1, 1) := by decide +kernel
theorem dX1_countUnhappy_8 : decode cX1_countUnhappy 8 = .ok (.getfield 66, 3) := by decide +kernel
theorem dX1_countUnhappy_11 : decode cX1_countUnhappy 11 = .ok (.if_icmp .ge 25, 3) := by decide +kernel
theorem dX1_countUnhappy_14 : decode cX1_countUnhappy 14 = .ok (.aload_n 0, 1) := by decide +kernel
theorem dX1_countUnhappy_15 : decode cX1_countUnhappy 15 = .ok (.aload_n 1, 1) := by decide +kernel
theorem dX1_countUnhappy_16 : decode cX1_countUnhappy 16 = .ok (.getfield 69, 3) := by decide +kernel
theorem dX1_countUnhappy_19 : decode cX1_countUnhappy 19 = .ok (.iload_n 2, 1) := by decide +kernel
theorem dX1_countUnhappy_20 : decode cX1_countUnhappy 20 = .ok (.iaload, 1) := by decide +kernel
theorem dX1_countUnhappy_21 : decode cX1_countUnhappy 21 = .ok (.aload_n 1, 1) := by decide +kernel
theorem dX1_countUnhappy_22 : decode cX1_countUnhappy 22 = .ok (.getfield 72, 3) := by decide +kernel
theorem dX1_countUnhappy_25 : decode cX1_countUnhappy 25 = .ok (.iload_n 2, 1) := by decide +kernel
theorem dX1_countUnhappy_26 : decode cX1_countUnhappy 26 = .ok (.iaload, 1) := by decide +kernel
theorem dX1_countUnhappy_27 : decode cX1_countUnhappy 27 = .ok (.invokevirtual 75, 3) := by decide +kernel
theorem dX1_countUnhappy_30 : decode cX1_countUnhappy 30 = .ok (.iinc 2 1, 3) := by decide +kernel
theorem dX1_countUnhappy_33 : decode cX1_countUnhappy 33 = .ok (.goto (-27), 3) := by decide +kernel
theorem dX1_countUnhappy_36 : decode cX1_countUnhappy 36 = .ok (.iconst 0, 1) := by decide +kernel
theorem dX1_countUnhappy_37 : decode cX1_countUnhappy 37 = .ok (.istore_n 2, 1) := by decide +kernel
theorem dX1_countUnhappy_38 : decode cX1_countUnhappy 38 = .ok (.iconst 0, 1) := by decide +kernel
theorem dX1_countUnhappy_39 : decode cX1_countUnhappy 39 = .ok (.istore_n 3, 1) := by decide +kernel
theorem dX1_countUnhappy_40 : decode cX1_countUnhappy 40 = .ok (.iload_n 3, 1) := by decide +kernel
theorem dX1_countUnhappy_41 : decode cX1_countUnhappy 41 = .ok (.aload_n 1, 1) := by decide +kernel
theorem dX1_countUnhappy_42 : decode cX1_countUnhappy 42 = .ok (.getfield 38, 3) := by decide +kernel
theorem dX1_countUnhappy_45 : decode cX1_countUnhappy 45 = .ok (.if_icmp .ge 63, 3) := by decide +kernel
theorem dX1_countUnhappy_48 : decode cX1_countUnhappy 48 = .ok (.iconst 0, 1) := by decide +kernel
theorem dX1_countUnhappy_49 : decode cX1_countUnhappy 49 = .ok (.istore 4, 2) := by decide +kernel
theorem dX1_countUnhappy_51 : decode cX1_countUnhappy 51 = .ok (.iload 4, 2) := by decide +kernel
theorem dX1_countUnhappy_53 : decode cX1_countUnhappy 53 = .ok (.aload_n 1, 1) := by decide +kernel
theorem dX1_countUnhappy_54 : decode cX1_countUnhappy 54 = .ok (.getfield 42, 3) := by decide +kernel
theorem dX1_countUnhappy_57 : decode cX1_countUnhappy 57 = .ok (.if_icmp .ge 45, 3) := by decide +kernel
theorem dX1_countUnhappy_60 : decode cX1_countUnhappy 60 = .ok (.aload_n 0, 1) := by decide +kernel
theorem dX1_countUnhappy_61 : decode cX1_countUnhappy 61 = .ok (.getfield 11, 3) := by decide +kernel
theorem dX1_countUnhappy_64 : decode cX1_countUnhappy 64 = .ok (.iload_n 3, 1) := by decide +kernel
theorem dX1_countUnhappy_65 : decode cX1_countUnhappy 65 = .ok (.iaload, 1) := by decide +kernel
theorem dX1_countUnhappy_66 : decode cX1_countUnhappy 66 = .ok (.iload 4, 2) := by decide +kernel
theorem dX1_countUnhappy_68 : decode cX1_countUnhappy 68 = .ok (.if_icmp .eq 28, 3) := by decide +kernel
theorem dX1_countUnhappy_71 : decode cX1_countUnhappy 71 = .ok (.aload_n 0, 1) := by decide +kernel
theorem dX1_countUnhappy_72 : decode cX1_countUnhappy 72 = .ok (.aload_n 1, 1) := by decide +kernel
theorem dX1_countUnhappy_73 : decode cX1_countUnhappy 73 = .ok (.iload_n 3, 1) := by decide +kernel
theorem dX1_countUnhappy_74 : decode cX1_countUnhappy 74 = .ok (.iload 4, 2) := by decide +kernel
theorem dX1_countUnhappy_76 : decode cX1_countUnhappy 76 = .ok (.invokevirtual 79, 3) := by decide +kernel
theorem dX1_countUnhappy_79 : decode cX1_countUnhappy 79 = .ok (.ifCond .eq 17, 3) := by decide +kernel
theorem dX1_countUnhappy_82 : decode cX1_countUnhappy 82 = .ok (.aload_n 0, 1) := by decide +kernel
theorem dX1_countUnhappy_83 : decode cX1_countUnhappy 83 = .ok (.aload_n 1, 1) := by decide +kernel
theorem dX1_countUnhappy_84 : decode cX1_countUnhappy 84 = .ok (.iload 4, 2) := by decide +kernel
theorem dX1_countUnhappy_86 : decode cX1_countUnhappy 86 = .ok (.iload_n 3, 1) := by decide +kernel
theorem dX1_countUnhappy_87 : decode cX1_countUnhappy 87 = .ok (.invokevirtual 83, 3) := by decide +kernel
theorem dX1_countUnhappy_90 : decode cX1_countUnhappy 90 = .ok (.ifCond .eq 6, 3) := by decide +kernel
theorem dX1_countUnhappy_93 : decode cX1_countUnhappy 93 = .ok (.iinc 2 1, 3) := by decide +kernel
theorem dX1_countUnhappy_96 : decode cX1_countUnhappy 96 = .ok (.iinc 4 1, 3) := by decide +kernel
theorem dX1_countUnhappy_99 : decode cX1_countUnhappy 99 = .ok (.goto (-48), 3) := by decide +kernel
theorem dX1_countUnhappy_102 : decode cX1_countUnhappy 102 = .ok (.iinc 3 1, 3) := by decide +kernel
theorem dX1_countUnhappy_105 : decode cX1_countUnhappy 105 = .ok (.goto (-65), 3) := by decide +kernel
theorem dX1_countUnhappy_108 : decode cX1_countUnhappy 108 = .ok (.iload_n 2, 1) := by decide +kernel
theorem dX1_countUnhappy_109 : decode cX1_countUnhappy 109 = .ok (.ireturn, 1) := by decide +kernel
abbrev rmX1_countUnhappy : Room := { frames := 3, cells := 0, slots := 0, locals := 68 }
def bX1_countUnhappy_51 (k40 : Nat → Nat → Int32 → Int32 → AH → Option (Int32 × AH)) (k51 : Nat → Nat → Int32 → Int32 → Int32 → AH → Option (Int32 × AH)) (a0 : Nat) (a1 : Nat) (l2 : Int32) (l3 : Int32) (l4 : Int32) (z : AH) : Option (Int32 × AH) :=
  (gI 0 11 z a1).bind fun x54 =>
  if x54 ≤ l4 then (
    nm (l3 + (1 : Int32)) fun v102 =>
    k40 a0 a1 l2 v102 z
  ) else (
    (gN 1 0 z a0).bind fun b61 =>
    (ixI 0 z b61 l3).bind fun x65 =>
    if x65 = l4 then (
      nm (l4 + (1 : Int32)) fun v96 =>
      k51 a0 a1 l2 l3 v96 z
    ) else (
      (fX1_leftWould a0 a1 l3 l4 z).bind fun x76 =>
      if x76 = (0 : Int32) then (
        nm (l4 + (1 : Int32)) fun v96 =>
        k51 a0 a1 l2 l3 v96 z
      ) else (
        (fX1_rightWould a0 a1 l4 l3 z).bind fun x87 =>
        if x87 = (0 : Int32) then (
          nm (l4 + (1 : Int32)) fun v96 =>
          k51 a0 a1 l2 l3 v96 z
        ) else (
          nm (l2 + (1 : Int32)) fun v93 =>
          nm (l4 + (1 : Int32)) fun v96 =>
          k51 a0 a1 v93 l3 v96 z
        )
      )
    )
  )
set_option maxHeartbeats 4000000 in
set_option maxRecDepth 100000 in
theorem kbX1_countUnhappy_51 {p : Program} {l : Launch} {e : Env} {s : State} {m : MethodId} {args : Array Value} {below : List Frame} {meth : Method} {c : Code} {G : GW} {r : Int32} {z' : AH} (C : Cx p m c cX1_countUnhappy 5 s args RX1 G) (hlk : meth.locks = false) (hr : meth.sig.returnType = (some .int)) (k40 : Nat → Nat → Int32 → Int32 → AH → Option (Int32 × AH)) (k51 : Nat → Nat → Int32 → Int32 → Int32 → AH → Option (Int32 × AH)) (hk40 : ∀ (a0 : Nat) (a1 : Nat) (l2 : Int32) (l3 : Int32) (z : AH) (H : Heap) (locs : List Loc) (ls : Array Slot), k40 a0 a1 l2 l3 z = some (r, z') → Wb G z s H locs → lv_has ls 5 [(0, .ref (gB G + a0)), (1, .ref (gB G + a1)), (2, .int l2), (3, .int l3)] → W p l e rmX1_countUnhappy s m args below meth c H locs 0 0 (MQ below (Qi G r z') args s 0 0 (AA G)) (F0 m 40 ls [])) (hk51 : ∀ (a0 : Nat) (a1 : Nat) (l2 : Int32) (l3 : Int32) (l4 : Int32) (z : AH) (H : Heap) (locs : List Loc) (ls : Array Slot), k51 a0 a1 l2 l3 l4 z = some (r, z') → Wb G z s H locs → lv_has ls 5 [(0, .ref (gB G + a0)), (1, .ref (gB G + a1)), (2, .int l2), (3, .int l3), (4, .int l4)] → W p l e rmX1_countUnhappy s m args below meth c H locs 0 0 (MQ below (Qi G r z') args s 0 0 (AA G)) (F0 m 51 ls [])) (a0 : Nat) (a1 : Nat) (l2 : Int32) (l3 : Int32) (l4 : Int32) {z : AH} {H : Heap} {locs : List Loc} {ls : Array Slot} (h : bX1_countUnhappy_51 k40 k51 a0 a1 l2 l3 l4 z = some (r, z')) (hW : Wb G z s H locs) (hl : lv_has ls 5 [(0, .ref (gB G + a0)), (1, .ref (gB G + a1)), (2, .int l2), (3, .int l3), (4, .int l4)]) : W p l e rmX1_countUnhappy s m args below meth c H locs 0 0 (MQ below (Qi G r z') args s 0 0 (AA G)) (F0 m 51 ls []) := by
  have hx := C.1
  have hb := C.2.1
  unfold bX1_countUnhappy_51 at h
  refine lv_iload hx hb dX1_countUnhappy_51 (lv_at hl 4 rfl) ?_
  refine lv_aload_n hx hb dX1_countUnhappy_53 rfl (lv_at hl 1 rfl) ?_
  obtain ⟨x54, hg, h⟩ := ob h
  refine wz_gI C hW flX1_42 hg dX1_countUnhappy_54 ?_
  refine lv_icmp_ge (tgt := 102) hx hb dX1_countUnhappy_57 (by decide) (fun c57 => ?_) (fun c57 => ?_)
  · have h := ite_t c57 h
    obtain ⟨v102, ev102⟩ : ∃ y : Int32, y = (l3 + (1 : Int32)) := ⟨_, rfl⟩
    have h := nm_to h ev102
    refine lv_iinc (v := v102) (lv' := [(3, .int v102), (0, .ref (gB G + a0)), (1, .ref (gB G + a1)), (2, .int l2), (4, .int l4)]) hx hb dX1_countUnhappy_102 hl (k := 3) rfl (by rw [ev102]; rfl) (by decide) rfl (fun ls hl => ?_)
    refine lv_goto (tgt := 40) hx hb dX1_countUnhappy_105 (by decide) ?_
    exact hk40 a0 a1 l2 v102 z _ _ _ h hW (lv_sub hl [1, 2, 3, 0] rfl)
  · have h := ite_f c57 h
    refine lv_aload_n hx hb dX1_countUnhappy_60 rfl (lv_at hl 0 rfl) ?_
    obtain ⟨b61, hg, h⟩ := ob h
    refine wz_gN C hW flX1_11 hg dX1_countUnhappy_61 ?_
    refine lv_iload_n hx hb dX1_countUnhappy_64 rfl (lv_at hl 3 rfl) ?_
    obtain ⟨x65, hg, h⟩ := ob h
    refine wz_ald C hW hg dX1_countUnhappy_65 ?_
    refine lv_iload hx hb dX1_countUnhappy_66 (lv_at hl 4 rfl) ?_
    refine lv_icmp_eq (tgt := 96) hx hb dX1_countUnhappy_68 (by decide) (fun c68 => ?_) (fun c68 => ?_)
    · have h := ite_t c68 h
      obtain ⟨v96, ev96⟩ : ∃ y : Int32, y = (l4 + (1 : Int32)) := ⟨_, rfl⟩
      have h := nm_to h ev96
      refine lv_iinc (v := v96) (lv' := [(4, .int v96), (0, .ref (gB G + a0)), (1, .ref (gB G + a1)), (2, .int l2), (3, .int l3)]) hx hb dX1_countUnhappy_96 hl (k := 4) rfl (by rw [ev96]; rfl) (by decide) rfl (fun ls hl => ?_)
      refine lv_goto (tgt := 51) hx hb dX1_countUnhappy_99 (by decide) ?_
      exact hk51 a0 a1 l2 l3 v96 z _ _ _ h hW (lv_sub hl [1, 2, 3, 4, 0] rfl)
    · have h := ite_f c68 h
      refine lv_aload_n hx hb dX1_countUnhappy_71 rfl (lv_at hl 0 rfl) ?_
      refine lv_aload_n hx hb dX1_countUnhappy_72 rfl (lv_at hl 1 rfl) ?_
      refine lv_iload_n hx hb dX1_countUnhappy_73 rfl (lv_at hl 3 rfl) ?_
      refine lv_iload hx hb dX1_countUnhappy_74 (lv_at hl 4 rfl) ?_
      obtain ⟨x76, hq, h⟩ := ob h
      refine wz_rI (c' := 0) (s' := 0) hW (wz_runV (rest := []) C hW lVX1_79 (ck hq).1 rfl (ctX1_leftWould l G a0 a1 l3 l4 z hq) ⟨⟨rfl, rfl⟩, Nat.le_of_ble_eq_true rfl, Nat.le_of_ble_eq_true rfl⟩ rfl hl.1 rfl (Nat.le_of_ble_eq_true rfl) dX1_countUnhappy_76 ⟨Nat.le_of_ble_eq_true rfl, Nat.le_of_ble_eq_true rfl⟩) rfl rfl (fun H locs hW => ?_)
      refine lv_if_eq (tgt := 96) hx hb dX1_countUnhappy_79 (by decide) (fun c79 => ?_) (fun c79 => ?_)
      · have h := ite_t c79 h
        obtain ⟨v96, ev96⟩ : ∃ y : Int32, y = (l4 + (1 : Int32)) := ⟨_, rfl⟩
        have h := nm_to h ev96
        refine lv_iinc (v := v96) (lv' := [(4, .int v96), (0, .ref (gB G + a0)), (1, .ref (gB G + a1)), (2, .int l2), (3, .int l3)]) hx hb dX1_countUnhappy_96 hl (k := 4) rfl (by rw [ev96]; rfl) (by decide) rfl (fun ls hl => ?_)
        refine lv_goto (tgt := 51) hx hb dX1_countUnhappy_99 (by decide) ?_
        exact hk51 a0 a1 l2 l3 v96 z _ _ _ h hW (lv_sub hl [1, 2, 3, 4, 0] rfl)
      · have h := ite_f c79 h
        refine lv_aload_n hx hb dX1_countUnhappy_82 rfl (lv_at hl 0 rfl) ?_
        refine lv_aload_n hx hb dX1_countUnhappy_83 rfl (lv_at hl 1 rfl) ?_
        refine lv_iload hx hb dX1_countUnhappy_84 (lv_at hl 4 rfl) ?_
        refine lv_iload_n hx hb dX1_countUnhappy_86 rfl (lv_at hl 3 rfl) ?_
        obtain ⟨x87, hq, h⟩ := ob h
        refine wz_rI (c' := 0) (s' := 0) hW (wz_runV (rest := []) C hW lVX1_83 (ck hq).1 rfl (ctX1_rightWould l G a0 a1 l4 l3 z hq) ⟨⟨rfl, rfl⟩, Nat.le_of_ble_eq_true rfl, Nat.le_of_ble_eq_true rfl⟩ rfl hl.1 rfl (Nat.le_of_ble_eq_true rfl) dX1_countUnhappy_87 ⟨Nat.le_of_ble_eq_true rfl, Nat.le_of_ble_eq_true rfl⟩) rfl rfl (fun H locs hW => ?_)
        refine lv_if_eq (tgt := 96) hx hb dX1_countUnhappy_90 (by decide) (fun c90 => ?_) (fun c90 => ?_)
        · have h := ite_t c90 h
          obtain ⟨v96, ev96⟩ : ∃ y : Int32, y = (l4 + (1 : Int32)) := ⟨_, rfl⟩
          have h := nm_to h ev96
          refine lv_iinc (v := v96) (lv' := [(4, .int v96), (0, .ref (gB G + a0)), (1, .ref (gB G + a1)), (2, .int l2), (3, .int l3)]) hx hb dX1_countUnhappy_96 hl (k := 4) rfl (by rw [ev96]; rfl) (by decide) rfl (fun ls hl => ?_)
          refine lv_goto (tgt := 51) hx hb dX1_countUnhappy_99 (by decide) ?_
          exact hk51 a0 a1 l2 l3 v96 z _ _ _ h hW (lv_sub hl [1, 2, 3, 4, 0] rfl)
        · have h := ite_f c90 h
          obtain ⟨v93, ev93⟩ : ∃ y : Int32, y = (l2 + (1 : Int32)) := ⟨_, rfl⟩
          have h := nm_to h ev93
          refine lv_iinc (v := v93) (lv' := [(2, .int v93), (0, .ref (gB G + a0)), (1, .ref (gB G + a1)), (3, .int l3), (4, .int l4)]) hx hb dX1_countUnhappy_93 hl (k := 2) rfl (by rw [ev93]; rfl) (by decide) rfl (fun ls hl => ?_)
          obtain ⟨v96, ev96⟩ : ∃ y : Int32, y = (l4 + (1 : Int32)) := ⟨_, rfl⟩
          have h := nm_to h ev96
          refine lv_iinc (v := v96) (lv' := [(4, .int v96), (2, .int v93), (0, .ref (gB G + a0)), (1, .ref (gB G + a1)), (3, .int l3)]) hx hb dX1_countUnhappy_96 hl (k := 4) rfl (by rw [ev96]; rfl) (by decide) rfl (fun ls hl => ?_)
          refine lv_goto (tgt := 51) hx hb dX1_countUnhappy_99 (by decide) ?_
          exact hk51 a0 a1 v93 l3 v96 z _ _ _ h hW (lv_sub hl [2, 3, 1, 4, 0] rfl)
def fX1_countUnhappy_51 (k40 : Nat → Nat → Int32 → Int32 → AH → Option (Int32 × AH)) : Nat → Nat → Nat → Int32 → Int32 → Int32 → AH → Option (Int32 × AH)
  | 0, _, _, _, _, _, _ => none
  | n + 1, a0, a1, l2, l3, l4, z => bX1_countUnhappy_51 k40 (fX1_countUnhappy_51 k40 n) a0 a1 l2 l3 l4 z
theorem klX1_countUnhappy_51 {p : Program} {l : Launch} {e : Env} {s : State} {m : MethodId} {args : Array Value} {below : List Frame} {meth : Method} {c : Code} {G : GW} {r : Int32} {z' : AH} (C : Cx p m c cX1_countUnhappy 5 s args RX1 G) (hlk : meth.locks = false) (hr : meth.sig.returnType = (some .int)) (k40 : Nat → Nat → Int32 → Int32 → AH → Option (Int32 × AH)) (hk40 : ∀ (a0 : Nat) (a1 : Nat) (l2 : Int32) (l3 : Int32) (z : AH) (H : Heap) (locs : List Loc) (ls : Array Slot), k40 a0 a1 l2 l3 z = some (r, z') → Wb G z s H locs → lv_has ls 5 [(0, .ref (gB G + a0)), (1, .ref (gB G + a1)), (2, .int l2), (3, .int l3)] → W p l e rmX1_countUnhappy s m args below meth c H locs 0 0 (MQ below (Qi G r z') args s 0 0 (AA G)) (F0 m 40 ls [])) : ∀ (n : Nat) (a0 : Nat) (a1 : Nat) (l2 : Int32) (l3 : Int32) (l4 : Int32) (z : AH) (H : Heap) (locs : List Loc) (ls : Array Slot), fX1_countUnhappy_51 k40 n a0 a1 l2 l3 l4 z = some (r, z') → Wb G z s H locs → lv_has ls 5 [(0, .ref (gB G + a0)), (1, .ref (gB G + a1)), (2, .int l2), (3, .int l3), (4, .int l4)] → W p l e rmX1_countUnhappy s m args below meth c H locs 0 0 (MQ below (Qi G r z') args s 0 0 (AA G)) (F0 m 51 ls []) := by
  intro n
  induction n with
  | zero => intro a0 a1 l2 l3 l4 z H locs ls h; have h : (none : Option (Int32 × AH)) = some (r, z') := h; cases h
  | succ n ih => intro a0 a1 l2 l3 l4 z H locs ls h hW hl; exact kbX1_countUnhappy_51 C hlk hr k40 (fX1_countUnhappy_51 k40 n) hk40 (fun a0 a1 l2 l3 l4 z H locs ls h hW hl => ih a0 a1 l2 l3 l4 z H locs ls h hW hl) a0 a1 l2 l3 l4 h hW hl
def bX1_countUnhappy_40 (k40 : Nat → Nat → Int32 → Int32 → AH → Option (Int32 × AH)) (a0 : Nat) (a1 : Nat) (l2 : Int32) (l3 : Int32) (z : AH) : Option (Int32 × AH) :=
  (gI 0 10 z a1).bind fun x42 =>
  if x42 ≤ l3 then (
    some (l2, z)
  ) else (
    fX1_countUnhappy_51 k40 FU a0 a1 l2 l3 (0 : Int32) z
  )
set_option maxHeartbeats 4000000 in
set_option maxRecDepth 100000 in
theorem kbX1_countUnhappy_40 {p : Program} {l : Launch} {e : Env} {s : State} {m : MethodId} {args : Array Value} {below : List Frame} {meth : Method} {c : Code} {G : GW} {r : Int32} {z' : AH} (C : Cx p m c cX1_countUnhappy 5 s args RX1 G) (hlk : meth.locks = false) (hr : meth.sig.returnType = (some .int)) (k40 : Nat → Nat → Int32 → Int32 → AH → Option (Int32 × AH)) (hk40 : ∀ (a0 : Nat) (a1 : Nat) (l2 : Int32) (l3 : Int32) (z : AH) (H : Heap) (locs : List Loc) (ls : Array Slot), k40 a0 a1 l2 l3 z = some (r, z') → Wb G z s H locs → lv_has ls 5 [(0, .ref (gB G + a0)), (1, .ref (gB G + a1)), (2, .int l2), (3, .int l3)] → W p l e rmX1_countUnhappy s m args below meth c H locs 0 0 (MQ below (Qi G r z') args s 0 0 (AA G)) (F0 m 40 ls [])) (a0 : Nat) (a1 : Nat) (l2 : Int32) (l3 : Int32) {z : AH} {H : Heap} {locs : List Loc} {ls : Array Slot} (h : bX1_countUnhappy_40 k40 a0 a1 l2 l3 z = some (r, z')) (hW : Wb G z s H locs) (hl : lv_has ls 5 [(0, .ref (gB G + a0)), (1, .ref (gB G + a1)), (2, .int l2), (3, .int l3)]) : W p l e rmX1_countUnhappy s m args below meth c H locs 0 0 (MQ below (Qi G r z') args s 0 0 (AA G)) (F0 m 40 ls []) := by
  have hx := C.1
  have hb := C.2.1
  unfold bX1_countUnhappy_40 at h
  refine lv_iload_n hx hb dX1_countUnhappy_40 rfl (lv_at hl 3 rfl) ?_
  refine lv_aload_n hx hb dX1_countUnhappy_41 rfl (lv_at hl 1 rfl) ?_
  obtain ⟨x42, hg, h⟩ := ob h
  refine wz_gI C hW flX1_38 hg dX1_countUnhappy_42 ?_
  refine lv_icmp_ge (tgt := 108) hx hb dX1_countUnhappy_45 (by decide) (fun c45 => ?_) (fun c45 => ?_)
  · have h := ite_t c45 h
    refine lv_iload_n hx hb dX1_countUnhappy_108 rfl (lv_at hl 2 rfl) ?_
    exact wz_iretE C hlk hr (so2 h).1 (so2 h).2 hW dX1_countUnhappy_109
  · have h := ite_f c45 h
    refine lv_iconst (v := 0) hx hb dX1_countUnhappy_48 (by decide) ?_
    refine lv_istore (lv' := [(4, .int (0 : Int32)), (0, .ref (gB G + a0)), (1, .ref (gB G + a1)), (2, .int l2), (3, .int l3)]) hx hb dX1_countUnhappy_49 hl (by decide) rfl (fun ls hl => ?_)
    exact klX1_countUnhappy_51 C hlk hr k40 hk40 FU a0 a1 l2 l3 (0 : Int32) z _ _ _ h hW (lv_sub hl [1, 2, 3, 4, 0] rfl)
def fX1_countUnhappy_40 : Nat → Nat → Nat → Int32 → Int32 → AH → Option (Int32 × AH)
  | 0, _, _, _, _, _ => none
  | n + 1, a0, a1, l2, l3, z => bX1_countUnhappy_40 (fX1_countUnhappy_40 n) a0 a1 l2 l3 z
theorem klX1_countUnhappy_40 {p : Program} {l : Launch} {e : Env} {s : State} {m : MethodId} {args : Array Value} {below : List Frame} {meth : Method} {c : Code} {G : GW} {r : Int32} {z' : AH} (C : Cx p m c cX1_countUnhappy 5 s args RX1 G) (hlk : meth.locks = false) (hr : meth.sig.returnType = (some .int)) : ∀ (n : Nat) (a0 : Nat) (a1 : Nat) (l2 : Int32) (l3 : Int32) (z : AH) (H : Heap) (locs : List Loc) (ls : Array Slot), fX1_countUnhappy_40 n a0 a1 l2 l3 z = some (r, z') → Wb G z s H locs → lv_has ls 5 [(0, .ref (gB G + a0)), (1, .ref (gB G + a1)), (2, .int l2), (3, .int l3)] → W p l e rmX1_countUnhappy s m args below meth c H locs 0 0 (MQ below (Qi G r z') args s 0 0 (AA G)) (F0 m 40 ls []) := by
  intro n
  induction n with
  | zero => intro a0 a1 l2 l3 z H locs ls h; have h : (none : Option (Int32 × AH)) = some (r, z') := h; cases h
  | succ n ih => intro a0 a1 l2 l3 z H locs ls h hW hl; exact kbX1_countUnhappy_40 C hlk hr (fX1_countUnhappy_40 n) (fun a0 a1 l2 l3 z H locs ls h hW hl => ih a0 a1 l2 l3 z H locs ls h hW hl) a0 a1 l2 l3 h hW hl
def bX1_countUnhappy_6 (k6 : Nat → Nat → Int32 → AH → Option (Int32 × AH)) (a0 : Nat) (a1 : Nat) (l2 : Int32) (z : AH) : Option (Int32 × AH) :=
  (gI 0 14 z a1).bind fun x8 =>
  if x8 ≤ l2 then (
    fX1_countUnhappy_40 FU a0 a1 (0 : Int32) (0 : Int32) z
  ) else (
    (gN 0 15 z a1).bind fun b16 =>
    (ixI 0 z b16 l2).bind fun x20 =>
    (gN 0 16 z a1).bind fun b22 =>
    (ixI 0 z b22 l2).bind fun x26 =>
    (fX1_couple a0 x20 x26 z).bind fun z27 =>
    nm (l2 + (1 : Int32)) fun v30 =>
    k6 a0 a1 v30 z27
  )
set_option maxHeartbeats 4000000 in
set_option maxRecDepth 100000 in
theorem kbX1_countUnhappy_6 {p : Program} {l : Launch} {e : Env} {s : State} {m : MethodId} {args : Array Value} {below : List Frame} {meth : Method} {c : Code} {G : GW} {r : Int32} {z' : AH} (C : Cx p m c cX1_countUnhappy 5 s args RX1 G) (hlk : meth.locks = false) (hr : meth.sig.returnType = (some .int)) (k6 : Nat → Nat → Int32 → AH → Option (Int32 × AH)) (hk6 : ∀ (a0 : Nat) (a1 : Nat) (l2 : Int32) (z : AH) (H : Heap) (locs : List Loc) (ls : Array Slot), k6 a0 a1 l2 z = some (r, z') → Wb G z s H locs → lv_has ls 5 [(0, .ref (gB G + a0)), (1, .ref (gB G + a1)), (2, .int l2)] → W p l e rmX1_countUnhappy s m args below meth c H locs 0 0 (MQ below (Qi G r z') args s 0 0 (AA G)) (F0 m 6 ls [])) (a0 : Nat) (a1 : Nat) (l2 : Int32) {z : AH} {H : Heap} {locs : List Loc} {ls : Array Slot} (h : bX1_countUnhappy_6 k6 a0 a1 l2 z = some (r, z')) (hW : Wb G z s H locs) (hl : lv_has ls 5 [(0, .ref (gB G + a0)), (1, .ref (gB G + a1)), (2, .int l2)]) : W p l e rmX1_countUnhappy s m args below meth c H locs 0 0 (MQ below (Qi G r z') args s 0 0 (AA G)) (F0 m 6 ls []) := by
  have hx := C.1
  have hb := C.2.1
  unfold bX1_countUnhappy_6 at h
  refine lv_iload_n hx hb dX1_countUnhappy_6 rfl (lv_at hl 2 rfl) ?_
  refine lv_aload_n hx hb dX1_countUnhappy_7 rfl (lv_at hl 1 rfl) ?_
  obtain ⟨x8, hg, h⟩ := ob h
  refine wz_gI C hW flX1_66 hg dX1_countUnhappy_8 ?_
  refine lv_icmp_ge (tgt := 36) hx hb dX1_countUnhappy_11 (by decide) (fun c11 => ?_) (fun c11 => ?_)
  · have h := ite_t c11 h
    refine lv_iconst (v := 0) hx hb dX1_countUnhappy_36 (by decide) ?_
    refine lv_istore_n (lv' := [(2, .int (0 : Int32)), (0, .ref (gB G + a0)), (1, .ref (gB G + a1))]) hx hb dX1_countUnhappy_37 rfl hl (by decide) rfl (fun ls hl => ?_)
    refine lv_iconst (v := 0) hx hb dX1_countUnhappy_38 (by decide) ?_
    refine lv_istore_n (lv' := [(3, .int (0 : Int32)), (2, .int (0 : Int32)), (0, .ref (gB G + a0)), (1, .ref (gB G + a1))]) hx hb dX1_countUnhappy_39 rfl hl (by decide) rfl (fun ls hl => ?_)
    exact klX1_countUnhappy_40 C hlk hr FU a0 a1 (0 : Int32) (0 : Int32) z _ _ _ h hW (lv_sub hl [2, 3, 1, 0] rfl)
  · have h := ite_f c11 h
    refine lv_aload_n hx hb dX1_countUnhappy_14 rfl (lv_at hl 0 rfl) ?_
    refine lv_aload_n hx hb dX1_countUnhappy_15 rfl (lv_at hl 1 rfl) ?_
    obtain ⟨b16, hg, h⟩ := ob h
    refine wz_gN C hW flX1_69 hg dX1_countUnhappy_16 ?_
    refine lv_iload_n hx hb dX1_countUnhappy_19 rfl (lv_at hl 2 rfl) ?_
    obtain ⟨x20, hg, h⟩ := ob h
    refine wz_ald C hW hg dX1_countUnhappy_20 ?_
    refine lv_aload_n hx hb dX1_countUnhappy_21 rfl (lv_at hl 1 rfl) ?_
    obtain ⟨b22, hg, h⟩ := ob h
    refine wz_gN C hW flX1_72 hg dX1_countUnhappy_22 ?_
    refine lv_iload_n hx hb dX1_countUnhappy_25 rfl (lv_at hl 2 rfl) ?_
    obtain ⟨x26, hg, h⟩ := ob h
    refine wz_ald C hW hg dX1_countUnhappy_26 ?_
    obtain ⟨z27, hq, h⟩ := ob h
    refine wz_rV (c' := 0) (s' := 0) hW (wz_runV (rest := []) C hW lVX1_75 (ck hq).1 rfl (ctX1_couple l G a0 x20 x26 z hq) ⟨⟨rfl, rfl⟩, Nat.le_of_ble_eq_true rfl, Nat.le_of_ble_eq_true rfl⟩ rfl hl.1 rfl (Nat.le_of_ble_eq_true rfl) dX1_countUnhappy_27 ⟨Nat.le_of_ble_eq_true rfl, Nat.le_of_ble_eq_true rfl⟩) rfl rfl (fun H locs hW => ?_)
    obtain ⟨v30, ev30⟩ : ∃ y : Int32, y = (l2 + (1 : Int32)) := ⟨_, rfl⟩
    have h := nm_to h ev30
    refine lv_iinc (v := v30) (lv' := [(2, .int v30), (0, .ref (gB G + a0)), (1, .ref (gB G + a1))]) hx hb dX1_countUnhappy_30 hl (k := 2) rfl (by rw [ev30]; rfl) (by decide) rfl (fun ls hl => ?_)
    refine lv_goto (tgt := 6) hx hb dX1_countUnhappy_33 (by decide) ?_
    exact hk6 a0 a1 v30 z27 _ _ _ h hW (lv_sub hl [1, 2, 0] rfl)
def fX1_countUnhappy_6 : Nat → Nat → Nat → Int32 → AH → Option (Int32 × AH)
  | 0, _, _, _, _ => none
  | n + 1, a0, a1, l2, z => bX1_countUnhappy_6 (fX1_countUnhappy_6 n) a0 a1 l2 z
theorem klX1_countUnhappy_6 {p : Program} {l : Launch} {e : Env} {s : State} {m : MethodId} {args : Array Value} {below : List Frame} {meth : Method} {c : Code} {G : GW} {r : Int32} {z' : AH} (C : Cx p m c cX1_countUnhappy 5 s args RX1 G) (hlk : meth.locks = false) (hr : meth.sig.returnType = (some .int)) : ∀ (n : Nat) (a0 : Nat) (a1 : Nat) (l2 : Int32) (z : AH) (H : Heap) (locs : List Loc) (ls : Array Slot), fX1_countUnhappy_6 n a0 a1 l2 z = some (r, z') → Wb G z s H locs → lv_has ls 5 [(0, .ref (gB G + a0)), (1, .ref (gB G + a1)), (2, .int l2)] → W p l e rmX1_countUnhappy s m args below meth c H locs 0 0 (MQ below (Qi G r z') args s 0 0 (AA G)) (F0 m 6 ls []) := by
  intro n
  induction n with
  | zero => intro a0 a1 l2 z H locs ls h; have h : (none : Option (Int32 × AH)) = some (r, z') := h; cases h
  | succ n ih => intro a0 a1 l2 z H locs ls h hW hl; exact kbX1_countUnhappy_6 C hlk hr (fX1_countUnhappy_6 n) (fun a0 a1 l2 z H locs ls h hW hl => ih a0 a1 l2 z H locs ls h hW hl) a0 a1 l2 h hW hl
def fX1_countUnhappy (a0 : Nat) (a1 : Nat) (z : AH) : Option (Int32 × AH) :=
  if isO 1 z a0 = true then
    (fX1_part a0 z).bind fun z1 =>
    fX1_countUnhappy_6 FU a0 a1 (0 : Int32) z1
  else none
set_option maxHeartbeats 4000000 in
set_option maxRecDepth 100000 in
theorem ctX1_countUnhappy (l : Launch) (G : GW) (a0 : Nat) (a1 : Nat) (z : AH) {r : Int32} {z' : AH} (h : fX1_countUnhappy a0 a1 z = some (r, z')) : Met l yX1_countUnhappy (wy yX1_countUnhappy cX1_countUnhappy 5 (some .int)) rmX1_countUnhappy (Pz G [.ref (gB G + a0), .ref (gB G + a1)] z) (Qi G r z') 0 0 (AA G) := by
  refine wz_ent (own := RX1) (by decide +kernel) rfl (fun p e s m below meth c ls C hlk hr hin hW hl => ?_) (Nat.le_of_ble_eq_true rfl)
  have hl : lv_has ls 5 [(0, .ref (gB G + a0)), (1, .ref (gB G + a1))] := hl
  have hx := C.1
  have hb := C.2.1
  unfold fX1_countUnhappy at h
  obtain ⟨-, h⟩ := ck h
  refine lv_aload_n hx hb dX1_countUnhappy_0 rfl (lv_at hl 0 rfl) ?_
  obtain ⟨z1, hq, h⟩ := ob h
  refine wz_rV (c' := 0) (s' := 0) hW (wz_runV (rest := []) C hW lVX1_23 (ck hq).1 rfl (ctX1_part l G a0 z hq) ⟨⟨rfl, rfl⟩, Nat.le_of_ble_eq_true rfl, Nat.le_of_ble_eq_true rfl⟩ rfl hl.1 rfl (Nat.le_of_ble_eq_true rfl) dX1_countUnhappy_1 ⟨Nat.le_of_ble_eq_true rfl, Nat.le_of_ble_eq_true rfl⟩) rfl rfl (fun H locs hW => ?_)
  refine lv_iconst (v := 0) hx hb dX1_countUnhappy_4 (by decide) ?_
  refine lv_istore_n (lv' := [(2, .int (0 : Int32)), (0, .ref (gB G + a0)), (1, .ref (gB G + a1))]) hx hb dX1_countUnhappy_5 rfl hl (by decide) rfl (fun ls hl => ?_)
  exact klX1_countUnhappy_6 C hlk hr FU a0 a1 (0 : Int32) z1 _ _ _ h hW (lv_sub hl [1, 2, 0] rfl)
theorem flX1_101 : FL RX1 101 0 12 := ⟨_, rfl, Nat.le_of_ble_eq_true rfl, tw 184 (by decide +kernel) rfl, rfl⟩
theorem flX1_104 : FL RX1 104 0 13 := ⟨_, rfl, Nat.le_of_ble_eq_true rfl, tw 186 (by decide +kernel) rfl, rfl⟩
theorem flX1_110 : FL RX1 110 0 19 := ⟨_, rfl, Nat.le_of_ble_eq_true rfl, tw 204 (by decide +kernel) rfl, rfl⟩
theorem dX1_withOneMore_0 : decode cX1_withOneMore 0 = .ok (.iload_n 2, 1) := by decide +kernel
theorem dX1_withOneMore_1 : decode cX1_withOneMore 1 = .ok (.istore_n 3, 1) := by decide +kernel
theorem dX1_withOneMore_2 : decode cX1_withOneMore 2 = .ok (.iconst 0, 1) := by decide +kernel
theorem dX1_withOneMore_3 : decode cX1_withOneMore 3 = .ok (.istore 4, 2) := by decide +kernel
theorem dX1_withOneMore_5 : decode cX1_withOneMore 5 = .ok (.iload 4, 2) := by decide +kernel
theorem dX1_withOneMore_7 : decode cX1_withOneMore 7 = .ok (.aload_n 0, 1) := by decide +kernel
theorem dX1_withOneMore_8 : decode cX1_withOneMore 8 = .ok (.getfield 42, 3) := by decide +kernel
theorem dX1_withOneMore_11 : decode cX1_withOneMore 11 = .ok (.if_icmp .ge 80, 3) := by decide +kernel
theorem dX1_withOneMore_14 : decode cX1_withOneMore 14 = .ok (.aload_n 0, 1) := by decide +kernel
theorem dX1_withOneMore_15 : decode cX1_withOneMore 15 = .ok (.getfield 101, 3) := by decide +kernel
theorem dX1_withOneMore_18 : decode cX1_withOneMore 18 = .ok (.iload_n 1, 1) := by decide +kernel
theorem dX1_withOneMore_19 : decode cX1_withOneMore 19 = .ok (.iaload, 1) := by decide +kernel
theorem dX1_withOneMore_20 : decode cX1_withOneMore 20 = .ok (.aload_n 0, 1) := by decide +kernel
theorem dX1_withOneMore_21 : decode cX1_withOneMore 21 = .ok (.getfield 104, 3) := by decide +kernel
theorem dX1_withOneMore_24 : decode cX1_withOneMore 24 = .ok (.iload 4, 2) := by decide +kernel
theorem dX1_withOneMore_26 : decode cX1_withOneMore 26 = .ok (.iaload, 1) := by decide +kernel
theorem dX1_withOneMore_27 : decode cX1_withOneMore 27 = .ok (.isub, 1) := by decide +kernel
theorem dX1_withOneMore_28 : decode cX1_withOneMore 28 = .ok (.invokestatic 107, 3) := by decide +kernel
theorem dX1_withOneMore_31 : decode cX1_withOneMore 31 = .ok (.aload_n 0, 1) := by decide +kernel
theorem dX1_withOneMore_32 : decode cX1_withOneMore 32 = .ok (.getfield 110, 3) := by decide +kernel
theorem dX1_withOneMore_35 : decode cX1_withOneMore 35 = .ok (.if_icmp .gt 50, 3) := by decide +kernel
theorem dX1_withOneMore_38 : decode cX1_withOneMore 38 = .ok (.iconst 0, 1) := by decide +kernel
theorem dX1_withOneMore_39 : decode cX1_withOneMore 39 = .ok (.istore 5, 2) := by decide +kernel
theorem dX1_withOneMore_41 : decode cX1_withOneMore 41 = .ok (.iload 5, 2) := by decide +kernel
theorem dX1_withOneMore_43 : decode cX1_withOneMore 43 = .ok (.bipush 16, 2) := by decide +kernel
theorem dX1_withOneMore_45 : decode cX1_withOneMore 45 = .ok (.if_icmp .ge 40, 3) := by decide +kernel
theorem dX1_withOneMore_48 : decode cX1_withOneMore 48 = .ok (.iload_n 2, 1) := by decide +kernel
theorem dX1_withOneMore_49 : decode cX1_withOneMore 49 = .ok (.iload 5, 2) := by decide +kernel
theorem dX1_withOneMore_51 : decode cX1_withOneMore 51 = .ok (.invokestatic 49, 3) := by decide +kernel
theorem dX1_withOneMore_54 : decode cX1_withOneMore 54 = .ok (.ifCond .eq 25, 3) := by decide +kernel
theorem dX1_withOneMore_57 : decode cX1_withOneMore 57 = .ok (.iload 5, 2) := by decide +kernel
theorem dX1_withOneMore_59 : decode cX1_withOneMore 59 = .ok (.iload 4, 2) := by decide +kernel
theorem dX1_withOneMore_61 : decode cX1_withOneMore 61 = .ok (.invokestatic 49, 3) := by decide +kernel
theorem dX1_withOneMore_64 : decode cX1_withOneMore 64 = .ok (.ifCond .ne 15, 3) := by decide +kernel
theorem dX1_withOneMore_67 : decode cX1_withOneMore 67 = .ok (.iload_n 3, 1) := by decide +kernel
theorem dX1_withOneMore_68 : decode cX1_withOneMore 68 = .ok (.iconst 1, 1) := by decide +kernel
theorem dX1_withOneMore_69 : decode cX1_withOneMore 69 = .ok (.iload 5, 2) := by decide +kernel
theorem dX1_withOneMore_71 : decode cX1_withOneMore 71 = .ok (.iconst 1, 1) := by decide +kernel
theorem dX1_withOneMore_72 : decode cX1_withOneMore 72 = .ok (.iload 4, 2) := by decide +kernel
theorem dX1_withOneMore_74 : decode cX1_withOneMore 74 = .ok (.ishl, 1) := by decide +kernel
theorem dX1_withOneMore_75 : decode cX1_withOneMore 75 = .ok (.ior, 1) := by decide +kernel
theorem dX1_withOneMore_76 : decode cX1_withOneMore 76 = .ok (.ishl, 1) := by decide +kernel
theorem dX1_withOneMore_77 : decode cX1_withOneMore 77 = .ok (.ior, 1) := by decide +kernel
theorem dX1_withOneMore_78 : decode cX1_withOneMore 78 = .ok (.istore_n 3, 1) := by decide +kernel
theorem dX1_withOneMore_79 : decode cX1_withOneMore 79 = .ok (.iinc 5 1, 3) := by decide +kernel
theorem dX1_withOneMore_82 : decode cX1_withOneMore 82 = .ok (.goto (-41), 3) := by decide +kernel
theorem dX1_withOneMore_85 : decode cX1_withOneMore 85 = .ok (.iinc 4 1, 3) := by decide +kernel
theorem dX1_withOneMore_88 : decode cX1_withOneMore 88 = .ok (.goto (-83), 3) := by decide +kernel
theorem dX1_withOneMore_91 : decode cX1_withOneMore 91 = .ok (.iload_n 3, 1) := by decide +kernel
theorem dX1_withOneMore_92 : decode cX1_withOneMore 92 = .ok (.ireturn, 1) := by decide +kernel
abbrev rmX1_withOneMore : Room := { frames := 1, cells := 0, slots := 0, locals := 24 }
def bX1_withOneMore_41 (k5 : Nat → Int32 → Int32 → Int32 → Int32 → Option (Int32)) (k41 : Nat → Int32 → Int32 → Int32 → Int32 → Int32 → Option (Int32)) (a0 : Nat) (l1 : Int32) (l2 : Int32) (l3 : Int32) (l4 : Int32) (l5 : Int32) (z : AH) : Option (Int32) :=
  if (16 : Int32) ≤ l5 then (
    nm (l4 + (1 : Int32)) fun v85 =>
    k5 a0 l1 l2 l3 v85
  ) else (
    if (fX9_hasBit l2 l5) = (0 : Int32) then (
      nm (l5 + (1 : Int32)) fun v79 =>
      k41 a0 l1 l2 l3 l4 v79
    ) else (
      if (fX9_hasBit l5 l4) = (0 : Int32) then (
        nm (l3 ||| (shl (1 : Int32) (l5 ||| (shl (1 : Int32) l4)))) fun v78 =>
        nm (l5 + (1 : Int32)) fun v79 =>
        k41 a0 l1 l2 v78 l4 v79
      ) else (
        nm (l5 + (1 : Int32)) fun v79 =>
        k41 a0 l1 l2 l3 l4 v79
      )
    )
  )
set_option maxHeartbeats 4000000 in
set_option maxRecDepth 100000 in
theorem kbX1_withOneMore_41 {p : Program} {l : Launch} {e : Env} {s : State} {m : MethodId} {args : Array Value} {below : List Frame} {meth : Method} {c : Code} {G : GW} {r : Int32} (C : Cx p m c cX1_withOneMore 6 s args RX1 G) (hlk : meth.locks = false) (hr : meth.sig.returnType = (some .int)) {z : AH} (k5 : Nat → Int32 → Int32 → Int32 → Int32 → Option (Int32)) (k41 : Nat → Int32 → Int32 → Int32 → Int32 → Int32 → Option (Int32)) (hk5 : ∀ (a0 : Nat) (l1 : Int32) (l2 : Int32) (l3 : Int32) (l4 : Int32) (H : Heap) (locs : List Loc) (ls : Array Slot), k5 a0 l1 l2 l3 l4 = some r → Wb G z s H locs → lv_has ls 6 [(0, .ref (gB G + a0)), (1, .int l1), (2, .int l2), (3, .int l3), (4, .int l4)] → W p l e rmX1_withOneMore s m args below meth c H locs 0 0 (MQ below (Qi G r z) args s 0 0 (AA G)) (F0 m 5 ls [])) (hk41 : ∀ (a0 : Nat) (l1 : Int32) (l2 : Int32) (l3 : Int32) (l4 : Int32) (l5 : Int32) (H : Heap) (locs : List Loc) (ls : Array Slot), k41 a0 l1 l2 l3 l4 l5 = some r → Wb G z s H locs → lv_has ls 6 [(0, .ref (gB G + a0)), (1, .int l1), (2, .int l2), (3, .int l3), (4, .int l4), (5, .int l5)] → W p l e rmX1_withOneMore s m args below meth c H locs 0 0 (MQ below (Qi G r z) args s 0 0 (AA G)) (F0 m 41 ls [])) (a0 : Nat) (l1 : Int32) (l2 : Int32) (l3 : Int32) (l4 : Int32) (l5 : Int32) {H : Heap} {locs : List Loc} {ls : Array Slot} (h : bX1_withOneMore_41 k5 k41 a0 l1 l2 l3 l4 l5 z = some r) (hW : Wb G z s H locs) (hl : lv_has ls 6 [(0, .ref (gB G + a0)), (1, .int l1), (2, .int l2), (3, .int l3), (4, .int l4), (5, .int l5)]) : W p l e rmX1_withOneMore s m args below meth c H locs 0 0 (MQ below (Qi G r z) args s 0 0 (AA G)) (F0 m 41 ls []) := by
  have hx := C.1
  have hb := C.2.1
  unfold bX1_withOneMore_41 at h
  refine lv_iload hx hb dX1_withOneMore_41 (lv_at hl 5 rfl) ?_
  refine lv_bipush (v := 16) hx hb dX1_withOneMore_43 (by decide) ?_
  refine lv_icmp_ge (tgt := 85) hx hb dX1_withOneMore_45 (by decide) (fun c45 => ?_) (fun c45 => ?_)
  · have h := ite_t c45 h
    obtain ⟨v85, ev85⟩ : ∃ y : Int32, y = (l4 + (1 : Int32)) := ⟨_, rfl⟩
    have h := nm_to h ev85
    refine lv_iinc (v := v85) (lv' := [(4, .int v85), (0, .ref (gB G + a0)), (1, .int l1), (2, .int l2), (3, .int l3), (5, .int l5)]) hx hb dX1_withOneMore_85 hl (k := 4) rfl (by rw [ev85]; rfl) (by decide) rfl (fun ls hl => ?_)
    refine lv_goto (tgt := 5) hx hb dX1_withOneMore_88 (by decide) ?_
    exact hk5 a0 l1 l2 l3 v85 _ _ _ h hW (lv_sub hl [1, 2, 3, 4, 0] rfl)
  · have h := ite_f c45 h
    refine lv_iload_n hx hb dX1_withOneMore_48 rfl (lv_at hl 2 rfl) ?_
    refine lv_iload hx hb dX1_withOneMore_49 (lv_at hl 5 rfl) ?_
    refine wz_rI (c' := 0) (s' := 0) hW (wz_runN (rest := []) C hW lNX1_49 (ctX9_hasBit l G l2 l5 z rfl) ⟨⟨rfl, rfl⟩, Nat.le_of_ble_eq_true rfl, Nat.le_of_ble_eq_true rfl⟩ rfl hl.1 rfl (Nat.le_of_ble_eq_true rfl) dX1_withOneMore_51 ⟨Nat.le_of_ble_eq_true rfl, Nat.le_of_ble_eq_true rfl⟩) rfl rfl (fun H locs hW => ?_)
    refine lv_if_eq (tgt := 79) hx hb dX1_withOneMore_54 (by decide) (fun c54 => ?_) (fun c54 => ?_)
    · have h := ite_t c54 h
      obtain ⟨v79, ev79⟩ : ∃ y : Int32, y = (l5 + (1 : Int32)) := ⟨_, rfl⟩
      have h := nm_to h ev79
      refine lv_iinc (v := v79) (lv' := [(5, .int v79), (0, .ref (gB G + a0)), (1, .int l1), (2, .int l2), (3, .int l3), (4, .int l4)]) hx hb dX1_withOneMore_79 hl (k := 5) rfl (by rw [ev79]; rfl) (by decide) rfl (fun ls hl => ?_)
      refine lv_goto (tgt := 41) hx hb dX1_withOneMore_82 (by decide) ?_
      exact hk41 a0 l1 l2 l3 l4 v79 _ _ _ h hW (lv_sub hl [1, 2, 3, 4, 5, 0] rfl)
    · have h := ite_f c54 h
      refine lv_iload hx hb dX1_withOneMore_57 (lv_at hl 5 rfl) ?_
      refine lv_iload hx hb dX1_withOneMore_59 (lv_at hl 4 rfl) ?_
      refine wz_rI (c' := 0) (s' := 0) hW (wz_runN (rest := []) C hW lNX1_49 (ctX9_hasBit l G l5 l4 z rfl) ⟨⟨rfl, rfl⟩, Nat.le_of_ble_eq_true rfl, Nat.le_of_ble_eq_true rfl⟩ rfl hl.1 rfl (Nat.le_of_ble_eq_true rfl) dX1_withOneMore_61 ⟨Nat.le_of_ble_eq_true rfl, Nat.le_of_ble_eq_true rfl⟩) rfl rfl (fun H locs hW => ?_)
      refine lv_if_ne (tgt := 79) hx hb dX1_withOneMore_64 (by decide) (fun c64 => ?_) (fun c64 => ?_)
      · have h := ite_f c64 h
        obtain ⟨v79, ev79⟩ : ∃ y : Int32, y = (l5 + (1 : Int32)) := ⟨_, rfl⟩
        have h := nm_to h ev79
        refine lv_iinc (v := v79) (lv' := [(5, .int v79), (0, .ref (gB G + a0)), (1, .int l1), (2, .int l2), (3, .int l3), (4, .int l4)]) hx hb dX1_withOneMore_79 hl (k := 5) rfl (by rw [ev79]; rfl) (by decide) rfl (fun ls hl => ?_)
        refine lv_goto (tgt := 41) hx hb dX1_withOneMore_82 (by decide) ?_
        exact hk41 a0 l1 l2 l3 l4 v79 _ _ _ h hW (lv_sub hl [1, 2, 3, 4, 5, 0] rfl)
      · have h := ite_t c64 h
        refine lv_iload_n hx hb dX1_withOneMore_67 rfl (lv_at hl 3 rfl) ?_
        refine lv_iconst (v := 1) hx hb dX1_withOneMore_68 (by decide) ?_
        refine lv_iload hx hb dX1_withOneMore_69 (lv_at hl 5 rfl) ?_
        refine lv_iconst (v := 1) hx hb dX1_withOneMore_71 (by decide) ?_
        refine lv_iload hx hb dX1_withOneMore_72 (lv_at hl 4 rfl) ?_
        refine wz_shl hx hb dX1_withOneMore_74 ?_
        refine lv_ior hx hb dX1_withOneMore_75 ?_
        refine wz_shl hx hb dX1_withOneMore_76 ?_
        refine lv_ior hx hb dX1_withOneMore_77 ?_
        refine lv_topi (fun v78 ev78 => ?_)
        have h := nm_to h ev78
        refine lv_istore_n (lv' := [(3, .int v78), (0, .ref (gB G + a0)), (1, .int l1), (2, .int l2), (4, .int l4), (5, .int l5)]) hx hb dX1_withOneMore_78 rfl hl (by decide) rfl (fun ls hl => ?_)
        obtain ⟨v79, ev79⟩ : ∃ y : Int32, y = (l5 + (1 : Int32)) := ⟨_, rfl⟩
        have h := nm_to h ev79
        refine lv_iinc (v := v79) (lv' := [(5, .int v79), (3, .int v78), (0, .ref (gB G + a0)), (1, .int l1), (2, .int l2), (4, .int l4)]) hx hb dX1_withOneMore_79 hl (k := 5) rfl (by rw [ev79]; rfl) (by decide) rfl (fun ls hl => ?_)
        refine lv_goto (tgt := 41) hx hb dX1_withOneMore_82 (by decide) ?_
        exact hk41 a0 l1 l2 v78 l4 v79 _ _ _ h hW (lv_sub hl [2, 3, 4, 1, 5, 0] rfl)
def fX1_withOneMore_41 (k5 : Nat → Int32 → Int32 → Int32 → Int32 → Option (Int32)) (z : AH) : Nat → Nat → Int32 → Int32 → Int32 → Int32 → Int32 → Option (Int32)
  | 0, _, _, _, _, _, _ => none
  | n + 1, a0, l1, l2, l3, l4, l5 => bX1_withOneMore_41 k5 (fX1_withOneMore_41 k5 z n) a0 l1 l2 l3 l4 l5 z
theorem klX1_withOneMore_41 {p : Program} {l : Launch} {e : Env} {s : State} {m : MethodId} {args : Array Value} {below : List Frame} {meth : Method} {c : Code} {G : GW} {r : Int32} (C : Cx p m c cX1_withOneMore 6 s args RX1 G) (hlk : meth.locks = false) (hr : meth.sig.returnType = (some .int)) {z : AH} (k5 : Nat → Int32 → Int32 → Int32 → Int32 → Option (Int32)) (hk5 : ∀ (a0 : Nat) (l1 : Int32) (l2 : Int32) (l3 : Int32) (l4 : Int32) (H : Heap) (locs : List Loc) (ls : Array Slot), k5 a0 l1 l2 l3 l4 = some r → Wb G z s H locs → lv_has ls 6 [(0, .ref (gB G + a0)), (1, .int l1), (2, .int l2), (3, .int l3), (4, .int l4)] → W p l e rmX1_withOneMore s m args below meth c H locs 0 0 (MQ below (Qi G r z) args s 0 0 (AA G)) (F0 m 5 ls [])) : ∀ (n : Nat) (a0 : Nat) (l1 : Int32) (l2 : Int32) (l3 : Int32) (l4 : Int32) (l5 : Int32) (H : Heap) (locs : List Loc) (ls : Array Slot), fX1_withOneMore_41 k5 z n a0 l1 l2 l3 l4 l5 = some r → Wb G z s H locs → lv_has ls 6 [(0, .ref (gB G + a0)), (1, .int l1), (2, .int l2), (3, .int l3), (4, .int l4), (5, .int l5)] → W p l e rmX1_withOneMore s m args below meth c H locs 0 0 (MQ below (Qi G r z) args s 0 0 (AA G)) (F0 m 41 ls []) := by
  intro n
  induction n with
  | zero => intro a0 l1 l2 l3 l4 l5 H locs ls h; have h : (none : Option (Int32)) = some r := h; cases h
  | succ n ih => intro a0 l1 l2 l3 l4 l5 H locs ls h hW hl; exact kbX1_withOneMore_41 C hlk hr k5 (fX1_withOneMore_41 k5 z n) hk5 (fun a0 l1 l2 l3 l4 l5 H locs ls h hW hl => ih a0 l1 l2 l3 l4 l5 H locs ls h hW hl) a0 l1 l2 l3 l4 l5 h hW hl
def bX1_withOneMore_5 (k5 : Nat → Int32 → Int32 → Int32 → Int32 → Option (Int32)) (a0 : Nat) (l1 : Int32) (l2 : Int32) (l3 : Int32) (l4 : Int32) (z : AH) : Option (Int32) :=
  (gI 0 11 z a0).bind fun x8 =>
  if x8 ≤ l4 then (
    some l3
  ) else (
    (gN 0 12 z a0).bind fun b15 =>
    (ixI 0 z b15 l1).bind fun x19 =>
    (gN 0 13 z a0).bind fun b21 =>
    (ixI 0 z b21 l4).bind fun x26 =>
    (gI 0 19 z a0).bind fun x32 =>
    if x32 < (iabs (x19 - x26)) then (
      nm (l4 + (1 : Int32)) fun v85 =>
      k5 a0 l1 l2 l3 v85
    ) else (
      fX1_withOneMore_41 k5 z FU a0 l1 l2 l3 l4 (0 : Int32)
    )
  )
set_option maxHeartbeats 4000000 in
set_option maxRecDepth 100000 in
theorem kbX1_withOneMore_5 {p : Program} {l : Launch} {e : Env} {s : State} {m : MethodId} {args : Array Value} {below : List Frame} {meth : Method} {c : Code} {G : GW} {r : Int32} (C : Cx p m c cX1_withOneMore 6 s args RX1 G) (hlk : meth.locks = false) (hr : meth.sig.returnType = (some .int)) {z : AH} (k5 : Nat → Int32 → Int32 → Int32 → Int32 → Option (Int32)) (hk5 : ∀ (a0 : Nat) (l1 : Int32) (l2 : Int32) (l3 : Int32) (l4 : Int32) (H : Heap) (locs : List Loc) (ls : Array Slot), k5 a0 l1 l2 l3 l4 = some r → Wb G z s H locs → lv_has ls 6 [(0, .ref (gB G + a0)), (1, .int l1), (2, .int l2), (3, .int l3), (4, .int l4)] → W p l e rmX1_withOneMore s m args below meth c H locs 0 0 (MQ below (Qi G r z) args s 0 0 (AA G)) (F0 m 5 ls [])) (a0 : Nat) (l1 : Int32) (l2 : Int32) (l3 : Int32) (l4 : Int32) {H : Heap} {locs : List Loc} {ls : Array Slot} (h : bX1_withOneMore_5 k5 a0 l1 l2 l3 l4 z = some r) (hW : Wb G z s H locs) (hl : lv_has ls 6 [(0, .ref (gB G + a0)), (1, .int l1), (2, .int l2), (3, .int l3), (4, .int l4)]) : W p l e rmX1_withOneMore s m args below meth c H locs 0 0 (MQ below (Qi G r z) args s 0 0 (AA G)) (F0 m 5 ls []) := by
  have hx := C.1
  have hb := C.2.1
  unfold bX1_withOneMore_5 at h
  refine lv_iload hx hb dX1_withOneMore_5 (lv_at hl 4 rfl) ?_
  refine lv_aload_n hx hb dX1_withOneMore_7 rfl (lv_at hl 0 rfl) ?_
  obtain ⟨x8, hg, h⟩ := ob h
  refine wz_gI C hW flX1_42 hg dX1_withOneMore_8 ?_
  refine lv_icmp_ge (tgt := 91) hx hb dX1_withOneMore_11 (by decide) (fun c11 => ?_) (fun c11 => ?_)
  · have h := ite_t c11 h
    refine lv_iload_n hx hb dX1_withOneMore_91 rfl (lv_at hl 3 rfl) ?_
    exact wz_iretE C hlk hr (Option.some.inj h) rfl hW dX1_withOneMore_92
  · have h := ite_f c11 h
    refine lv_aload_n hx hb dX1_withOneMore_14 rfl (lv_at hl 0 rfl) ?_
    obtain ⟨b15, hg, h⟩ := ob h
    refine wz_gN C hW flX1_101 hg dX1_withOneMore_15 ?_
    refine lv_iload_n hx hb dX1_withOneMore_18 rfl (lv_at hl 1 rfl) ?_
    obtain ⟨x19, hg, h⟩ := ob h
    refine wz_ald C hW hg dX1_withOneMore_19 ?_
    refine lv_aload_n hx hb dX1_withOneMore_20 rfl (lv_at hl 0 rfl) ?_
    obtain ⟨b21, hg, h⟩ := ob h
    refine wz_gN C hW flX1_104 hg dX1_withOneMore_21 ?_
    refine lv_iload hx hb dX1_withOneMore_24 (lv_at hl 4 rfl) ?_
    obtain ⟨x26, hg, h⟩ := ob h
    refine wz_ald C hW hg dX1_withOneMore_26 ?_
    refine lv_isub hx hb dX1_withOneMore_27 ?_
    refine wz_abs ⟨tw 1143 (by decide +kernel) rfl, tw 865 (by decide +kernel) rfl, tw 129 (by decide +kernel) rfl, tw 866 (by decide +kernel) rfl⟩ C hl.1 ⟨⟨Nat.le_of_ble_eq_true rfl, Nat.le_of_ble_eq_true rfl⟩, Nat.le_of_ble_eq_true rfl, Nat.le_of_ble_eq_true rfl⟩ (Nat.le_of_ble_eq_true rfl) dX1_withOneMore_28 ?_
    refine lv_aload_n hx hb dX1_withOneMore_31 rfl (lv_at hl 0 rfl) ?_
    obtain ⟨x32, hg, h⟩ := ob h
    refine wz_gI C hW flX1_110 hg dX1_withOneMore_32 ?_
    refine lv_icmp_gt (tgt := 85) hx hb dX1_withOneMore_35 (by decide) (fun c35 => ?_) (fun c35 => ?_)
    · have h := ite_t c35 h
      obtain ⟨v85, ev85⟩ : ∃ y : Int32, y = (l4 + (1 : Int32)) := ⟨_, rfl⟩
      have h := nm_to h ev85
      refine lv_iinc (v := v85) (lv' := [(4, .int v85), (0, .ref (gB G + a0)), (1, .int l1), (2, .int l2), (3, .int l3)]) hx hb dX1_withOneMore_85 hl (k := 4) rfl (by rw [ev85]; rfl) (by decide) rfl (fun ls hl => ?_)
      refine lv_goto (tgt := 5) hx hb dX1_withOneMore_88 (by decide) ?_
      exact hk5 a0 l1 l2 l3 v85 _ _ _ h hW (lv_sub hl [1, 2, 3, 4, 0] rfl)
    · have h := ite_f c35 h
      refine lv_iconst (v := 0) hx hb dX1_withOneMore_38 (by decide) ?_
      refine lv_istore (lv' := [(5, .int (0 : Int32)), (0, .ref (gB G + a0)), (1, .int l1), (2, .int l2), (3, .int l3), (4, .int l4)]) hx hb dX1_withOneMore_39 hl (by decide) rfl (fun ls hl => ?_)
      exact klX1_withOneMore_41 C hlk hr k5 hk5 FU a0 l1 l2 l3 l4 (0 : Int32) _ _ _ h hW (lv_sub hl [1, 2, 3, 4, 5, 0] rfl)
def fX1_withOneMore_5 (z : AH) : Nat → Nat → Int32 → Int32 → Int32 → Int32 → Option (Int32)
  | 0, _, _, _, _, _ => none
  | n + 1, a0, l1, l2, l3, l4 => bX1_withOneMore_5 (fX1_withOneMore_5 z n) a0 l1 l2 l3 l4 z
theorem klX1_withOneMore_5 {p : Program} {l : Launch} {e : Env} {s : State} {m : MethodId} {args : Array Value} {below : List Frame} {meth : Method} {c : Code} {G : GW} {r : Int32} (C : Cx p m c cX1_withOneMore 6 s args RX1 G) (hlk : meth.locks = false) (hr : meth.sig.returnType = (some .int)) {z : AH} : ∀ (n : Nat) (a0 : Nat) (l1 : Int32) (l2 : Int32) (l3 : Int32) (l4 : Int32) (H : Heap) (locs : List Loc) (ls : Array Slot), fX1_withOneMore_5 z n a0 l1 l2 l3 l4 = some r → Wb G z s H locs → lv_has ls 6 [(0, .ref (gB G + a0)), (1, .int l1), (2, .int l2), (3, .int l3), (4, .int l4)] → W p l e rmX1_withOneMore s m args below meth c H locs 0 0 (MQ below (Qi G r z) args s 0 0 (AA G)) (F0 m 5 ls []) := by
  intro n
  induction n with
  | zero => intro a0 l1 l2 l3 l4 H locs ls h; have h : (none : Option (Int32)) = some r := h; cases h
  | succ n ih => intro a0 l1 l2 l3 l4 H locs ls h hW hl; exact kbX1_withOneMore_5 C hlk hr (fX1_withOneMore_5 z n) (fun a0 l1 l2 l3 l4 H locs ls h hW hl => ih a0 l1 l2 l3 l4 H locs ls h hW hl) a0 l1 l2 l3 l4 h hW hl
def fX1_withOneMore (a0 : Nat) (l1 : Int32) (l2 : Int32) (z : AH) : Option (Int32) :=
  fX1_withOneMore_5 z FU a0 l1 l2 l2 (0 : Int32)
set_option maxHeartbeats 4000000 in
set_option maxRecDepth 100000 in
theorem ctX1_withOneMore (l : Launch) (G : GW) (a0 : Nat) (l1 : Int32) (l2 : Int32) (z : AH) {r : Int32} (h : fX1_withOneMore a0 l1 l2 z = some r) : Met l yX1_withOneMore (wy yX1_withOneMore cX1_withOneMore 6 (some .int)) rmX1_withOneMore (Pz G [.ref (gB G + a0), .int l1, .int l2] z) (Qi G r z) 0 0 (AA G) := by
  refine wz_ent (own := RX1) (by decide +kernel) rfl (fun p e s m below meth c ls C hlk hr hin hW hl => ?_) (Nat.le_of_ble_eq_true rfl)
  have hl : lv_has ls 6 [(0, .ref (gB G + a0)), (1, .int l1), (2, .int l2)] := hl
  have hx := C.1
  have hb := C.2.1
  unfold fX1_withOneMore at h
  refine lv_iload_n hx hb dX1_withOneMore_0 rfl (lv_at hl 2 rfl) ?_
  refine lv_istore_n (lv' := [(3, .int l2), (0, .ref (gB G + a0)), (1, .int l1), (2, .int l2)]) hx hb dX1_withOneMore_1 rfl hl (by decide) rfl (fun ls hl => ?_)
  refine lv_iconst (v := 0) hx hb dX1_withOneMore_2 (by decide) ?_
  refine lv_istore (lv' := [(4, .int (0 : Int32)), (3, .int l2), (0, .ref (gB G + a0)), (1, .int l1), (2, .int l2)]) hx hb dX1_withOneMore_3 hl (by decide) rfl (fun ls hl => ?_)
  exact klX1_withOneMore_5 C hlk hr FU a0 l1 l2 l2 (0 : Int32) _ _ _ h hW (lv_sub hl [2, 3, 4, 1, 0] rfl)
