theorem dX10_unhappy_7 : decode cX10_unhappy 7 = .ok (.invokevirtual 330, 3) := by decide +kernel
theorem dX10_unhappy_10 : decode cX10_unhappy 10 = .ok (.ifCond .ne 5, 3) := by decide +kernel
theorem dX10_unhappy_13 : decode cX10_unhappy 13 = .ok (.iconst (-1), 1) := by decide +kernel
theorem dX10_unhappy_14 : decode cX10_unhappy 14 = .ok (.ireturn, 1) := by decide +kernel
theorem dX10_unhappy_15 : decode cX10_unhappy 15 = .ok (.iconst 0, 1) := by decide +kernel
theorem dX10_unhappy_16 : decode cX10_unhappy 16 = .ok (.istore_n 2, 1) := by decide +kernel
theorem dX10_unhappy_17 : decode cX10_unhappy 17 = .ok (.iload_n 2, 1) := by decide +kernel
theorem dX10_unhappy_18 : decode cX10_unhappy 18 = .ok (.iconst 4, 1) := by decide +kernel
theorem dX10_unhappy_19 : decode cX10_unhappy 19 = .ok (.if_icmp .ge 23, 3) := by decide +kernel
theorem dX10_unhappy_22 : decode cX10_unhappy 22 = .ok (.aload_n 0, 1) := by decide +kernel
theorem dX10_unhappy_23 : decode cX10_unhappy 23 = .ok (.getfield 59, 3) := by decide +kernel
theorem dX10_unhappy_26 : decode cX10_unhappy 26 = .ok (.iload_n 2, 1) := by decide +kernel
theorem dX10_unhappy_27 : decode cX10_unhappy 27 = .ok (.iconst (-1), 1) := by decide +kernel
theorem dX10_unhappy_28 : decode cX10_unhappy 28 = .ok (.iastore, 1) := by decide +kernel
theorem dX10_unhappy_29 : decode cX10_unhappy 29 = .ok (.aload_n 0, 1) := by decide +kernel
theorem dX10_unhappy_30 : decode cX10_unhappy 30 = .ok (.getfield 62, 3) := by decide +kernel
theorem dX10_unhappy_33 : decode cX10_unhappy 33 = .ok (.iload_n 2, 1) := by decide +kernel
theorem dX10_unhappy_34 : decode cX10_unhappy 34 = .ok (.iconst (-1), 1) := by decide +kernel
theorem dX10_unhappy_35 : decode cX10_unhappy 35 = .ok (.iastore, 1) := by decide +kernel
theorem dX10_unhappy_36 : decode cX10_unhappy 36 = .ok (.iinc 2 1, 3) := by decide +kernel
theorem dX10_unhappy_39 : decode cX10_unhappy 39 = .ok (.goto (-22), 3) := by decide +kernel
theorem dX10_unhappy_42 : decode cX10_unhappy 42 = .ok (.iconst 0, 1) := by decide +kernel
theorem dX10_unhappy_43 : decode cX10_unhappy 43 = .ok (.istore_n 2, 1) := by decide +kernel
theorem dX10_unhappy_44 : decode cX10_unhappy 44 = .ok (.iload_n 2, 1) := by decide +kernel
theorem dX10_unhappy_45 : decode cX10_unhappy 45 = .ok (.aload_n 0, 1) := by decide +kernel
theorem dX10_unhappy_46 : decode cX10_unhappy 46 = .ok (.getfield 279, 3) := by decide +kernel
theorem dX10_unhappy_49 : decode cX10_unhappy 49 = .ok (.if_icmp .ge 51, 3) := by decide +kernel
theorem dX10_unhappy_52 : decode cX10_unhappy 52 = .ok (.aload_n 0, 1) := by decide +kernel
theorem dX10_unhappy_53 : decode cX10_unhappy 53 = .ok (.getfield 59, 3) := by decide +kernel
theorem dX10_unhappy_56 : decode cX10_unhappy 56 = .ok (.aload_n 0, 1) := by decide +kernel
theorem dX10_unhappy_57 : decode cX10_unhappy 57 = .ok (.bipush 46, 2) := by decide +kernel
theorem dX10_unhappy_59 : decode cX10_unhappy 59 = .ok (.iload_n 2, 1) := by decide +kernel
theorem dX10_unhappy_60 : decode cX10_unhappy 60 = .ok (.iadd, 1) := by decide +kernel
theorem dX10_unhappy_61 : decode cX10_unhappy 61 = .ok (.invokevirtual 272, 3) := by decide +kernel
theorem dX10_unhappy_64 : decode cX10_unhappy 64 = .ok (.aload_n 0, 1) := by decide +kernel
theorem dX10_unhappy_65 : decode cX10_unhappy 65 = .ok (.bipush 50, 2) := by decide +kernel
theorem dX10_unhappy_67 : decode cX10_unhappy 67 = .ok (.iload_n 2, 1) := by decide +kernel
theorem dX10_unhappy_68 : decode cX10_unhappy 68 = .ok (.iadd, 1) := by decide +kernel
theorem dX10_unhappy_69 : decode cX10_unhappy 69 = .ok (.invokevirtual 272, 3) := by decide +kernel
theorem dX10_unhappy_72 : decode cX10_unhappy 72 = .ok (.iastore, 1) := by decide +kernel
theorem dX10_unhappy_73 : decode cX10_unhappy 73 = .ok (.aload_n 0, 1) := by decide +kernel
theorem dX10_unhappy_74 : decode cX10_unhappy 74 = .ok (.getfield 62, 3) := by decide +kernel
theorem dX10_unhappy_77 : decode cX10_unhappy 77 = .ok (.aload_n 0, 1) := by decide +kernel
theorem dX10_unhappy_78 : decode cX10_unhappy 78 = .ok (.bipush 50, 2) := by decide +kernel
theorem dX10_unhappy_80 : decode cX10_unhappy 80 = .ok (.iload_n 2, 1) := by decide +kernel
theorem dX10_unhappy_81 : decode cX10_unhappy 81 = .ok (.iadd, 1) := by decide +kernel
theorem dX10_unhappy_82 : decode cX10_unhappy 82 = .ok (.invokevirtual 272, 3) := by decide +kernel
theorem dX10_unhappy_85 : decode cX10_unhappy 85 = .ok (.aload_n 0, 1) := by decide +kernel
theorem dX10_unhappy_86 : decode cX10_unhappy 86 = .ok (.bipush 46, 2) := by decide +kernel
theorem dX10_unhappy_88 : decode cX10_unhappy 88 = .ok (.iload_n 2, 1) := by decide +kernel
theorem dX10_unhappy_89 : decode cX10_unhappy 89 = .ok (.iadd, 1) := by decide +kernel
theorem dX10_unhappy_90 : decode cX10_unhappy 90 = .ok (.invokevirtual 272, 3) := by decide +kernel
theorem dX10_unhappy_93 : decode cX10_unhappy 93 = .ok (.iastore, 1) := by decide +kernel
theorem dX10_unhappy_94 : decode cX10_unhappy 94 = .ok (.iinc 2 1, 3) := by decide +kernel
theorem dX10_unhappy_97 : decode cX10_unhappy 97 = .ok (.goto (-53), 3) := by decide +kernel
theorem dX10_unhappy_100 : decode cX10_unhappy 100 = .ok (.iconst 0, 1) := by decide +kernel
theorem dX10_unhappy_101 : decode cX10_unhappy 101 = .ok (.istore_n 2, 1) := by decide +kernel
theorem dX10_unhappy_102 : decode cX10_unhappy 102 = .ok (.iconst 0, 1) := by decide +kernel
theorem dX10_unhappy_103 : decode cX10_unhappy 103 = .ok (.istore_n 3, 1) := by decide +kernel
theorem dX10_unhappy_104 : decode cX10_unhappy 104 = .ok (.iload_n 3, 1) := by decide +kernel
theorem dX10_unhappy_105 : decode cX10_unhappy 105 = .ok (.aload_n 0, 1) := by decide +kernel
theorem dX10_unhappy_106 : decode cX10_unhappy 106 = .ok (.iconst 2, 1) := by decide +kernel
theorem dX10_unhappy_107 : decode cX10_unhappy 107 = .ok (.invokevirtual 272, 3) := by decide +kernel
theorem dX10_unhappy_110 : decode cX10_unhappy 110 = .ok (.if_icmp .ge 136, 3) := by decide +kernel
theorem dX10_unhappy_113 : decode cX10_unhappy 113 = .ok (.iconst 0, 1) := by decide +kernel
theorem dX10_unhappy_114 : decode cX10_unhappy 114 = .ok (.istore 4, 2) := by decide +kernel
theorem dX10_unhappy_116 : decode cX10_unhappy 116 = .ok (.iload 4, 2) := by decide +kernel
theorem dX10_unhappy_118 : decode cX10_unhappy 118 = .ok (.aload_n 0, 1) := by decide +kernel
theorem dX10_unhappy_119 : decode cX10_unhappy 119 = .ok (.iconst 3, 1) := by decide +kernel
theorem dX10_unhappy_120 : decode cX10_unhappy 120 = .ok (.invokevirtual 272, 3) := by decide +kernel
theorem dX10_unhappy_123 : decode cX10_unhappy 123 = .ok (.if_icmp .ge 117, 3) := by decide +kernel
theorem dX10_unhappy_126 : decode cX10_unhappy 126 = .ok (.aload_n 0, 1) := by decide +kernel
theorem dX10_unhappy_127 : decode cX10_unhappy 127 = .ok (.getfield 59, 3) := by decide +kernel
theorem dX10_unhappy_130 : decode cX10_unhappy 130 = .ok (.iload_n 3, 1) := by decide +kernel
theorem dX10_unhappy_131 : decode cX10_unhappy 131 = .ok (.iaload, 1) := by decide +kernel
theorem dX10_unhappy_132 : decode cX10_unhappy 132 = .ok (.iconst (-1), 1) := by decide +kernel
theorem dX10_unhappy_133 : decode cX10_unhappy 133 = .ok (.if_icmp .eq 24, 3) := by decide +kernel
theorem dX10_unhappy_136 : decode cX10_unhappy 136 = .ok (.aload_n 0, 1) := by decide +kernel
theorem dX10_unhappy_137 : decode cX10_unhappy 137 = .ok (.iload_n 3, 1) := by decide +kernel
theorem dX10_unhappy_138 : decode cX10_unhappy 138 = .ok (.iload 4, 2) := by decide +kernel
theorem dX10_unhappy_140 : decode cX10_unhappy 140 = .ok (.invokevirtual 417, 3) := by decide +kernel
theorem dX10_unhappy_143 : decode cX10_unhappy 143 = .ok (.aload_n 0, 1) := by decide +kernel
theorem dX10_unhappy_144 : decode cX10_unhappy 144 = .ok (.iload_n 3, 1) := by decide +kernel
theorem dX10_unhappy_145 : decode cX10_unhappy 145 = .ok (.aload_n 0, 1) := by decide +kernel
theorem dX10_unhappy_146 : decode cX10_unhappy 146 = .ok (.getfield 59, 3) := by decide +kernel
theorem dX10_unhappy_149 : decode cX10_unhappy 149 = .ok (.iload_n 3, 1) := by decide +kernel
theorem dX10_unhappy_150 : decode cX10_unhappy 150 = .ok (.iaload, 1) := by decide +kernel
theorem dX10_unhappy_151 : decode cX10_unhappy 151 = .ok (.invokevirtual 417, 3) := by decide +kernel
theorem dX10_unhappy_154 : decode cX10_unhappy 154 = .ok (.if_icmp .le 7, 3) := by decide +kernel
theorem dX10_unhappy_157 : decode cX10_unhappy 157 = .ok (.iconst 1, 1) := by decide +kernel
theorem dX10_unhappy_158 : decode cX10_unhappy 158 = .ok (.goto 4, 3) := by decide +kernel
theorem dX10_unhappy_161 : decode cX10_unhappy 161 = .ok (.iconst 0, 1) := by decide +kernel
theorem dX10_unhappy_162 : decode cX10_unhappy 162 = .ok (.istore 5, 2) := by decide +kernel
theorem dX10_unhappy_164 : decode cX10_unhappy 164 = .ok (.aload_n 0, 1) := by decide +kernel
theorem dX10_unhappy_165 : decode cX10_unhappy 165 = .ok (.getfield 62, 3) := by decide +kernel
theorem dX10_unhappy_168 : decode cX10_unhappy 168 = .ok (.iload 4, 2) := by decide +kernel
theorem dX10_unhappy_170 : decode cX10_unhappy 170 = .ok (.iaload, 1) := by decide +kernel
theorem dX10_unhappy_171 : decode cX10_unhappy 171 = .ok (.iconst (-1), 1) := by decide +kernel
theorem dX10_unhappy_172 : decode cX10_unhappy 172 = .ok (.if_icmp .eq 26, 3) := by decide +kernel
theorem dX10_unhappy_175 : decode cX10_unhappy 175 = .ok (.aload_n 0, 1) := by decide +kernel
theorem dX10_unhappy_176 : decode cX10_unhappy 176 = .ok (.iload 4, 2) := by decide +kernel
theorem dX10_unhappy_178 : decode cX10_unhappy 178 = .ok (.iload_n 3, 1) := by decide +kernel
theorem dX10_unhappy_179 : decode cX10_unhappy 179 = .ok (.invokevirtual 420, 3) := by decide +kernel
theorem dX10_unhappy_182 : decode cX10_unhappy 182 = .ok (.aload_n 0, 1) := by decide +kernel
theorem dX10_unhappy_183 : decode cX10_unhappy 183 = .ok (.iload 4, 2) := by decide +kernel
theorem dX10_unhappy_185 : decode cX10_unhappy 185 = .ok (.aload_n 0, 1) := by decide +kernel
theorem dX10_unhappy_186 : decode cX10_unhappy 186 = .ok (.getfield 62, 3) := by decide +kernel
theorem dX10_unhappy_189 : decode cX10_unhappy 189 = .ok (.iload 4, 2) := by decide +kernel
theorem dX10_unhappy_191 : decode cX10_unhappy 191 = .ok (.iaload, 1) := by decide +kernel
theorem dX10_unhappy_192 : decode cX10_unhappy 192 = .ok (.invokevirtual 420, 3) := by decide +kernel
theorem dX10_unhappy_195 : decode cX10_unhappy 195 = .ok (.if_icmp .le 7, 3) := by decide +kernel
theorem dX10_unhappy_198 : decode cX10_unhappy 198 = .ok (.iconst 1, 1) := by decide +kernel
theorem dX10_unhappy_199 : decode cX10_unhappy 199 = .ok (.goto 4, 3) := by decide +kernel
theorem dX10_unhappy_202 : decode cX10_unhappy 202 = .ok (.iconst 0, 1) := by decide +kernel
theorem dX10_unhappy_203 : decode cX10_unhappy 203 = .ok (.istore 6, 2) := by decide +kernel
theorem dX10_unhappy_205 : decode cX10_unhappy 205 = .ok (.iload_n 2, 1) := by decide +kernel
theorem dX10_unhappy_206 : decode cX10_unhappy 206 = .ok (.aload_n 0, 1) := by decide +kernel
theorem dX10_unhappy_207 : decode cX10_unhappy 207 = .ok (.getfield 59, 3) := by decide +kernel
theorem dX10_unhappy_210 : decode cX10_unhappy 210 = .ok (.iload_n 3, 1) := by decide +kernel
theorem dX10_unhappy_211 : decode cX10_unhappy 211 = .ok (.iaload, 1) := by decide +kernel
theorem dX10_unhappy_212 : decode cX10_unhappy 212 = .ok (.iload 4, 2) := by decide +kernel
theorem dX10_unhappy_214 : decode cX10_unhappy 214 = .ok (.if_icmp .eq 17, 3) := by decide +kernel
theorem dX10_unhappy_217 : decode cX10_unhappy 217 = .ok (.iload 5, 2) := by decide +kernel
theorem dX10_unhappy_219 : decode cX10_unhappy 219 = .ok (.ifCond .eq 12, 3) := by decide +kernel
theorem dX10_unhappy_222 : decode cX10_unhappy 222 = .ok (.iload 6, 2) := by decide +kernel
theorem dX10_unhappy_224 : decode cX10_unhappy 224 = .ok (.ifCond .eq 7, 3) := by decide +kernel
theorem dX10_unhappy_227 : decode cX10_unhappy 227 = .ok (.iconst 1, 1) := by decide +kernel
theorem dX10_unhappy_228 : decode cX10_unhappy 228 = .ok (.goto 4, 3) := by decide +kernel
theorem dX10_unhappy_231 : decode cX10_unhappy 231 = .ok (.iconst 0, 1) := by decide +kernel
theorem dX10_unhappy_232 : decode cX10_unhappy 232 = .ok (.iadd, 1) := by decide +kernel
theorem dX10_unhappy_233 : decode cX10_unhappy 233 = .ok (.istore_n 2, 1) := by decide +kernel
theorem dX10_unhappy_234 : decode cX10_unhappy 234 = .ok (.iinc 4 1, 3) := by decide +kernel
theorem dX10_unhappy_237 : decode cX10_unhappy 237 = .ok (.goto (-121), 3) := by decide +kernel
theorem dX10_unhappy_240 : decode cX10_unhappy 240 = .ok (.iinc 3 1, 3) := by decide +kernel
theorem dX10_unhappy_243 : decode cX10_unhappy 243 = .ok (.goto (-139), 3) := by decide +kernel
theorem dX10_unhappy_246 : decode cX10_unhappy 246 = .ok (.iload_n 2, 1) := by decide +kernel
theorem dX10_unhappy_247 : decode cX10_unhappy 247 = .ok (.ireturn, 1) := by decide +kernel
abbrev rmX10_unhappy : Room := { frames := 4, cells := 0, slots := 0, locals := 89 }
def bX10_unhappy_203 (k104 : Nat → Int32 → Int32 → AH → Option (Int32 × AH)) (k116 : Nat → Int32 → Int32 → Int32 → AH → Option (Int32 × AH)) (a0 : Nat) (l2 : Int32) (l3 : Int32) (l4 : Int32) (l5 : Int32) (s0 : Int32) (z : AH) : Option (Int32 × AH) :=
  (gN 9 44 z a0).bind fun b207 =>
  (ixI 0 z b207 l3).bind fun x211 =>
  if x211 = l4 then (
    nm (l2 + (0 : Int32)) fun v233 =>
    nm (l4 + (1 : Int32)) fun v234 =>
    k116 a0 v233 l3 v234 z
  ) else (
    if l5 = (0 : Int32) then (
      nm (l2 + (0 : Int32)) fun v233 =>
      nm (l4 + (1 : Int32)) fun v234 =>
      k116 a0 v233 l3 v234 z
    ) else (
      if s0 = (0 : Int32) then (
        nm (l2 + (0 : Int32)) fun v233 =>
        nm (l4 + (1 : Int32)) fun v234 =>
        k116 a0 v233 l3 v234 z
      ) else (
        nm (l2 + (1 : Int32)) fun v233 =>
        nm (l4 + (1 : Int32)) fun v234 =>
        k116 a0 v233 l3 v234 z
      )
    )
  )
set_option maxHeartbeats 4000000 in
set_option maxRecDepth 100000 in
theorem kbX10_unhappy_203 {p : Program} {l : Launch} {e : Env} {s : State} {m : MethodId} {args : Array Value} {below : List Frame} {meth : Method} {c : Code} {G : GW} {r : Int32} {z' : AH} (C : Cx p m c cX10_unhappy 7 s args RX10 G) (hlk : meth.locks = false) (hr : meth.sig.returnType = (some .int)) (k104 : Nat → Int32 → Int32 → AH → Option (Int32 × AH)) (k116 : Nat → Int32 → Int32 → Int32 → AH → Option (Int32 × AH)) (hk104 : ∀ (a0 : Nat) (l2 : Int32) (l3 : Int32) (z : AH) (H : Heap) (locs : List Loc) (ls : Array Slot), k104 a0 l2 l3 z = some (r, z') → Wb G z s H locs → lv_has ls 7 [(0, .ref (gB G + a0)), (2, .int l2), (3, .int l3)] → W p l e rmX10_unhappy s m args below meth c H locs 0 0 (MQ below (Qi G r z') args s 0 0 (AA G)) (F0 m 104 ls [])) (hk116 : ∀ (a0 : Nat) (l2 : Int32) (l3 : Int32) (l4 : Int32) (z : AH) (H : Heap) (locs : List Loc) (ls : Array Slot), k116 a0 l2 l3 l4 z = some (r, z') → Wb G z s H locs → lv_has ls 7 [(0, .ref (gB G + a0)), (2, .int l2), (3, .int l3), (4, .int l4)] → W p l e rmX10_unhappy s m args below meth c H locs 0 0 (MQ below (Qi G r z') args s 0 0 (AA G)) (F0 m 116 ls [])) (a0 : Nat) (l2 : Int32) (l3 : Int32) (l4 : Int32) (l5 : Int32) (s0 : Int32) {z : AH} {H : Heap} {locs : List Loc} {ls : Array Slot} (h : bX10_unhappy_203 k104 k116 a0 l2 l3 l4 l5 s0 z = some (r, z')) (hW : Wb G z s H locs) (hl : lv_has ls 7 [(0, .ref (gB G + a0)), (2, .int l2), (3, .int l3), (4, .int l4), (5, .int l5)]) : W p l e rmX10_unhappy s m args below meth c H locs 0 0 (MQ below (Qi G r z') args s 0 0 (AA G)) (F0 m 203 ls [.int s0]) := by
  have hx := C.1
  have hb := C.2.1
  unfold bX10_unhappy_203 at h
  refine lv_istore (lv' := [(6, .int s0), (0, .ref (gB G + a0)), (2, .int l2), (3, .int l3), (4, .int l4), (5, .int l5)]) hx hb dX10_unhappy_203 hl (by decide) rfl (fun ls hl => ?_)
  refine lv_iload_n hx hb dX10_unhappy_205 rfl (lv_at hl 2 rfl) ?_
  refine lv_aload_n hx hb dX10_unhappy_206 rfl (lv_at hl 1 rfl) ?_
  obtain ⟨b207, hg, h⟩ := ob h
  refine wz_gN C hW flX10_59 hg dX10_unhappy_207 ?_
  refine lv_iload_n hx hb dX10_unhappy_210 rfl (lv_at hl 3 rfl) ?_
  obtain ⟨x211, hg, h⟩ := ob h
  refine wz_ald C hW hg dX10_unhappy_211 ?_
  refine lv_iload hx hb dX10_unhappy_212 (lv_at hl 4 rfl) ?_
  refine lv_icmp_eq (tgt := 231) hx hb dX10_unhappy_214 (by decide) (fun c214 => ?_) (fun c214 => ?_)
  · have h := ite_t c214 h
    refine lv_iconst (v := 0) hx hb dX10_unhappy_231 (by decide) ?_
    refine lv_iadd hx hb dX10_unhappy_232 ?_
    refine lv_topi (fun v233 ev233 => ?_)
    have h := nm_to h ev233
    refine lv_istore_n (lv' := [(2, .int v233), (6, .int s0), (0, .ref (gB G + a0)), (3, .int l3), (4, .int l4), (5, .int l5)]) hx hb dX10_unhappy_233 rfl hl (by decide) rfl (fun ls hl => ?_)
    obtain ⟨v234, ev234⟩ : ∃ y : Int32, y = (l4 + (1 : Int32)) := ⟨_, rfl⟩
    have h := nm_to h ev234
    refine lv_iinc (v := v234) (lv' := [(4, .int v234), (2, .int v233), (6, .int s0), (0, .ref (gB G + a0)), (3, .int l3), (5, .int l5)]) hx hb dX10_unhappy_234 hl (k := 4) rfl (by rw [ev234]; rfl) (by decide) rfl (fun ls hl => ?_)
    refine lv_goto (tgt := 116) hx hb dX10_unhappy_237 (by decide) ?_
    exact hk116 a0 v233 l3 v234 z _ _ _ h hW (lv_sub hl [3, 1, 4, 0] rfl)
  · have h := ite_f c214 h
    refine lv_iload hx hb dX10_unhappy_217 (lv_at hl 5 rfl) ?_
    refine lv_if_eq (tgt := 231) hx hb dX10_unhappy_219 (by decide) (fun c219 => ?_) (fun c219 => ?_)
    · have h := ite_t c219 h
      refine lv_iconst (v := 0) hx hb dX10_unhappy_231 (by decide) ?_
      refine lv_iadd hx hb dX10_unhappy_232 ?_
      refine lv_topi (fun v233 ev233 => ?_)
      have h := nm_to h ev233
      refine lv_istore_n (lv' := [(2, .int v233), (6, .int s0), (0, .ref (gB G + a0)), (3, .int l3), (4, .int l4), (5, .int l5)]) hx hb dX10_unhappy_233 rfl hl (by decide) rfl (fun ls hl => ?_)
      obtain ⟨v234, ev234⟩ : ∃ y : Int32, y = (l4 + (1 : Int32)) := ⟨_, rfl⟩
      have h := nm_to h ev234
      refine lv_iinc (v := v234) (lv' := [(4, .int v234), (2, .int v233), (6, .int s0), (0, .ref (gB G + a0)), (3, .int l3), (5, .int l5)]) hx hb dX10_unhappy_234 hl (k := 4) rfl (by rw [ev234]; rfl) (by decide) rfl (fun ls hl => ?_)
      refine lv_goto (tgt := 116) hx hb dX10_unhappy_237 (by decide) ?_
      exact hk116 a0 v233 l3 v234 z _ _ _ h hW (lv_sub hl [3, 1, 4, 0] rfl)
    · have h := ite_f c219 h
      refine lv_iload hx hb dX10_unhappy_222 (lv_at hl 0 rfl) ?_
      refine lv_if_eq (tgt := 231) hx hb dX10_unhappy_224 (by decide) (fun c224 => ?_) (fun c224 => ?_)
      · have h := ite_t c224 h
        refine lv_iconst (v := 0) hx hb dX10_unhappy_231 (by decide) ?_
        refine lv_iadd hx hb dX10_unhappy_232 ?_
        refine lv_topi (fun v233 ev233 => ?_)
        have h := nm_to h ev233
        refine lv_istore_n (lv' := [(2, .int v233), (6, .int s0), (0, .ref (gB G + a0)), (3, .int l3), (4, .int l4), (5, .int l5)]) hx hb dX10_unhappy_233 rfl hl (by decide) rfl (fun ls hl => ?_)
        obtain ⟨v234, ev234⟩ : ∃ y : Int32, y = (l4 + (1 : Int32)) := ⟨_, rfl⟩
        have h := nm_to h ev234
        refine lv_iinc (v := v234) (lv' := [(4, .int v234), (2, .int v233), (6, .int s0), (0, .ref (gB G + a0)), (3, .int l3), (5, .int l5)]) hx hb dX10_unhappy_234 hl (k := 4) rfl (by rw [ev234]; rfl) (by decide) rfl (fun ls hl => ?_)
        refine lv_goto (tgt := 116) hx hb dX10_unhappy_237 (by decide) ?_
        exact hk116 a0 v233 l3 v234 z _ _ _ h hW (lv_sub hl [3, 1, 4, 0] rfl)
      · have h := ite_f c224 h
        refine lv_iconst (v := 1) hx hb dX10_unhappy_227 (by decide) ?_
        refine lv_goto (tgt := 232) hx hb dX10_unhappy_228 (by decide) ?_
        refine lv_iadd hx hb dX10_unhappy_232 ?_
        refine lv_topi (fun v233 ev233 => ?_)
        have h := nm_to h ev233
        refine lv_istore_n (lv' := [(2, .int v233), (6, .int s0), (0, .ref (gB G + a0)), (3, .int l3), (4, .int l4), (5, .int l5)]) hx hb dX10_unhappy_233 rfl hl (by decide) rfl (fun ls hl => ?_)
        obtain ⟨v234, ev234⟩ : ∃ y : Int32, y = (l4 + (1 : Int32)) := ⟨_, rfl⟩
        have h := nm_to h ev234
        refine lv_iinc (v := v234) (lv' := [(4, .int v234), (2, .int v233), (6, .int s0), (0, .ref (gB G + a0)), (3, .int l3), (5, .int l5)]) hx hb dX10_unhappy_234 hl (k := 4) rfl (by rw [ev234]; rfl) (by decide) rfl (fun ls hl => ?_)
        refine lv_goto (tgt := 116) hx hb dX10_unhappy_237 (by decide) ?_
        exact hk116 a0 v233 l3 v234 z _ _ _ h hW (lv_sub hl [3, 1, 4, 0] rfl)
def bX10_unhappy_198 (k104 : Nat → Int32 → Int32 → AH → Option (Int32 × AH)) (k116 : Nat → Int32 → Int32 → Int32 → AH → Option (Int32 × AH)) (a0 : Nat) (l2 : Int32) (l3 : Int32) (l4 : Int32) (l5 : Int32) (z : AH) : Option (Int32 × AH) :=
  bX10_unhappy_203 k104 k116 a0 l2 l3 l4 l5 (1 : Int32) z
set_option maxHeartbeats 4000000 in
set_option maxRecDepth 100000 in
theorem kbX10_unhappy_198 {p : Program} {l : Launch} {e : Env} {s : State} {m : MethodId} {args : Array Value} {below : List Frame} {meth : Method} {c : Code} {G : GW} {r : Int32} {z' : AH} (C : Cx p m c cX10_unhappy 7 s args RX10 G) (hlk : meth.locks = false) (hr : meth.sig.returnType = (some .int)) (k104 : Nat → Int32 → Int32 → AH → Option (Int32 × AH)) (k116 : Nat → Int32 → Int32 → Int32 → AH → Option (Int32 × AH)) (hk104 : ∀ (a0 : Nat) (l2 : Int32) (l3 : Int32) (z : AH) (H : Heap) (locs : List Loc) (ls : Array Slot), k104 a0 l2 l3 z = some (r, z') → Wb G z s H locs → lv_has ls 7 [(0, .ref (gB G + a0)), (2, .int l2), (3, .int l3)] → W p l e rmX10_unhappy s m args below meth c H locs 0 0 (MQ below (Qi G r z') args s 0 0 (AA G)) (F0 m 104 ls [])) (hk116 : ∀ (a0 : Nat) (l2 : Int32) (l3 : Int32) (l4 : Int32) (z : AH) (H : Heap) (locs : List Loc) (ls : Array Slot), k116 a0 l2 l3 l4 z = some (r, z') → Wb G z s H locs → lv_has ls 7 [(0, .ref (gB G + a0)), (2, .int l2), (3, .int l3), (4, .int l4)] → W p l e rmX10_unhappy s m args below meth c H locs 0 0 (MQ below (Qi G r z') args s 0 0 (AA G)) (F0 m 116 ls [])) (a0 : Nat) (l2 : Int32) (l3 : Int32) (l4 : Int32) (l5 : Int32) {z : AH} {H : Heap} {locs : List Loc} {ls : Array Slot} (h : bX10_unhappy_198 k104 k116 a0 l2 l3 l4 l5 z = some (r, z')) (hW : Wb G z s H locs) (hl : lv_has ls 7 [(0, .ref (gB G + a0)), (2, .int l2), (3, .int l3), (4, .int l4), (5, .int l5)]) : W p l e rmX10_unhappy s m args below meth c H locs 0 0 (MQ below (Qi G r z') args s 0 0 (AA G)) (F0 m 198 ls []) := by
  have hx := C.1
  have hb := C.2.1
  unfold bX10_unhappy_198 at h
  refine lv_iconst (v := 1) hx hb dX10_unhappy_198 (by decide) ?_
  refine lv_goto (tgt := 203) hx hb dX10_unhappy_199 (by decide) ?_
  exact kbX10_unhappy_203 C hlk hr k104 k116 hk104 hk116 a0 l2 l3 l4 l5 (1 : Int32) h hW (lv_sub hl [0, 1, 2, 3, 4] rfl)
def bX10_unhappy_162 (k104 : Nat → Int32 → Int32 → AH → Option (Int32 × AH)) (k116 : Nat → Int32 → Int32 → Int32 → AH → Option (Int32 × AH)) (a0 : Nat) (l2 : Int32) (l3 : Int32) (l4 : Int32) (s0 : Int32) (z : AH) : Option (Int32 × AH) :=
  (gN 9 45 z a0).bind fun b165 =>
  (ixI 0 z b165 l4).bind fun x170 =>
  if x170 = (-1 : Int32) then (
    bX10_unhappy_198 k104 k116 a0 l2 l3 l4 s0 z
  ) else (
    (fX10_liked a0 l4 l3 z).bind fun x179 =>
    (gN 9 45 z a0).bind fun b186 =>
    (ixI 0 z b186 l4).bind fun x191 =>
    (fX10_liked a0 l4 x191 z).bind fun x192 =>
    if x179 ≤ x192 then (
      bX10_unhappy_203 k104 k116 a0 l2 l3 l4 s0 (0 : Int32) z
    ) else (
      bX10_unhappy_198 k104 k116 a0 l2 l3 l4 s0 z
    )
  )
set_option maxHeartbeats 4000000 in
set_option maxRecDepth 100000 in
theorem kbX10_unhappy_162 {p : Program} {l : Launch} {e : Env} {s : State} {m : MethodId} {args : Array Value} {below : List Frame} {meth : Method} {c : Code} {G : GW} {r : Int32} {z' : AH} (C : Cx p m c cX10_unhappy 7 s args RX10 G) (hlk : meth.locks = false) (hr : meth.sig.returnType = (some .int)) (k104 : Nat → Int32 → Int32 → AH → Option (Int32 × AH)) (k116 : Nat → Int32 → Int32 → Int32 → AH → Option (Int32 × AH)) (hk104 : ∀ (a0 : Nat) (l2 : Int32) (l3 : Int32) (z : AH) (H : Heap) (locs : List Loc) (ls : Array Slot), k104 a0 l2 l3 z = some (r, z') → Wb G z s H locs → lv_has ls 7 [(0, .ref (gB G + a0)), (2, .int l2), (3, .int l3)] → W p l e rmX10_unhappy s m args below meth c H locs 0 0 (MQ below (Qi G r z') args s 0 0 (AA G)) (F0 m 104 ls [])) (hk116 : ∀ (a0 : Nat) (l2 : Int32) (l3 : Int32) (l4 : Int32) (z : AH) (H : Heap) (locs : List Loc) (ls : Array Slot), k116 a0 l2 l3 l4 z = some (r, z') → Wb G z s H locs → lv_has ls 7 [(0, .ref (gB G + a0)), (2, .int l2), (3, .int l3), (4, .int l4)] → W p l e rmX10_unhappy s m args below meth c H locs 0 0 (MQ below (Qi G r z') args s 0 0 (AA G)) (F0 m 116 ls [])) (a0 : Nat) (l2 : Int32) (l3 : Int32) (l4 : Int32) (s0 : Int32) {z : AH} {H : Heap} {locs : List Loc} {ls : Array Slot} (h : bX10_unhappy_162 k104 k116 a0 l2 l3 l4 s0 z = some (r, z')) (hW : Wb G z s H locs) (hl : lv_has ls 7 [(0, .ref (gB G + a0)), (2, .int l2), (3, .int l3), (4, .int l4)]) : W p l e rmX10_unhappy s m args below meth c H locs 0 0 (MQ below (Qi G r z') args s 0 0 (AA G)) (F0 m 162 ls [.int s0]) := by
  have hx := C.1
  have hb := C.2.1
  unfold bX10_unhappy_162 at h
  refine lv_istore (lv' := [(5, .int s0), (0, .ref (gB G + a0)), (2, .int l2), (3, .int l3), (4, .int l4)]) hx hb dX10_unhappy_162 hl (by decide) rfl (fun ls hl => ?_)
  refine lv_aload_n hx hb dX10_unhappy_164 rfl (lv_at hl 1 rfl) ?_
  obtain ⟨b165, hg, h⟩ := ob h
  refine wz_gN C hW flX10_62 hg dX10_unhappy_165 ?_
  refine lv_iload hx hb dX10_unhappy_168 (lv_at hl 4 rfl) ?_
  obtain ⟨x170, hg, h⟩ := ob h
  refine wz_ald C hW hg dX10_unhappy_170 ?_
  refine lv_iconst (v := -1) hx hb dX10_unhappy_171 (by decide) ?_
  refine lv_icmp_eq (tgt := 198) hx hb dX10_unhappy_172 (by decide) (fun c172 => ?_) (fun c172 => ?_)
  · have h := ite_t c172 h
    exact kbX10_unhappy_198 C hlk hr k104 k116 hk104 hk116 a0 l2 l3 l4 s0 h hW (lv_sub hl [1, 2, 3, 4, 0] rfl)
  · have h := ite_f c172 h
    refine lv_aload_n hx hb dX10_unhappy_175 rfl (lv_at hl 1 rfl) ?_
    refine lv_iload hx hb dX10_unhappy_176 (lv_at hl 4 rfl) ?_
    refine lv_iload_n hx hb dX10_unhappy_178 rfl (lv_at hl 3 rfl) ?_
    obtain ⟨x179, hq, h⟩ := ob h
    refine wz_rI (c' := 0) (s' := 0) hW (wz_runV (rest := []) C hW lVX10_420 (ck hq).1 rfl (ctX10_liked l G a0 l4 l3 z hq) ⟨⟨rfl, rfl⟩, Nat.le_of_ble_eq_true rfl, Nat.le_of_ble_eq_true rfl⟩ rfl hl.1 rfl (Nat.le_of_ble_eq_true rfl) dX10_unhappy_179 ⟨Nat.le_of_ble_eq_true rfl, Nat.le_of_ble_eq_true rfl⟩) rfl rfl (fun H locs hW => ?_)
    refine lv_aload_n hx hb dX10_unhappy_182 rfl (lv_at hl 1 rfl) ?_
    refine lv_iload hx hb dX10_unhappy_183 (lv_at hl 4 rfl) ?_
    refine lv_aload_n hx hb dX10_unhappy_185 rfl (lv_at hl 1 rfl) ?_
    obtain ⟨b186, hg, h⟩ := ob h
    refine wz_gN C hW flX10_62 hg dX10_unhappy_186 ?_
    refine lv_iload hx hb dX10_unhappy_189 (lv_at hl 4 rfl) ?_
    obtain ⟨x191, hg, h⟩ := ob h
    refine wz_ald C hW hg dX10_unhappy_191 ?_
    obtain ⟨x192, hq, h⟩ := ob h
    refine wz_rI (c' := 0) (s' := 0) hW (wz_runV (rest := [.int x179]) C hW lVX10_420 (ck hq).1 rfl (ctX10_liked l G a0 l4 x191 z hq) ⟨⟨rfl, rfl⟩, Nat.le_of_ble_eq_true rfl, Nat.le_of_ble_eq_true rfl⟩ rfl hl.1 rfl (Nat.le_of_ble_eq_true rfl) dX10_unhappy_192 ⟨Nat.le_of_ble_eq_true rfl, Nat.le_of_ble_eq_true rfl⟩) rfl rfl (fun H locs hW => ?_)
    refine lv_icmp_le (tgt := 202) hx hb dX10_unhappy_195 (by decide) (fun c195 => ?_) (fun c195 => ?_)
    · have h := ite_t c195 h
      refine lv_iconst (v := 0) hx hb dX10_unhappy_202 (by decide) ?_
      exact kbX10_unhappy_203 C hlk hr k104 k116 hk104 hk116 a0 l2 l3 l4 s0 (0 : Int32) h hW (lv_sub hl [1, 2, 3, 4, 0] rfl)
    · have h := ite_f c195 h
      exact kbX10_unhappy_198 C hlk hr k104 k116 hk104 hk116 a0 l2 l3 l4 s0 h hW (lv_sub hl [1, 2, 3, 4, 0] rfl)
def bX10_unhappy_157 (k104 : Nat → Int32 → Int32 → AH → Option (Int32 × AH)) (k116 : Nat → Int32 → Int32 → Int32 → AH → Option (Int32 × AH)) (a0 : Nat) (l2 : Int32) (l3 : Int32) (l4 : Int32) (z : AH) : Option (Int32 × AH) :=
  bX10_unhappy_162 k104 k116 a0 l2 l3 l4 (1 : Int32) z
set_option maxHeartbeats 4000000 in
set_option maxRecDepth 100000 in
theorem kbX10_unhappy_157 {p : Program} {l : Launch} {e : Env} {s : State} {m : MethodId} {args : Array Value} {below : List Frame} {meth : Method} {c : Code} {G : GW} {r : Int32} {z' : AH} (C : Cx p m c cX10_unhappy 7 s args RX10 G) (hlk : meth.locks = false) (hr : meth.sig.returnType = (some .int)) (k104 : Nat → Int32 → Int32 → AH → Option (Int32 × AH)) (k116 : Nat → Int32 → Int32 → Int32 → AH → Option (Int32 × AH)) (hk104 : ∀ (a0 : Nat) (l2 : Int32) (l3 : Int32) (z : AH) (H : Heap) (locs : List Loc) (ls : Array Slot), k104 a0 l2 l3 z = some (r, z') → Wb G z s H locs → lv_has ls 7 [(0, .ref (gB G + a0)), (2, .int l2), (3, .int l3)] → W p l e rmX10_unhappy s m args below meth c H locs 0 0 (MQ below (Qi G r z') args s 0 0 (AA G)) (F0 m 104 ls [])) (hk116 : ∀ (a0 : Nat) (l2 : Int32) (l3 : Int32) (l4 : Int32) (z : AH) (H : Heap) (locs : List Loc) (ls : Array Slot), k116 a0 l2 l3 l4 z = some (r, z') → Wb G z s H locs → lv_has ls 7 [(0, .ref (gB G + a0)), (2, .int l2), (3, .int l3), (4, .int l4)] → W p l e rmX10_unhappy s m args below meth c H locs 0 0 (MQ below (Qi G r z') args s 0 0 (AA G)) (F0 m 116 ls [])) (a0 : Nat) (l2 : Int32) (l3 : Int32) (l4 : Int32) {z : AH} {H : Heap} {locs : List Loc} {ls : Array Slot} (h : bX10_unhappy_157 k104 k116 a0 l2 l3 l4 z = some (r, z')) (hW : Wb G z s H locs) (hl : lv_has ls 7 [(0, .ref (gB G + a0)), (2, .int l2), (3, .int l3), (4, .int l4)]) : W p l e rmX10_unhappy s m args below meth c H locs 0 0 (MQ below (Qi G r z') args s 0 0 (AA G)) (F0 m 157 ls []) := by
  have hx := C.1
  have hb := C.2.1
  unfold bX10_unhappy_157 at h
  refine lv_iconst (v := 1) hx hb dX10_unhappy_157 (by decide) ?_
  refine lv_goto (tgt := 162) hx hb dX10_unhappy_158 (by decide) ?_
  exact kbX10_unhappy_162 C hlk hr k104 k116 hk104 hk116 a0 l2 l3 l4 (1 : Int32) h hW (lv_sub hl [0, 1, 2, 3] rfl)
def bX10_unhappy_116 (k104 : Nat → Int32 → Int32 → AH → Option (Int32 × AH)) (k116 : Nat → Int32 → Int32 → Int32 → AH → Option (Int32 × AH)) (a0 : Nat) (l2 : Int32) (l3 : Int32) (l4 : Int32) (z : AH) : Option (Int32 × AH) :=
  (fX10_of a0 (3 : Int32) z).bind fun x120 =>
  if x120 ≤ l4 then (
    nm (l3 + (1 : Int32)) fun v240 =>
    k104 a0 l2 v240 z
  ) else (
    (gN 9 44 z a0).bind fun b127 =>
    (ixI 0 z b127 l3).bind fun x131 =>
    if x131 = (-1 : Int32) then (
      bX10_unhappy_157 k104 k116 a0 l2 l3 l4 z
    ) else (
      (fX10_likes a0 l3 l4 z).bind fun x140 =>
      (gN 9 44 z a0).bind fun b146 =>
      (ixI 0 z b146 l3).bind fun x150 =>
      (fX10_likes a0 l3 x150 z).bind fun x151 =>
      if x140 ≤ x151 then (
        bX10_unhappy_162 k104 k116 a0 l2 l3 l4 (0 : Int32) z
      ) else (
        bX10_unhappy_157 k104 k116 a0 l2 l3 l4 z
      )
    )
  )
set_option maxHeartbeats 4000000 in
set_option maxRecDepth 100000 in
theorem kbX10_unhappy_116 {p : Program} {l : Launch} {e : Env} {s : State} {m : MethodId} {args : Array Value} {below : List Frame} {meth : Method} {c : Code} {G : GW} {r : Int32} {z' : AH} (C : Cx p m c cX10_unhappy 7 s args RX10 G) (hlk : meth.locks = false) (hr : meth.sig.returnType = (some .int)) (k104 : Nat → Int32 → Int32 → AH → Option (Int32 × AH)) (k116 : Nat → Int32 → Int32 → Int32 → AH → Option (Int32 × AH)) (hk104 : ∀ (a0 : Nat) (l2 : Int32) (l3 : Int32) (z : AH) (H : Heap) (locs : List Loc) (ls : Array Slot), k104 a0 l2 l3 z = some (r, z') → Wb G z s H locs → lv_has ls 7 [(0, .ref (gB G + a0)), (2, .int l2), (3, .int l3)] → W p l e rmX10_unhappy s m args below meth c H locs 0 0 (MQ below (Qi G r z') args s 0 0 (AA G)) (F0 m 104 ls [])) (hk116 : ∀ (a0 : Nat) (l2 : Int32) (l3 : Int32) (l4 : Int32) (z : AH) (H : Heap) (locs : List Loc) (ls : Array Slot), k116 a0 l2 l3 l4 z = some (r, z') → Wb G z s H locs → lv_has ls 7 [(0, .ref (gB G + a0)), (2, .int l2), (3, .int l3), (4, .int l4)] → W p l e rmX10_unhappy s m args below meth c H locs 0 0 (MQ below (Qi G r z') args s 0 0 (AA G)) (F0 m 116 ls [])) (a0 : Nat) (l2 : Int32) (l3 : Int32) (l4 : Int32) {z : AH} {H : Heap} {locs : List Loc} {ls : Array Slot} (h : bX10_unhappy_116 k104 k116 a0 l2 l3 l4 z = some (r, z')) (hW : Wb G z s H locs) (hl : lv_has ls 7 [(0, .ref (gB G + a0)), (2, .int l2), (3, .int l3), (4, .int l4)]) : W p l e rmX10_unhappy s m args below meth c H locs 0 0 (MQ below (Qi G r z') args s 0 0 (AA G)) (F0 m 116 ls []) := by
  have hx := C.1
  have hb := C.2.1
  unfold bX10_unhappy_116 at h
  refine lv_iload hx hb dX10_unhappy_116 (lv_at hl 3 rfl) ?_
  refine lv_aload_n hx hb dX10_unhappy_118 rfl (lv_at hl 0 rfl) ?_
  refine lv_iconst (v := 3) hx hb dX10_unhappy_119 (by decide) ?_
  obtain ⟨x120, hq, h⟩ := ob h
  refine wz_rI (c' := 0) (s' := 0) hW (wz_runV (rest := [.int l4]) C hW lVX10_272 (ck hq).1 rfl (ctX10_of l G a0 (3 : Int32) z hq) ⟨⟨rfl, rfl⟩, Nat.le_of_ble_eq_true rfl, Nat.le_of_ble_eq_true rfl⟩ rfl hl.1 rfl (Nat.le_of_ble_eq_true rfl) dX10_unhappy_120 ⟨Nat.le_of_ble_eq_true rfl, Nat.le_of_ble_eq_true rfl⟩) rfl rfl (fun H locs hW => ?_)
  refine lv_icmp_ge (tgt := 240) hx hb dX10_unhappy_123 (by decide) (fun c123 => ?_) (fun c123 => ?_)
  · have h := ite_t c123 h
    obtain ⟨v240, ev240⟩ : ∃ y : Int32, y = (l3 + (1 : Int32)) := ⟨_, rfl⟩
    have h := nm_to h ev240
    refine lv_iinc (v := v240) (lv' := [(3, .int v240), (0, .ref (gB G + a0)), (2, .int l2), (4, .int l4)]) hx hb dX10_unhappy_240 hl (k := 2) rfl (by rw [ev240]; rfl) (by decide) rfl (fun ls hl => ?_)
    refine lv_goto (tgt := 104) hx hb dX10_unhappy_243 (by decide) ?_
    exact hk104 a0 l2 v240 z _ _ _ h hW (lv_sub hl [1, 2, 0] rfl)
  · have h := ite_f c123 h
    refine lv_aload_n hx hb dX10_unhappy_126 rfl (lv_at hl 0 rfl) ?_
    obtain ⟨b127, hg, h⟩ := ob h
    refine wz_gN C hW flX10_59 hg dX10_unhappy_127 ?_
    refine lv_iload_n hx hb dX10_unhappy_130 rfl (lv_at hl 2 rfl) ?_
    obtain ⟨x131, hg, h⟩ := ob h
    refine wz_ald C hW hg dX10_unhappy_131 ?_
    refine lv_iconst (v := -1) hx hb dX10_unhappy_132 (by decide) ?_
    refine lv_icmp_eq (tgt := 157) hx hb dX10_unhappy_133 (by decide) (fun c133 => ?_) (fun c133 => ?_)
    · have h := ite_t c133 h
      exact kbX10_unhappy_157 C hlk hr k104 k116 hk104 hk116 a0 l2 l3 l4 h hW (lv_sub hl [0, 1, 2, 3] rfl)
    · have h := ite_f c133 h
      refine lv_aload_n hx hb dX10_unhappy_136 rfl (lv_at hl 0 rfl) ?_
      refine lv_iload_n hx hb dX10_unhappy_137 rfl (lv_at hl 2 rfl) ?_
      refine lv_iload hx hb dX10_unhappy_138 (lv_at hl 3 rfl) ?_
      obtain ⟨x140, hq, h⟩ := ob h
      refine wz_rI (c' := 0) (s' := 0) hW (wz_runV (rest := []) C hW lVX10_417 (ck hq).1 rfl (ctX10_likes l G a0 l3 l4 z hq) ⟨⟨rfl, rfl⟩, Nat.le_of_ble_eq_true rfl, Nat.le_of_ble_eq_true rfl⟩ rfl hl.1 rfl (Nat.le_of_ble_eq_true rfl) dX10_unhappy_140 ⟨Nat.le_of_ble_eq_true rfl, Nat.le_of_ble_eq_true rfl⟩) rfl rfl (fun H locs hW => ?_)
      refine lv_aload_n hx hb dX10_unhappy_143 rfl (lv_at hl 0 rfl) ?_
      refine lv_iload_n hx hb dX10_unhappy_144 rfl (lv_at hl 2 rfl) ?_
      refine lv_aload_n hx hb dX10_unhappy_145 rfl (lv_at hl 0 rfl) ?_
      obtain ⟨b146, hg, h⟩ := ob h
      refine wz_gN C hW flX10_59 hg dX10_unhappy_146 ?_
      refine lv_iload_n hx hb dX10_unhappy_149 rfl (lv_at hl 2 rfl) ?_
      obtain ⟨x150, hg, h⟩ := ob h
      refine wz_ald C hW hg dX10_unhappy_150 ?_
      obtain ⟨x151, hq, h⟩ := ob h
      refine wz_rI (c' := 0) (s' := 0) hW (wz_runV (rest := [.int x140]) C hW lVX10_417 (ck hq).1 rfl (ctX10_likes l G a0 l3 x150 z hq) ⟨⟨rfl, rfl⟩, Nat.le_of_ble_eq_true rfl, Nat.le_of_ble_eq_true rfl⟩ rfl hl.1 rfl (Nat.le_of_ble_eq_true rfl) dX10_unhappy_151 ⟨Nat.le_of_ble_eq_true rfl, Nat.le_of_ble_eq_true rfl⟩) rfl rfl (fun H locs hW => ?_)
      refine lv_icmp_le (tgt := 161) hx hb dX10_unhappy_154 (by decide) (fun c154 => ?_) (fun c154 => ?_)
      · have h := ite_t c154 h
        refine lv_iconst (v := 0) hx hb dX10_unhappy_161 (by decide) ?_
        exact kbX10_unhappy_162 C hlk hr k104 k116 hk104 hk116 a0 l2 l3 l4 (0 : Int32) h hW (lv_sub hl [0, 1, 2, 3] rfl)
      · have h := ite_f c154 h
        exact kbX10_unhappy_157 C hlk hr k104 k116 hk104 hk116 a0 l2 l3 l4 h hW (lv_sub hl [0, 1, 2, 3] rfl)
def fX10_unhappy_116 (k104 : Nat → Int32 → Int32 → AH → Option (Int32 × AH)) : Nat → Nat → Int32 → Int32 → Int32 → AH → Option (Int32 × AH)
  | 0, _, _, _, _, _ => none
  | n + 1, a0, l2, l3, l4, z => bX10_unhappy_116 k104 (fX10_unhappy_116 k104 n) a0 l2 l3 l4 z
theorem klX10_unhappy_116 {p : Program} {l : Launch} {e : Env} {s : State} {m : MethodId} {args : Array Value} {below : List Frame} {meth : Method} {c : Code} {G : GW} {r : Int32} {z' : AH} (C : Cx p m c cX10_unhappy 7 s args RX10 G) (hlk : meth.locks = false) (hr : meth.sig.returnType = (some .int)) (k104 : Nat → Int32 → Int32 → AH → Option (Int32 × AH)) (hk104 : ∀ (a0 : Nat) (l2 : Int32) (l3 : Int32) (z : AH) (H : Heap) (locs : List Loc) (ls : Array Slot), k104 a0 l2 l3 z = some (r, z') → Wb G z s H locs → lv_has ls 7 [(0, .ref (gB G + a0)), (2, .int l2), (3, .int l3)] → W p l e rmX10_unhappy s m args below meth c H locs 0 0 (MQ below (Qi G r z') args s 0 0 (AA G)) (F0 m 104 ls [])) : ∀ (n : Nat) (a0 : Nat) (l2 : Int32) (l3 : Int32) (l4 : Int32) (z : AH) (H : Heap) (locs : List Loc) (ls : Array Slot), fX10_unhappy_116 k104 n a0 l2 l3 l4 z = some (r, z') → Wb G z s H locs → lv_has ls 7 [(0, .ref (gB G + a0)), (2, .int l2), (3, .int l3), (4, .int l4)] → W p l e rmX10_unhappy s m args below meth c H locs 0 0 (MQ below (Qi G r z') args s 0 0 (AA G)) (F0 m 116 ls []) := by
  intro n
  induction n with
  | zero => intro a0 l2 l3 l4 z H locs ls h; have h : (none : Option (Int32 × AH)) = some (r, z') := h; cases h
  | succ n ih => intro a0 l2 l3 l4 z H locs ls h hW hl; exact kbX10_unhappy_116 C hlk hr k104 (fX10_unhappy_116 k104 n) hk104 (fun a0 l2 l3 l4 z H locs ls h hW hl => ih a0 l2 l3 l4 z H locs ls h hW hl) a0 l2 l3 l4 h hW hl
def bX10_unhappy_104 (k104 : Nat → Int32 → Int32 → AH → Option (Int32 × AH)) (a0 : Nat) (l2 : Int32) (l3 : Int32) (z : AH) : Option (Int32 × AH) :=
  (fX10_of a0 (2 : Int32) z).bind fun x107 =>
  if x107 ≤ l3 then (
    some (l2, z)
  ) else (
    fX10_unhappy_116 k104 FU a0 l2 l3 (0 : Int32) z
  )
set_option maxHeartbeats 4000000 in
set_option maxRecDepth 100000 in
theorem kbX10_unhappy_104 {p : Program} {l : Launch} {e : Env} {s : State} {m : MethodId} {args : Array Value} {below : List Frame} {meth : Method} {c : Code} {G : GW} {r : Int32} {z' : AH} (C : Cx p m c cX10_unhappy 7 s args RX10 G) (hlk : meth.locks = false) (hr : meth.sig.returnType = (some .int)) (k104 : Nat → Int32 → Int32 → AH → Option (Int32 × AH)) (hk104 : ∀ (a0 : Nat) (l2 : Int32) (l3 : Int32) (z : AH) (H : Heap) (locs : List Loc) (ls : Array Slot), k104 a0 l2 l3 z = some (r, z') → Wb G z s H locs → lv_has ls 7 [(0, .ref (gB G + a0)), (2, .int l2), (3, .int l3)] → W p l e rmX10_unhappy s m args below meth c H locs 0 0 (MQ below (Qi G r z') args s 0 0 (AA G)) (F0 m 104 ls [])) (a0 : Nat) (l2 : Int32) (l3 : Int32) {z : AH} {H : Heap} {locs : List Loc} {ls : Array Slot} (h : bX10_unhappy_104 k104 a0 l2 l3 z = some (r, z')) (hW : Wb G z s H locs) (hl : lv_has ls 7 [(0, .ref (gB G + a0)), (2, .int l2), (3, .int l3)]) : W p l e rmX10_unhappy s m args below meth c H locs 0 0 (MQ below (Qi G r z') args s 0 0 (AA G)) (F0 m 104 ls []) := by
  have hx := C.1
  have hb := C.2.1
  unfold bX10_unhappy_104 at h
  refine lv_iload_n hx hb dX10_unhappy_104 rfl (lv_at hl 2 rfl) ?_
  refine lv_aload_n hx hb dX10_unhappy_105 rfl (lv_at hl 0 rfl) ?_
  refine lv_iconst (v := 2) hx hb dX10_unhappy_106 (by decide) ?_
  obtain ⟨x107, hq, h⟩ := ob h
  refine wz_rI (c' := 0) (s' := 0) hW (wz_runV (rest := [.int l3]) C hW lVX10_272 (ck hq).1 rfl (ctX10_of l G a0 (2 : Int32) z hq) ⟨⟨rfl, rfl⟩, Nat.le_of_ble_eq_true rfl, Nat.le_of_ble_eq_true rfl⟩ rfl hl.1 rfl (Nat.le_of_ble_eq_true rfl) dX10_unhappy_107 ⟨Nat.le_of_ble_eq_true rfl, Nat.le_of_ble_eq_true rfl⟩) rfl rfl (fun H locs hW => ?_)
  refine lv_icmp_ge (tgt := 246) hx hb dX10_unhappy_110 (by decide) (fun c110 => ?_) (fun c110 => ?_)
  · have h := ite_t c110 h
    refine lv_iload_n hx hb dX10_unhappy_246 rfl (lv_at hl 1 rfl) ?_
    exact wz_iretE C hlk hr (so2 h).1 (so2 h).2 hW dX10_unhappy_247
  · have h := ite_f c110 h
    refine lv_iconst (v := 0) hx hb dX10_unhappy_113 (by decide) ?_
    refine lv_istore (lv' := [(4, .int (0 : Int32)), (0, .ref (gB G + a0)), (2, .int l2), (3, .int l3)]) hx hb dX10_unhappy_114 hl (by decide) rfl (fun ls hl => ?_)
    exact klX10_unhappy_116 C hlk hr k104 hk104 FU a0 l2 l3 (0 : Int32) z _ _ _ h hW (lv_sub hl [1, 2, 3, 0] rfl)
def fX10_unhappy_104 : Nat → Nat → Int32 → Int32 → AH → Option (Int32 × AH)
  | 0, _, _, _, _ => none
  | n + 1, a0, l2, l3, z => bX10_unhappy_104 (fX10_unhappy_104 n) a0 l2 l3 z
theorem klX10_unhappy_104 {p : Program} {l : Launch} {e : Env} {s : State} {m : MethodId} {args : Array Value} {below : List Frame} {meth : Method} {c : Code} {G : GW} {r : Int32} {z' : AH} (C : Cx p m c cX10_unhappy 7 s args RX10 G) (hlk : meth.locks = false) (hr : meth.sig.returnType = (some .int)) : ∀ (n : Nat) (a0 : Nat) (l2 : Int32) (l3 : Int32) (z : AH) (H : Heap) (locs : List Loc) (ls : Array Slot), fX10_unhappy_104 n a0 l2 l3 z = some (r, z') → Wb G z s H locs → lv_has ls 7 [(0, .ref (gB G + a0)), (2, .int l2), (3, .int l3)] → W p l e rmX10_unhappy s m args below meth c H locs 0 0 (MQ below (Qi G r z') args s 0 0 (AA G)) (F0 m 104 ls []) := by
  intro n
  induction n with
  | zero => intro a0 l2 l3 z H locs ls h; have h : (none : Option (Int32 × AH)) = some (r, z') := h; cases h
  | succ n ih => intro a0 l2 l3 z H locs ls h hW hl; exact kbX10_unhappy_104 C hlk hr (fX10_unhappy_104 n) (fun a0 l2 l3 z H locs ls h hW hl => ih a0 l2 l3 z H locs ls h hW hl) a0 l2 l3 h hW hl
def bX10_unhappy_44 (k44 : Nat → Int32 → AH → Option (Int32 × AH)) (a0 : Nat) (l2 : Int32) (z : AH) : Option (Int32 × AH) :=
  (gI 9 27 z a0).bind fun x46 =>
  if x46 ≤ l2 then (
    fX10_unhappy_104 FU a0 (0 : Int32) (0 : Int32) z
  ) else (
    (gN 9 44 z a0).bind fun b53 =>
    (fX10_of a0 ((46 : Int32) + l2) z).bind fun x61 =>
    (fX10_of a0 ((50 : Int32) + l2) z).bind fun x69 =>
    (stI 0 z b53 x61 x69).bind fun z72 =>
    (gN 9 45 z72 a0).bind fun b74 =>
    (fX10_of a0 ((50 : Int32) + l2) z72).bind fun x82 =>
    (fX10_of a0 ((46 : Int32) + l2) z72).bind fun x90 =>
    (stI 0 z72 b74 x82 x90).bind fun z93 =>
    nm (l2 + (1 : Int32)) fun v94 =>
    k44 a0 v94 z93
  )
set_option maxHeartbeats 4000000 in
set_option maxRecDepth 100000 in
theorem kbX10_unhappy_44 {p : Program} {l : Launch} {e : Env} {s : State} {m : MethodId} {args : Array Value} {below : List Frame} {meth : Method} {c : Code} {G : GW} {r : Int32} {z' : AH} (C : Cx p m c cX10_unhappy 7 s args RX10 G) (hlk : meth.locks = false) (hr : meth.sig.returnType = (some .int)) (k44 : Nat → Int32 → AH → Option (Int32 × AH)) (hk44 : ∀ (a0 : Nat) (l2 : Int32) (z : AH) (H : Heap) (locs : List Loc) (ls : Array Slot), k44 a0 l2 z = some (r, z') → Wb G z s H locs → lv_has ls 7 [(0, .ref (gB G + a0)), (2, .int l2)] → W p l e rmX10_unhappy s m args below meth c H locs 0 0 (MQ below (Qi G r z') args s 0 0 (AA G)) (F0 m 44 ls [])) (a0 : Nat) (l2 : Int32) {z : AH} {H : Heap} {locs : List Loc} {ls : Array Slot} (h : bX10_unhappy_44 k44 a0 l2 z = some (r, z')) (hW : Wb G z s H locs) (hl : lv_has ls 7 [(0, .ref (gB G + a0)), (2, .int l2)]) : W p l e rmX10_unhappy s m args below meth c H locs 0 0 (MQ below (Qi G r z') args s 0 0 (AA G)) (F0 m 44 ls []) := by
  have hx := C.1
  have hb := C.2.1
  unfold bX10_unhappy_44 at h
  refine lv_iload_n hx hb dX10_unhappy_44 rfl (lv_at hl 1 rfl) ?_
  refine lv_aload_n hx hb dX10_unhappy_45 rfl (lv_at hl 0 rfl) ?_
  obtain ⟨x46, hg, h⟩ := ob h
  refine wz_gI C hW flX10_279 hg dX10_unhappy_46 ?_
  refine lv_icmp_ge (tgt := 100) hx hb dX10_unhappy_49 (by decide) (fun c49 => ?_) (fun c49 => ?_)
  · have h := ite_t c49 h
    refine lv_iconst (v := 0) hx hb dX10_unhappy_100 (by decide) ?_
    refine lv_istore_n (lv' := [(2, .int (0 : Int32)), (0, .ref (gB G + a0))]) hx hb dX10_unhappy_101 rfl hl (by decide) rfl (fun ls hl => ?_)
    refine lv_iconst (v := 0) hx hb dX10_unhappy_102 (by decide) ?_
    refine lv_istore_n (lv' := [(3, .int (0 : Int32)), (2, .int (0 : Int32)), (0, .ref (gB G + a0))]) hx hb dX10_unhappy_103 rfl hl (by decide) rfl (fun ls hl => ?_)
    exact klX10_unhappy_104 C hlk hr FU a0 (0 : Int32) (0 : Int32) z _ _ _ h hW (lv_sub hl [2, 1, 0] rfl)
  · have h := ite_f c49 h
    refine lv_aload_n hx hb dX10_unhappy_52 rfl (lv_at hl 0 rfl) ?_
    obtain ⟨b53, hg, h⟩ := ob h
    refine wz_gN C hW flX10_59 hg dX10_unhappy_53 ?_
    refine lv_aload_n hx hb dX10_unhappy_56 rfl (lv_at hl 0 rfl) ?_
    refine lv_bipush (v := 46) hx hb dX10_unhappy_57 (by decide) ?_
    refine lv_iload_n hx hb dX10_unhappy_59 rfl (lv_at hl 1 rfl) ?_
    refine lv_iadd hx hb dX10_unhappy_60 ?_
    obtain ⟨x61, hq, h⟩ := ob h
    refine wz_rI (c' := 0) (s' := 0) hW (wz_runV (rest := [.ref (gB G + b53)]) C hW lVX10_272 (ck hq).1 rfl (ctX10_of l G a0 ((46 : Int32) + l2) z hq) ⟨⟨rfl, rfl⟩, Nat.le_of_ble_eq_true rfl, Nat.le_of_ble_eq_true rfl⟩ rfl hl.1 rfl (Nat.le_of_ble_eq_true rfl) dX10_unhappy_61 ⟨Nat.le_of_ble_eq_true rfl, Nat.le_of_ble_eq_true rfl⟩) rfl rfl (fun H locs hW => ?_)
    refine lv_aload_n hx hb dX10_unhappy_64 rfl (lv_at hl 0 rfl) ?_
    refine lv_bipush (v := 50) hx hb dX10_unhappy_65 (by decide) ?_
    refine lv_iload_n hx hb dX10_unhappy_67 rfl (lv_at hl 1 rfl) ?_
    refine lv_iadd hx hb dX10_unhappy_68 ?_
    obtain ⟨x69, hq, h⟩ := ob h
    refine wz_rI (c' := 0) (s' := 0) hW (wz_runV (rest := [.int x61, .ref (gB G + b53)]) C hW lVX10_272 (ck hq).1 rfl (ctX10_of l G a0 ((50 : Int32) + l2) z hq) ⟨⟨rfl, rfl⟩, Nat.le_of_ble_eq_true rfl, Nat.le_of_ble_eq_true rfl⟩ rfl hl.1 rfl (Nat.le_of_ble_eq_true rfl) dX10_unhappy_69 ⟨Nat.le_of_ble_eq_true rfl, Nat.le_of_ble_eq_true rfl⟩) rfl rfl (fun H locs hW => ?_)
    obtain ⟨z72, hg, h⟩ := ob h
    refine wz_ast C hW hg dX10_unhappy_72 (fun H locs hW => ?_)
    refine lv_aload_n hx hb dX10_unhappy_73 rfl (lv_at hl 0 rfl) ?_
    obtain ⟨b74, hg, h⟩ := ob h
    refine wz_gN C hW flX10_62 hg dX10_unhappy_74 ?_
    refine lv_aload_n hx hb dX10_unhappy_77 rfl (lv_at hl 0 rfl) ?_
    refine lv_bipush (v := 50) hx hb dX10_unhappy_78 (by decide) ?_
    refine lv_iload_n hx hb dX10_unhappy_80 rfl (lv_at hl 1 rfl) ?_
    refine lv_iadd hx hb dX10_unhappy_81 ?_
    obtain ⟨x82, hq, h⟩ := ob h
    refine wz_rI (c' := 0) (s' := 0) hW (wz_runV (rest := [.ref (gB G + b74)]) C hW lVX10_272 (ck hq).1 rfl (ctX10_of l G a0 ((50 : Int32) + l2) z72 hq) ⟨⟨rfl, rfl⟩, Nat.le_of_ble_eq_true rfl, Nat.le_of_ble_eq_true rfl⟩ rfl hl.1 rfl (Nat.le_of_ble_eq_true rfl) dX10_unhappy_82 ⟨Nat.le_of_ble_eq_true rfl, Nat.le_of_ble_eq_true rfl⟩) rfl rfl (fun H locs hW => ?_)
    refine lv_aload_n hx hb dX10_unhappy_85 rfl (lv_at hl 0 rfl) ?_
    refine lv_bipush (v := 46) hx hb dX10_unhappy_86 (by decide) ?_
    refine lv_iload_n hx hb dX10_unhappy_88 rfl (lv_at hl 1 rfl) ?_
    refine lv_iadd hx hb dX10_unhappy_89 ?_
    obtain ⟨x90, hq, h⟩ := ob h
    refine wz_rI (c' := 0) (s' := 0) hW (wz_runV (rest := [.int x82, .ref (gB G + b74)]) C hW lVX10_272 (ck hq).1 rfl (ctX10_of l G a0 ((46 : Int32) + l2) z72 hq) ⟨⟨rfl, rfl⟩, Nat.le_of_ble_eq_true rfl, Nat.le_of_ble_eq_true rfl⟩ rfl hl.1 rfl (Nat.le_of_ble_eq_true rfl) dX10_unhappy_90 ⟨Nat.le_of_ble_eq_true rfl, Nat.le_of_ble_eq_true rfl⟩) rfl rfl (fun H locs hW => ?_)
    obtain ⟨z93, hg, h⟩ := ob h
    refine wz_ast C hW hg dX10_unhappy_93 (fun H locs hW => ?_)
    obtain ⟨v94, ev94⟩ : ∃ y : Int32, y = (l2 + (1 : Int32)) := ⟨_, rfl⟩
    have h := nm_to h ev94
    refine lv_iinc (v := v94) (lv' := [(2, .int v94), (0, .ref (gB G + a0))]) hx hb dX10_unhappy_94 hl (k := 1) rfl (by rw [ev94]; rfl) (by decide) rfl (fun ls hl => ?_)
    refine lv_goto (tgt := 44) hx hb dX10_unhappy_97 (by decide) ?_
    exact hk44 a0 v94 z93 _ _ _ h hW (lv_sub hl [1, 0] rfl)
def fX10_unhappy_44 : Nat → Nat → Int32 → AH → Option (Int32 × AH)
  | 0, _, _, _ => none
  | n + 1, a0, l2, z => bX10_unhappy_44 (fX10_unhappy_44 n) a0 l2 z
theorem klX10_unhappy_44 {p : Program} {l : Launch} {e : Env} {s : State} {m : MethodId} {args : Array Value} {below : List Frame} {meth : Method} {c : Code} {G : GW} {r : Int32} {z' : AH} (C : Cx p m c cX10_unhappy 7 s args RX10 G) (hlk : meth.locks = false) (hr : meth.sig.returnType = (some .int)) : ∀ (n : Nat) (a0 : Nat) (l2 : Int32) (z : AH) (H : Heap) (locs : List Loc) (ls : Array Slot), fX10_unhappy_44 n a0 l2 z = some (r, z') → Wb G z s H locs → lv_has ls 7 [(0, .ref (gB G + a0)), (2, .int l2)] → W p l e rmX10_unhappy s m args below meth c H locs 0 0 (MQ below (Qi G r z') args s 0 0 (AA G)) (F0 m 44 ls []) := by
  intro n
  induction n with
  | zero => intro a0 l2 z H locs ls h; have h : (none : Option (Int32 × AH)) = some (r, z') := h; cases h
  | succ n ih => intro a0 l2 z H locs ls h hW hl; exact kbX10_unhappy_44 C hlk hr (fX10_unhappy_44 n) (fun a0 l2 z H locs ls h hW hl => ih a0 l2 z H locs ls h hW hl) a0 l2 h hW hl
def bX10_unhappy_17 (k17 : Nat → Int32 → AH → Option (Int32 × AH)) (a0 : Nat) (l2 : Int32) (z : AH) : Option (Int32 × AH) :=
  if (4 : Int32) ≤ l2 then (
    fX10_unhappy_44 FU a0 (0 : Int32) z
  ) else (
    (gN 9 44 z a0).bind fun b23 =>
    (stI 0 z b23 l2 (-1 : Int32)).bind fun z28 =>
    (gN 9 45 z28 a0).bind fun b30 =>
    (stI 0 z28 b30 l2 (-1 : Int32)).bind fun z35 =>
    nm (l2 + (1 : Int32)) fun v36 =>
    k17 a0 v36 z35
  )
set_option maxHeartbeats 4000000 in
set_option maxRecDepth 100000 in
theorem kbX10_unhappy_17 {p : Program} {l : Launch} {e : Env} {s : State} {m : MethodId} {args : Array Value} {below : List Frame} {meth : Method} {c : Code} {G : GW} {r : Int32} {z' : AH} (C : Cx p m c cX10_unhappy 7 s args RX10 G) (hlk : meth.locks = false) (hr : meth.sig.returnType = (some .int)) (k17 : Nat → Int32 → AH → Option (Int32 × AH)) (hk17 : ∀ (a0 : Nat) (l2 : Int32) (z : AH) (H : Heap) (locs : List Loc) (ls : Array Slot), k17 a0 l2 z = some (r, z') → Wb G z s H locs → lv_has ls 7 [(0, .ref (gB G + a0)), (2, .int l2)] → W p l e rmX10_unhappy s m args below meth c H locs 0 0 (MQ below (Qi G r z') args s 0 0 (AA G)) (F0 m 17 ls [])) (a0 : Nat) (l2 : Int32) {z : AH} {H : Heap} {locs : List Loc} {ls : Array Slot} (h : bX10_unhappy_17 k17 a0 l2 z = some (r, z')) (hW : Wb G z s H locs) (hl : lv_has ls 7 [(0, .ref (gB G + a0)), (2, .int l2)]) : W p l e rmX10_unhappy s m args below meth c H locs 0 0 (MQ below (Qi G r z') args s 0 0 (AA G)) (F0 m 17 ls []) := by
  have hx := C.1
  have hb := C.2.1
  unfold bX10_unhappy_17 at h
  refine lv_iload_n hx hb dX10_unhappy_17 rfl (lv_at hl 1 rfl) ?_
  refine lv_iconst (v := 4) hx hb dX10_unhappy_18 (by decide) ?_
  refine lv_icmp_ge (tgt := 42) hx hb dX10_unhappy_19 (by decide) (fun c19 => ?_) (fun c19 => ?_)
  · have h := ite_t c19 h
    refine lv_iconst (v := 0) hx hb dX10_unhappy_42 (by decide) ?_
    refine lv_istore_n (lv' := [(2, .int (0 : Int32)), (0, .ref (gB G + a0))]) hx hb dX10_unhappy_43 rfl hl (by decide) rfl (fun ls hl => ?_)
    exact klX10_unhappy_44 C hlk hr FU a0 (0 : Int32) z _ _ _ h hW (lv_sub hl [1, 0] rfl)
  · have h := ite_f c19 h
    refine lv_aload_n hx hb dX10_unhappy_22 rfl (lv_at hl 0 rfl) ?_
    obtain ⟨b23, hg, h⟩ := ob h
    refine wz_gN C hW flX10_59 hg dX10_unhappy_23 ?_
    refine lv_iload_n hx hb dX10_unhappy_26 rfl (lv_at hl 1 rfl) ?_
    refine lv_iconst (v := -1) hx hb dX10_unhappy_27 (by decide) ?_
    obtain ⟨z28, hg, h⟩ := ob h
    refine wz_ast C hW hg dX10_unhappy_28 (fun H locs hW => ?_)
    refine lv_aload_n hx hb dX10_unhappy_29 rfl (lv_at hl 0 rfl) ?_
    obtain ⟨b30, hg, h⟩ := ob h
    refine wz_gN C hW flX10_62 hg dX10_unhappy_30 ?_
    refine lv_iload_n hx hb dX10_unhappy_33 rfl (lv_at hl 1 rfl) ?_
    refine lv_iconst (v := -1) hx hb dX10_unhappy_34 (by decide) ?_
    obtain ⟨z35, hg, h⟩ := ob h
    refine wz_ast C hW hg dX10_unhappy_35 (fun H locs hW => ?_)
    obtain ⟨v36, ev36⟩ : ∃ y : Int32, y = (l2 + (1 : Int32)) := ⟨_, rfl⟩
    have h := nm_to h ev36
    refine lv_iinc (v := v36) (lv' := [(2, .int v36), (0, .ref (gB G + a0))]) hx hb dX10_unhappy_36 hl (k := 1) rfl (by rw [ev36]; rfl) (by decide) rfl (fun ls hl => ?_)
    refine lv_goto (tgt := 17) hx hb dX10_unhappy_39 (by decide) ?_
    exact hk17 a0 v36 z35 _ _ _ h hW (lv_sub hl [1, 0] rfl)
def fX10_unhappy_17 : Nat → Nat → Int32 → AH → Option (Int32 × AH)
  | 0, _, _, _ => none
  | n + 1, a0, l2, z => bX10_unhappy_17 (fX10_unhappy_17 n) a0 l2 z
theorem klX10_unhappy_17 {p : Program} {l : Launch} {e : Env} {s : State} {m : MethodId} {args : Array Value} {below : List Frame} {meth : Method} {c : Code} {G : GW} {r : Int32} {z' : AH} (C : Cx p m c cX10_unhappy 7 s args RX10 G) (hlk : meth.locks = false) (hr : meth.sig.returnType = (some .int)) : ∀ (n : Nat) (a0 : Nat) (l2 : Int32) (z : AH) (H : Heap) (locs : List Loc) (ls : Array Slot), fX10_unhappy_17 n a0 l2 z = some (r, z') → Wb G z s H locs → lv_has ls 7 [(0, .ref (gB G + a0)), (2, .int l2)] → W p l e rmX10_unhappy s m args below meth c H locs 0 0 (MQ below (Qi G r z') args s 0 0 (AA G)) (F0 m 17 ls []) := by
  intro n
  induction n with
  | zero => intro a0 l2 z H locs ls h; have h : (none : Option (Int32 × AH)) = some (r, z') := h; cases h
  | succ n ih => intro a0 l2 z H locs ls h hW hl; exact kbX10_unhappy_17 C hlk hr (fX10_unhappy_17 n) (fun a0 l2 z H locs ls h hW hl => ih a0 l2 z H locs ls h hW hl) a0 l2 h hW hl
def fX10_unhappy (a0 : Nat) (l1 : Int32) (z : AH) : Option (Int32 × AH) :=
  if isO 9 z a0 = true then
    (pF 9 0 z a0 (.int (0 : Int32))).bind fun z2 =>
    b2 (fX10_hand a0 l1 z2) fun x7 z7 =>
    if x7 = (0 : Int32) then (
      some ((-1 : Int32), z7)
    ) else (
      fX10_unhappy_17 FU a0 (0 : Int32) z7
    )
  else none
set_option maxHeartbeats 4000000 in
set_option maxRecDepth 100000 in
theorem ctX10_unhappy (l : Launch) (G : GW) (a0 : Nat) (l1 : Int32) (z : AH) {r : Int32} {z' : AH} (h : fX10_unhappy a0 l1 z = some (r, z')) : Met l yX10_unhappy (wy yX10_unhappy cX10_unhappy 7 (some .int)) rmX10_unhappy (Pz G [.ref (gB G + a0), .int l1] z) (Qi G r z') 0 0 (AA G) := by
  refine wz_ent (own := RX10) (by decide +kernel) rfl (fun p e s m below meth c ls C hlk hr hin hW hl => ?_) (Nat.le_of_ble_eq_true rfl)
  have hl : lv_has ls 7 [(0, .ref (gB G + a0)), (1, .int l1)] := hl
  have hx := C.1
  have hb := C.2.1
  unfold fX10_unhappy at h
  obtain ⟨-, h⟩ := ck h
  refine lv_aload_n hx hb dX10_unhappy_0 rfl (lv_at hl 0 rfl) ?_
  refine lv_iconst (v := 0) hx hb dX10_unhappy_1 (by decide) ?_
  obtain ⟨z2, hg, h⟩ := ob h
  refine wz_put (v := (.int (0 : Int32))) C hW flX10_81 rfl rfl hg dX10_unhappy_2 (fun H locs hW => ?_)
  refine lv_aload_n hx hb dX10_unhappy_5 rfl (lv_at hl 0 rfl) ?_
  refine lv_iload_n hx hb dX10_unhappy_6 rfl (lv_at hl 1 rfl) ?_
  obtain ⟨x7, z7, hq, h⟩ := ob2 h
  refine wz_rI (c' := 0) (s' := 0) hW (wz_runV (rest := []) C hW lVX10_330 (ck hq).1 rfl (ctX10_hand l G a0 l1 z2 hq) ⟨⟨rfl, rfl⟩, Nat.le_of_ble_eq_true rfl, Nat.le_of_ble_eq_true rfl⟩ rfl hl.1 rfl (Nat.le_of_ble_eq_true rfl) dX10_unhappy_7 ⟨Nat.le_of_ble_eq_true rfl, Nat.le_of_ble_eq_true rfl⟩) rfl rfl (fun H locs hW => ?_)
  refine lv_if_ne (tgt := 15) hx hb dX10_unhappy_10 (by decide) (fun c10 => ?_) (fun c10 => ?_)
  · have h := ite_f c10 h
    refine lv_iconst (v := 0) hx hb dX10_unhappy_15 (by decide) ?_
    refine lv_istore_n (lv' := [(2, .int (0 : Int32)), (0, .ref (gB G + a0)), (1, .int l1)]) hx hb dX10_unhappy_16 rfl hl (by decide) rfl (fun ls hl => ?_)
    exact klX10_unhappy_17 C hlk hr FU a0 (0 : Int32) z7 _ _ _ h hW (lv_sub hl [1, 0] rfl)
  · have h := ite_t c10 h
    refine lv_iconst (v := -1) hx hb dX10_unhappy_13 (by decide) ?_
    exact wz_iretE C hlk hr (so2 h).1 (so2 h).2 hW dX10_unhappy_14
theorem dX10_agree_0 : decode cX10_agree 0 = .ok (.aload_n 0, 1) := by decide +kernel
theorem dX10_agree_1 : decode cX10_agree 1 = .ok (.iconst 0, 1) := by decide +kernel
theorem dX10_agree_2 : decode cX10_agree 2 = .ok (.putfield 81, 3) := by decide +kernel
theorem dX10_agree_5 : decode cX10_agree 5 = .ok (.iload_n 1, 1) := by decide +kernel
theorem dX10_agree_6 : decode cX10_agree 6 = .ok (.iconst 0, 1) := by decide +kernel
theorem dX10_agree_7 : decode cX10_agree 7 = .ok (.bipush 99, 2) := by decide +kernel
theorem dX10_agree_9 : decode cX10_agree 9 = .ok (.invokestatic 93, 3) := by decide +kernel
theorem dX10_agree_12 : decode cX10_agree 12 = .ok (.ifCond .eq 34, 3) := by decide +kernel
theorem dX10_agree_15 : decode cX10_agree 15 = .ok (.iload_n 2, 1) := by decide +kernel
theorem dX10_agree_16 : decode cX10_agree 16 = .ok (.iconst 0, 1) := by decide +kernel
theorem dX10_agree_17 : decode cX10_agree 17 = .ok (.bipush 99, 2) := by decide +kernel
theorem dX10_agree_19 : decode cX10_agree 19 = .ok (.invokestatic 93, 3) := by decide +kernel
theorem dX10_agree_22 : decode cX10_agree 22 = .ok (.ifCond .eq 24, 3) := by decide +kernel
theorem dX10_agree_25 : decode cX10_agree 25 = .ok (.iload_n 3, 1) := by decide +kernel
theorem dX10_agree_26 : decode cX10_agree 26 = .ok (.iconst 0, 1) := by decide +kernel
theorem dX10_agree_27 : decode cX10_agree 27 = .ok (.bipush 99, 2) := by decide +kernel
theorem dX10_agree_29 : decode cX10_agree 29 = .ok (.invokestatic 93, 3) := by decide +kernel
theorem dX10_agree_32 : decode cX10_agree 32 = .ok (.ifCond .eq 14, 3) := by decide +kernel
theorem dX10_agree_35 : decode cX10_agree 35 = .ok (.iload 4, 2) := by decide +kernel
theorem dX10_agree_37 : decode cX10_agree 37 = .ok (.iconst 0, 1) := by decide +kernel
theorem dX10_agree_38 : decode cX10_agree 38 = .ok (.bipush 9, 2) := by decide +kernel
theorem dX10_agree_40 : decode cX10_agree 40 = .ok (.invokestatic 93, 3) := by decide +kernel
theorem dX10_agree_43 : decode cX10_agree 43 = .ok (.ifCond .ne 5, 3) := by decide +kernel
theorem dX10_agree_46 : decode cX10_agree 46 = .ok (.iconst (-1), 1) := by decide +kernel
theorem dX10_agree_47 : decode cX10_agree 47 = .ok (.ireturn, 1) := by decide +kernel
theorem dX10_agree_48 : decode cX10_agree 48 = .ok (.iload_n 1, 1) := by decide +kernel
theorem dX10_agree_49 : decode cX10_agree 49 = .ok (.iload_n 2, 1) := by decide +kernel
theorem dX10_agree_50 : decode cX10_agree 50 = .ok (.invokestatic 327, 3) := by decide +kernel
theorem dX10_agree_53 : decode cX10_agree 53 = .ok (.istore 6, 2) := by decide +kernel
theorem dX10_agree_55 : decode cX10_agree 55 = .ok (.iload_n 1, 1) := by decide +kernel
theorem dX10_agree_56 : decode cX10_agree 56 = .ok (.iload_n 3, 1) := by decide +kernel
theorem dX10_agree_57 : decode cX10_agree 57 = .ok (.invokestatic 327, 3) := by decide +kernel
theorem dX10_agree_60 : decode cX10_agree 60 = .ok (.istore 7, 2) := by decide +kernel
theorem dX10_agree_62 : decode cX10_agree 62 = .ok (.iload_n 2, 1) := by decide +kernel
theorem dX10_agree_63 : decode cX10_agree 63 = .ok (.iload_n 3, 1) := by decide +kernel
theorem dX10_agree_64 : decode cX10_agree 64 = .ok (.invokestatic 327, 3) := by decide +kernel
theorem dX10_agree_67 : decode cX10_agree 67 = .ok (.istore 8, 2) := by decide +kernel
theorem dX10_agree_69 : decode cX10_agree 69 = .ok (.iload 6, 2) := by decide +kernel
theorem dX10_agree_71 : decode cX10_agree 71 = .ok (.iload 7, 2) := by decide +kernel
theorem dX10_agree_73 : decode cX10_agree 73 = .ok (.if_icmp .gt 14, 3) := by decide +kernel
theorem dX10_agree_76 : decode cX10_agree 76 = .ok (.iload 6, 2) := by decide +kernel
theorem dX10_agree_78 : decode cX10_agree 78 = .ok (.iload 8, 2) := by decide +kernel
theorem dX10_agree_80 : decode cX10_agree 80 = .ok (.if_icmp .gt 7, 3) := by decide +kernel
theorem dX10_agree_83 : decode cX10_agree 83 = .ok (.iconst 0, 1) := by decide +kernel
theorem dX10_agree_84 : decode cX10_agree 84 = .ok (.goto 15, 3) := by decide +kernel
theorem dX10_agree_87 : decode cX10_agree 87 = .ok (.iload 7, 2) := by decide +kernel
theorem dX10_agree_89 : decode cX10_agree 89 = .ok (.iload 8, 2) := by decide +kernel
theorem dX10_agree_91 : decode cX10_agree 91 = .ok (.if_icmp .gt 7, 3) := by decide +kernel
theorem dX10_agree_94 : decode cX10_agree 94 = .ok (.iconst 1, 1) := by decide +kernel
theorem dX10_agree_95 : decode cX10_agree 95 = .ok (.goto 4, 3) := by decide +kernel
theorem dX10_agree_98 : decode cX10_agree 98 = .ok (.iconst 2, 1) := by decide +kernel
theorem dX10_agree_99 : decode cX10_agree 99 = .ok (.istore 9, 2) := by decide +kernel
theorem dX10_agree_101 : decode cX10_agree 101 = .ok (.iload 9, 2) := by decide +kernel
theorem dX10_agree_103 : decode cX10_agree 103 = .ok (.ifCond .ne 8, 3) := by decide +kernel
theorem dX10_agree_106 : decode cX10_agree 106 = .ok (.iload 6, 2) := by decide +kernel
theorem dX10_agree_108 : decode cX10_agree 108 = .ok (.goto 16, 3) := by decide +kernel
theorem dX10_agree_111 : decode cX10_agree 111 = .ok (.iload 9, 2) := by decide +kernel
theorem dX10_agree_113 : decode cX10_agree 113 = .ok (.iconst 1, 1) := by decide +kernel
theorem dX10_agree_114 : decode cX10_agree 114 = .ok (.if_icmp .ne 8, 3) := by decide +kernel
theorem dX10_agree_117 : decode cX10_agree 117 = .ok (.iload 7, 2) := by decide +kernel
theorem dX10_agree_119 : decode cX10_agree 119 = .ok (.goto 5, 3) := by decide +kernel
theorem dX10_agree_122 : decode cX10_agree 122 = .ok (.iload 8, 2) := by decide +kernel
theorem dX10_agree_124 : decode cX10_agree 124 = .ok (.istore 10, 2) := by decide +kernel
theorem dX10_agree_126 : decode cX10_agree 126 = .ok (.iload 10, 2) := by decide +kernel
theorem dX10_agree_128 : decode cX10_agree 128 = .ok (.iload 4, 2) := by decide +kernel
theorem dX10_agree_130 : decode cX10_agree 130 = .ok (.if_icmp .le 5, 3) := by decide +kernel
theorem dX10_agree_133 : decode cX10_agree 133 = .ok (.iconst (-1), 1) := by decide +kernel
theorem dX10_agree_134 : decode cX10_agree 134 = .ok (.ireturn, 1) := by decide +kernel
theorem dX10_agree_135 : decode cX10_agree 135 = .ok (.iload 5, 2) := by decide +kernel
theorem dX10_agree_137 : decode cX10_agree 137 = .ok (.ifCond .ne 8, 3) := by decide +kernel
theorem dX10_agree_140 : decode cX10_agree 140 = .ok (.iload 9, 2) := by decide +kernel
theorem dX10_agree_142 : decode cX10_agree 142 = .ok (.goto 31, 3) := by decide +kernel
theorem dX10_agree_145 : decode cX10_agree 145 = .ok (.iload 9, 2) := by decide +kernel
theorem dX10_agree_147 : decode cX10_agree 147 = .ok (.ifCond .ne 9, 3) := by decide +kernel
theorem dX10_agree_150 : decode cX10_agree 150 = .ok (.iload_n 1, 1) := by decide +kernel
theorem dX10_agree_151 : decode cX10_agree 151 = .ok (.iload_n 2, 1) := by decide +kernel
theorem dX10_agree_152 : decode cX10_agree 152 = .ok (.iadd, 1) := by decide +kernel
theorem dX10_agree_153 : decode cX10_agree 153 = .ok (.goto 18, 3) := by decide +kernel
theorem dX10_agree_156 : decode cX10_agree 156 = .ok (.iload 9, 2) := by decide +kernel
theorem dX10_agree_158 : decode cX10_agree 158 = .ok (.iconst 1, 1) := by decide +kernel
theorem dX10_agree_159 : decode cX10_agree 159 = .ok (.if_icmp .ne 9, 3) := by decide +kernel
theorem dX10_agree_162 : decode cX10_agree 162 = .ok (.iload_n 1, 1) := by decide +kernel
theorem dX10_agree_163 : decode cX10_agree 163 = .ok (.iload_n 3, 1) := by decide +kernel
theorem dX10_agree_164 : decode cX10_agree 164 = .ok (.iadd, 1) := by decide +kernel
theorem dX10_agree_165 : decode cX10_agree 165 = .ok (.goto 6, 3) := by decide +kernel
theorem dX10_agree_168 : decode cX10_agree 168 = .ok (.iload_n 2, 1) := by decide +kernel
theorem dX10_agree_169 : decode cX10_agree 169 = .ok (.iload_n 3, 1) := by decide +kernel
theorem dX10_agree_170 : decode cX10_agree 170 = .ok (.iadd, 1) := by decide +kernel
theorem dX10_agree_171 : decode cX10_agree 171 = .ok (.iconst 2, 1) := by decide +kernel
theorem dX10_agree_172 : decode cX10_agree 172 = .ok (.idiv, 1) := by decide +kernel
theorem dX10_agree_173 : decode cX10_agree 173 = .ok (.ireturn, 1) := by decide +kernel
abbrev rmX10_agree : Room := { frames := 1, cells := 0, slots := 0, locals := 22 }
def bX10_agree_124 (l1 : Int32) (l2 : Int32) (l3 : Int32) (l4 : Int32) (l5 : Int32) (l9 : Int32) (s0 : Int32) (z : AH) : Option (Int32 × AH) :=
  if s0 ≤ l4 then (
    if l5 = (0 : Int32) then (
      some (l9, z)
    ) else (
      if l9 = (0 : Int32) then (
        some (((l1 + l2) / (2 : Int32)), z)
      ) else (
        if l9 = (1 : Int32) then (
          some (((l1 + l3) / (2 : Int32)), z)
        ) else (
          some (((l2 + l3) / (2 : Int32)), z)
        )
      )
    )
  ) else (
    some ((-1 : Int32), z)
  )
set_option maxHeartbeats 4000000 in
set_option maxRecDepth 100000 in
theorem kbX10_agree_124 {p : Program} {l : Launch} {e : Env} {s : State} {m : MethodId} {args : Array Value} {below : List Frame} {meth : Method} {c : Code} {G : GW} {r : Int32} {z' : AH} (C : Cx p m c cX10_agree 11 s args RX10 G) (hlk : meth.locks = false) (hr : meth.sig.returnType = (some .int)) (l1 : Int32) (l2 : Int32) (l3 : Int32) (l4 : Int32) (l5 : Int32) (l9 : Int32) (s0 : Int32) {z : AH} {H : Heap} {locs : List Loc} {ls : Array Slot} (h : bX10_agree_124 l1 l2 l3 l4 l5 l9 s0 z = some (r, z')) (hW : Wb G z s H locs) (hl : lv_has ls 11 [(1, .int l1), (2, .int l2), (3, .int l3), (4, .int l4), (5, .int l5), (9, .int l9)]) : W p l e rmX10_agree s m args below meth c H locs 0 0 (MQ below (Qi G r z') args s 0 0 (AA G)) (F0 m 124 ls [.int s0]) := by
  have hx := C.1
  have hb := C.2.1
  unfold bX10_agree_124 at h
  refine lv_istore (lv' := [(10, .int s0), (1, .int l1), (2, .int l2), (3, .int l3), (4, .int l4), (5, .int l5), (9, .int l9)]) hx hb dX10_agree_124 hl (by decide) rfl (fun ls hl => ?_)
  refine lv_iload hx hb dX10_agree_126 (lv_at hl 0 rfl) ?_
  refine lv_iload hx hb dX10_agree_128 (lv_at hl 4 rfl) ?_
  refine lv_icmp_le (tgt := 135) hx hb dX10_agree_130 (by decide) (fun c130 => ?_) (fun c130 => ?_)
  · have h := ite_t c130 h
    refine lv_iload hx hb dX10_agree_135 (lv_at hl 5 rfl) ?_
    refine lv_if_ne (tgt := 145) hx hb dX10_agree_137 (by decide) (fun c137 => ?_) (fun c137 => ?_)
    · have h := ite_f c137 h
      refine lv_iload hx hb dX10_agree_145 (lv_at hl 6 rfl) ?_
      refine lv_if_ne (tgt := 156) hx hb dX10_agree_147 (by decide) (fun c147 => ?_) (fun c147 => ?_)
      · have h := ite_f c147 h
        refine lv_iload hx hb dX10_agree_156 (lv_at hl 6 rfl) ?_
        refine lv_iconst (v := 1) hx hb dX10_agree_158 (by decide) ?_
        refine lv_icmp_ne (tgt := 168) hx hb dX10_agree_159 (by decide) (fun c159 => ?_) (fun c159 => ?_)
        · have h := ite_f c159 h
          refine lv_iload_n hx hb dX10_agree_168 rfl (lv_at hl 2 rfl) ?_
          refine lv_iload_n hx hb dX10_agree_169 rfl (lv_at hl 3 rfl) ?_
          refine lv_iadd hx hb dX10_agree_170 ?_
          refine lv_iconst (v := 2) hx hb dX10_agree_171 (by decide) ?_
          refine lv_idiv hx hb dX10_agree_172 (by decide) ?_
          exact wz_iretE C hlk hr (so2 h).1 (so2 h).2 hW dX10_agree_173
        · have h := ite_t c159 h
          refine lv_iload_n hx hb dX10_agree_162 rfl (lv_at hl 1 rfl) ?_
          refine lv_iload_n hx hb dX10_agree_163 rfl (lv_at hl 3 rfl) ?_
          refine lv_iadd hx hb dX10_agree_164 ?_
          refine lv_goto (tgt := 171) hx hb dX10_agree_165 (by decide) ?_
          refine lv_iconst (v := 2) hx hb dX10_agree_171 (by decide) ?_
          refine lv_idiv hx hb dX10_agree_172 (by decide) ?_
          exact wz_iretE C hlk hr (so2 h).1 (so2 h).2 hW dX10_agree_173
      · have h := ite_t c147 h
        refine lv_iload_n hx hb dX10_agree_150 rfl (lv_at hl 1 rfl) ?_
        refine lv_iload_n hx hb dX10_agree_151 rfl (lv_at hl 2 rfl) ?_
        refine lv_iadd hx hb dX10_agree_152 ?_
        refine lv_goto (tgt := 171) hx hb dX10_agree_153 (by decide) ?_
        refine lv_iconst (v := 2) hx hb dX10_agree_171 (by decide) ?_
        refine lv_idiv hx hb dX10_agree_172 (by decide) ?_
        exact wz_iretE C hlk hr (so2 h).1 (so2 h).2 hW dX10_agree_173
    · have h := ite_t c137 h
      refine lv_iload hx hb dX10_agree_140 (lv_at hl 6 rfl) ?_
      refine lv_goto (tgt := 173) hx hb dX10_agree_142 (by decide) ?_
      exact wz_iretE C hlk hr (so2 h).1 (so2 h).2 hW dX10_agree_173
  · have h := ite_f c130 h
    refine lv_iconst (v := -1) hx hb dX10_agree_133 (by decide) ?_
    exact wz_iretE C hlk hr (so2 h).1 (so2 h).2 hW dX10_agree_134
def bX10_agree_99 (l1 : Int32) (l2 : Int32) (l3 : Int32) (l4 : Int32) (l5 : Int32) (l6 : Int32) (l7 : Int32) (l8 : Int32) (s0 : Int32) (z : AH) : Option (Int32 × AH) :=
  if s0 = (0 : Int32) then (
    bX10_agree_124 l1 l2 l3 l4 l5 s0 l6 z
  ) else (
    if s0 = (1 : Int32) then (
      bX10_agree_124 l1 l2 l3 l4 l5 s0 l7 z
    ) else (
      bX10_agree_124 l1 l2 l3 l4 l5 s0 l8 z
    )
  )
set_option maxHeartbeats 4000000 in
set_option maxRecDepth 100000 in
theorem kbX10_agree_99 {p : Program} {l : Launch} {e : Env} {s : State} {m : MethodId} {args : Array Value} {below : List Frame} {meth : Method} {c : Code} {G : GW} {r : Int32} {z' : AH} (C : Cx p m c cX10_agree 11 s args RX10 G) (hlk : meth.locks = false) (hr : meth.sig.returnType = (some .int)) (l1 : Int32) (l2 : Int32) (l3 : Int32) (l4 : Int32) (l5 : Int32) (l6 : Int32) (l7 : Int32) (l8 : Int32) (s0 : Int32) {z : AH} {H : Heap} {locs : List Loc} {ls : Array Slot} (h : bX10_agree_99 l1 l2 l3 l4 l5 l6 l7 l8 s0 z = some (r, z')) (hW : Wb G z s H locs) (hl : lv_has ls 11 [(1, .int l1), (2, .int l2), (3, .int l3), (4, .int l4), (5, .int l5), (6, .int l6), (7, .int l7), (8, .int l8)]) : W p l e rmX10_agree s m args below meth c H locs 0 0 (MQ below (Qi G r z') args s 0 0 (AA G)) (F0 m 99 ls [.int s0]) := by
  have hx := C.1
  have hb := C.2.1
  unfold bX10_agree_99 at h
  refine lv_istore (lv' := [(9, .int s0), (1, .int l1), (2, .int l2), (3, .int l3), (4, .int l4), (5, .int l5), (6, .int l6), (7, .int l7), (8, .int l8)]) hx hb dX10_agree_99 hl (by decide) rfl (fun ls hl => ?_)
  refine lv_iload hx hb dX10_agree_101 (lv_at hl 0 rfl) ?_
  refine lv_if_ne (tgt := 111) hx hb dX10_agree_103 (by decide) (fun c103 => ?_) (fun c103 => ?_)
  · have h := ite_f c103 h
    refine lv_iload hx hb dX10_agree_111 (lv_at hl 0 rfl) ?_
    refine lv_iconst (v := 1) hx hb dX10_agree_113 (by decide) ?_
    refine lv_icmp_ne (tgt := 122) hx hb dX10_agree_114 (by decide) (fun c114 => ?_) (fun c114 => ?_)
    · have h := ite_f c114 h
      refine lv_iload hx hb dX10_agree_122 (lv_at hl 8 rfl) ?_
      exact kbX10_agree_124 C hlk hr l1 l2 l3 l4 l5 s0 l8 h hW (lv_sub hl [1, 2, 3, 4, 5, 0] rfl)
    · have h := ite_t c114 h
      refine lv_iload hx hb dX10_agree_117 (lv_at hl 7 rfl) ?_
      refine lv_goto (tgt := 124) hx hb dX10_agree_119 (by decide) ?_
      exact kbX10_agree_124 C hlk hr l1 l2 l3 l4 l5 s0 l7 h hW (lv_sub hl [1, 2, 3, 4, 5, 0] rfl)
  · have h := ite_t c103 h
    refine lv_iload hx hb dX10_agree_106 (lv_at hl 6 rfl) ?_
    refine lv_goto (tgt := 124) hx hb dX10_agree_108 (by decide) ?_
    exact kbX10_agree_124 C hlk hr l1 l2 l3 l4 l5 s0 l6 h hW (lv_sub hl [1, 2, 3, 4, 5, 0] rfl)
def bX10_agree_87 (l1 : Int32) (l2 : Int32) (l3 : Int32) (l4 : Int32) (l5 : Int32) (l6 : Int32) (l7 : Int32) (l8 : Int32) (z : AH) : Option (Int32 × AH) :=
  if l8 < l7 then (
    bX10_agree_99 l1 l2 l3 l4 l5 l6 l7 l8 (2 : Int32) z
  ) else (
    bX10_agree_99 l1 l2 l3 l4 l5 l6 l7 l8 (1 : Int32) z
  )
set_option maxHeartbeats 4000000 in
set_option maxRecDepth 100000 in
theorem kbX10_agree_87 {p : Program} {l : Launch} {e : Env} {s : State} {m : MethodId} {args : Array Value} {below : List Frame} {meth : Method} {c : Code} {G : GW} {r : Int32} {z' : AH} (C : Cx p m c cX10_agree 11 s args RX10 G) (hlk : meth.locks = false) (hr : meth.sig.returnType = (some .int)) (l1 : Int32) (l2 : Int32) (l3 : Int32) (l4 : Int32) (l5 : Int32) (l6 : Int32) (l7 : Int32) (l8 : Int32) {z : AH} {H : Heap} {locs : List Loc} {ls : Array Slot} (h : bX10_agree_87 l1 l2 l3 l4 l5 l6 l7 l8 z = some (r, z')) (hW : Wb G z s H locs) (hl : lv_has ls 11 [(1, .int l1), (2, .int l2), (3, .int l3), (4, .int l4), (5, .int l5), (6, .int l6), (7, .int l7), (8, .int l8)]) : W p l e rmX10_agree s m args below meth c H locs 0 0 (MQ below (Qi G r z') args s 0 0 (AA G)) (F0 m 87 ls []) := by
  have hx := C.1
  have hb := C.2.1
  unfold bX10_agree_87 at h
  refine lv_iload hx hb dX10_agree_87 (lv_at hl 6 rfl) ?_
  refine lv_iload hx hb dX10_agree_89 (lv_at hl 7 rfl) ?_
  refine lv_icmp_gt (tgt := 98) hx hb dX10_agree_91 (by decide) (fun c91 => ?_) (fun c91 => ?_)
  · have h := ite_t c91 h
    refine lv_iconst (v := 2) hx hb dX10_agree_98 (by decide) ?_
    exact kbX10_agree_99 C hlk hr l1 l2 l3 l4 l5 l6 l7 l8 (2 : Int32) h hW (lv_sub hl [0, 1, 2, 3, 4, 5, 6, 7] rfl)
  · have h := ite_f c91 h
    refine lv_iconst (v := 1) hx hb dX10_agree_94 (by decide) ?_
    refine lv_goto (tgt := 99) hx hb dX10_agree_95 (by decide) ?_
    exact kbX10_agree_99 C hlk hr l1 l2 l3 l4 l5 l6 l7 l8 (1 : Int32) h hW (lv_sub hl [0, 1, 2, 3, 4, 5, 6, 7] rfl)
def fX10_agree (a0 : Nat) (l1 : Int32) (l2 : Int32) (l3 : Int32) (l4 : Int32) (l5 : Int32) (z : AH) : Option (Int32 × AH) :=
  if isO 9 z a0 = true then
    (pF 9 0 z a0 (.int (0 : Int32))).bind fun z2 =>
    if (fX10_in l1 (0 : Int32) (99 : Int32)) = (0 : Int32) then (
      some ((-1 : Int32), z2)
    ) else (
      if (fX10_in l2 (0 : Int32) (99 : Int32)) = (0 : Int32) then (
        some ((-1 : Int32), z2)
      ) else (
        if (fX10_in l3 (0 : Int32) (99 : Int32)) = (0 : Int32) then (
          some ((-1 : Int32), z2)
        ) else (
          if (fX10_in l4 (0 : Int32) (9 : Int32)) = (0 : Int32) then (
            some ((-1 : Int32), z2)
          ) else (
            nm (fX10_apart l1 l2) fun v53 =>
            nm (fX10_apart l1 l3) fun v60 =>
            nm (fX10_apart l2 l3) fun v67 =>
            if v60 < v53 then (
              bX10_agree_87 l1 l2 l3 l4 l5 v53 v60 v67 z2
            ) else (
              if v67 < v53 then (
                bX10_agree_87 l1 l2 l3 l4 l5 v53 v60 v67 z2
              ) else (
                bX10_agree_99 l1 l2 l3 l4 l5 v53 v60 v67 (0 : Int32) z2
              )
            )
          )
        )
      )
    )
  else none
set_option maxHeartbeats 4000000 in
set_option maxRecDepth 100000 in
theorem ctX10_agree (l : Launch) (G : GW) (a0 : Nat) (l1 : Int32) (l2 : Int32) (l3 : Int32) (l4 : Int32) (l5 : Int32) (z : AH) {r : Int32} {z' : AH} (h : fX10_agree a0 l1 l2 l3 l4 l5 z = some (r, z')) : Met l yX10_agree (wy yX10_agree cX10_agree 11 (some .int)) rmX10_agree (Pz G [.ref (gB G + a0), .int l1, .int l2, .int l3, .int l4, .int l5] z) (Qi G r z') 0 0 (AA G) := by
  refine wz_ent (own := RX10) (by decide +kernel) rfl (fun p e s m below meth c ls C hlk hr hin hW hl => ?_) (Nat.le_of_ble_eq_true rfl)
  have hl : lv_has ls 11 [(0, .ref (gB G + a0)), (1, .int l1), (2, .int l2), (3, .int l3), (4, .int l4), (5, .int l5)] := hl
  have hx := C.1
  have hb := C.2.1
  unfold fX10_agree at h
  obtain ⟨-, h⟩ := ck h
  refine lv_aload_n hx hb dX10_agree_0 rfl (lv_at hl 0 rfl) ?_
  refine lv_iconst (v := 0) hx hb dX10_agree_1 (by decide) ?_
  obtain ⟨z2, hg, h⟩ := ob h
  refine wz_put (v := (.int (0 : Int32))) C hW flX10_81 rfl rfl hg dX10_agree_2 (fun H locs hW => ?_)
  refine lv_iload_n hx hb dX10_agree_5 rfl (lv_at hl 1 rfl) ?_
  refine lv_iconst (v := 0) hx hb dX10_agree_6 (by decide) ?_
  refine lv_bipush (v := 99) hx hb dX10_agree_7 (by decide) ?_
  refine wz_rI (c' := 0) (s' := 0) hW (wz_runS (rest := []) C hW lTX10_93 (ctX10_in l G l1 (0 : Int32) (99 : Int32) z2 rfl) ⟨⟨rfl, rfl⟩, Nat.le_of_ble_eq_true rfl, Nat.le_of_ble_eq_true rfl⟩ rfl hl.1 rfl (Nat.le_of_ble_eq_true rfl) dX10_agree_9 ⟨Nat.le_of_ble_eq_true rfl, Nat.le_of_ble_eq_true rfl⟩) rfl rfl (fun H locs hW => ?_)
  refine lv_if_eq (tgt := 46) hx hb dX10_agree_12 (by decide) (fun c12 => ?_) (fun c12 => ?_)
  · have h := ite_t c12 h
    refine lv_iconst (v := -1) hx hb dX10_agree_46 (by decide) ?_
    exact wz_iretE C hlk hr (so2 h).1 (so2 h).2 hW dX10_agree_47
  · have h := ite_f c12 h
    refine lv_iload_n hx hb dX10_agree_15 rfl (lv_at hl 2 rfl) ?_
    refine lv_iconst (v := 0) hx hb dX10_agree_16 (by decide) ?_
    refine lv_bipush (v := 99) hx hb dX10_agree_17 (by decide) ?_
    refine wz_rI (c' := 0) (s' := 0) hW (wz_runS (rest := []) C hW lTX10_93 (ctX10_in l G l2 (0 : Int32) (99 : Int32) z2 rfl) ⟨⟨rfl, rfl⟩, Nat.le_of_ble_eq_true rfl, Nat.le_of_ble_eq_true rfl⟩ rfl hl.1 rfl (Nat.le_of_ble_eq_true rfl) dX10_agree_19 ⟨Nat.le_of_ble_eq_true rfl, Nat.le_of_ble_eq_true rfl⟩) rfl rfl (fun H locs hW => ?_)
    refine lv_if_eq (tgt := 46) hx hb dX10_agree_22 (by decide) (fun c22 => ?_) (fun c22 => ?_)
    · have h := ite_t c22 h
      refine lv_iconst (v := -1) hx hb dX10_agree_46 (by decide) ?_
      exact wz_iretE C hlk hr (so2 h).1 (so2 h).2 hW dX10_agree_47
    · have h := ite_f c22 h
      refine lv_iload_n hx hb dX10_agree_25 rfl (lv_at hl 3 rfl) ?_
      refine lv_iconst (v := 0) hx hb dX10_agree_26 (by decide) ?_
      refine lv_bipush (v := 99) hx hb dX10_agree_27 (by decide) ?_
      refine wz_rI (c' := 0) (s' := 0) hW (wz_runS (rest := []) C hW lTX10_93 (ctX10_in l G l3 (0 : Int32) (99 : Int32) z2 rfl) ⟨⟨rfl, rfl⟩, Nat.le_of_ble_eq_true rfl, Nat.le_of_ble_eq_true rfl⟩ rfl hl.1 rfl (Nat.le_of_ble_eq_true rfl) dX10_agree_29 ⟨Nat.le_of_ble_eq_true rfl, Nat.le_of_ble_eq_true rfl⟩) rfl rfl (fun H locs hW => ?_)
      refine lv_if_eq (tgt := 46) hx hb dX10_agree_32 (by decide) (fun c32 => ?_) (fun c32 => ?_)
      · have h := ite_t c32 h
        refine lv_iconst (v := -1) hx hb dX10_agree_46 (by decide) ?_
        exact wz_iretE C hlk hr (so2 h).1 (so2 h).2 hW dX10_agree_47
      · have h := ite_f c32 h
        refine lv_iload hx hb dX10_agree_35 (lv_at hl 4 rfl) ?_
        refine lv_iconst (v := 0) hx hb dX10_agree_37 (by decide) ?_
        refine lv_bipush (v := 9) hx hb dX10_agree_38 (by decide) ?_
        refine wz_rI (c' := 0) (s' := 0) hW (wz_runS (rest := []) C hW lTX10_93 (ctX10_in l G l4 (0 : Int32) (9 : Int32) z2 rfl) ⟨⟨rfl, rfl⟩, Nat.le_of_ble_eq_true rfl, Nat.le_of_ble_eq_true rfl⟩ rfl hl.1 rfl (Nat.le_of_ble_eq_true rfl) dX10_agree_40 ⟨Nat.le_of_ble_eq_true rfl, Nat.le_of_ble_eq_true rfl⟩) rfl rfl (fun H locs hW => ?_)
        refine lv_if_ne (tgt := 48) hx hb dX10_agree_43 (by decide) (fun c43 => ?_) (fun c43 => ?_)
        · have h := ite_f c43 h
          refine lv_iload_n hx hb dX10_agree_48 rfl (lv_at hl 1 rfl) ?_
          refine lv_iload_n hx hb dX10_agree_49 rfl (lv_at hl 2 rfl) ?_
          refine wz_rI (c' := 0) (s' := 0) hW (wz_runS (rest := []) C hW lTX10_327 (ctX10_apart l G l1 l2 z2 rfl) ⟨⟨rfl, rfl⟩, Nat.le_of_ble_eq_true rfl, Nat.le_of_ble_eq_true rfl⟩ rfl hl.1 rfl (Nat.le_of_ble_eq_true rfl) dX10_agree_50 ⟨Nat.le_of_ble_eq_true rfl, Nat.le_of_ble_eq_true rfl⟩) rfl rfl (fun H locs hW => ?_)
          refine lv_topi (fun v53 ev53 => ?_)
          have h := nm_to h ev53
          refine lv_istore (lv' := [(6, .int v53), (0, .ref (gB G + a0)), (1, .int l1), (2, .int l2), (3, .int l3), (4, .int l4), (5, .int l5)]) hx hb dX10_agree_53 hl (by decide) rfl (fun ls hl => ?_)
          refine lv_iload_n hx hb dX10_agree_55 rfl (lv_at hl 2 rfl) ?_
          refine lv_iload_n hx hb dX10_agree_56 rfl (lv_at hl 4 rfl) ?_
          refine wz_rI (c' := 0) (s' := 0) hW (wz_runS (rest := []) C hW lTX10_327 (ctX10_apart l G l1 l3 z2 rfl) ⟨⟨rfl, rfl⟩, Nat.le_of_ble_eq_true rfl, Nat.le_of_ble_eq_true rfl⟩ rfl hl.1 rfl (Nat.le_of_ble_eq_true rfl) dX10_agree_57 ⟨Nat.le_of_ble_eq_true rfl, Nat.le_of_ble_eq_true rfl⟩) rfl rfl (fun H locs hW => ?_)
          refine lv_topi (fun v60 ev60 => ?_)
          have h := nm_to h ev60
          refine lv_istore (lv' := [(7, .int v60), (6, .int v53), (0, .ref (gB G + a0)), (1, .int l1), (2, .int l2), (3, .int l3), (4, .int l4), (5, .int l5)]) hx hb dX10_agree_60 hl (by decide) rfl (fun ls hl => ?_)
          refine lv_iload_n hx hb dX10_agree_62 rfl (lv_at hl 4 rfl) ?_
          refine lv_iload_n hx hb dX10_agree_63 rfl (lv_at hl 5 rfl) ?_
          refine wz_rI (c' := 0) (s' := 0) hW (wz_runS (rest := []) C hW lTX10_327 (ctX10_apart l G l2 l3 z2 rfl) ⟨⟨rfl, rfl⟩, Nat.le_of_ble_eq_true rfl, Nat.le_of_ble_eq_true rfl⟩ rfl hl.1 rfl (Nat.le_of_ble_eq_true rfl) dX10_agree_64 ⟨Nat.le_of_ble_eq_true rfl, Nat.le_of_ble_eq_true rfl⟩) rfl rfl (fun H locs hW => ?_)
          refine lv_topi (fun v67 ev67 => ?_)
          have h := nm_to h ev67
          refine lv_istore (lv' := [(8, .int v67), (7, .int v60), (6, .int v53), (0, .ref (gB G + a0)), (1, .int l1), (2, .int l2), (3, .int l3), (4, .int l4), (5, .int l5)]) hx hb dX10_agree_67 hl (by decide) rfl (fun ls hl => ?_)
          refine lv_iload hx hb dX10_agree_69 (lv_at hl 2 rfl) ?_
          refine lv_iload hx hb dX10_agree_71 (lv_at hl 1 rfl) ?_
          refine lv_icmp_gt (tgt := 87) hx hb dX10_agree_73 (by decide) (fun c73 => ?_) (fun c73 => ?_)
          · have h := ite_t c73 h
            exact kbX10_agree_87 C hlk hr l1 l2 l3 l4 l5 v53 v60 v67 h hW (lv_sub hl [4, 5, 6, 7, 8, 2, 1, 0] rfl)
          · have h := ite_f c73 h
            refine lv_iload hx hb dX10_agree_76 (lv_at hl 2 rfl) ?_
            refine lv_iload hx hb dX10_agree_78 (lv_at hl 0 rfl) ?_
            refine lv_icmp_gt (tgt := 87) hx hb dX10_agree_80 (by decide) (fun c80 => ?_) (fun c80 => ?_)
            · have h := ite_t c80 h
              exact kbX10_agree_87 C hlk hr l1 l2 l3 l4 l5 v53 v60 v67 h hW (lv_sub hl [4, 5, 6, 7, 8, 2, 1, 0] rfl)
            · have h := ite_f c80 h
              refine lv_iconst (v := 0) hx hb dX10_agree_83 (by decide) ?_
              refine lv_goto (tgt := 99) hx hb dX10_agree_84 (by decide) ?_
              exact kbX10_agree_99 C hlk hr l1 l2 l3 l4 l5 v53 v60 v67 (0 : Int32) h hW (lv_sub hl [4, 5, 6, 7, 8, 2, 1, 0] rfl)
        · have h := ite_t c43 h
          refine lv_iconst (v := -1) hx hb dX10_agree_46 (by decide) ?_
          exact wz_iretE C hlk hr (so2 h).1 (so2 h).2 hW dX10_agree_47
theorem dX10_viewOf_0 : decode cX10_viewOf 0 = .ok (.aload_n 0, 1) := by decide +kernel
theorem dX10_viewOf_1 : decode cX10_viewOf 1 = .ok (.getfield 32, 3) := by decide +kernel
theorem dX10_viewOf_4 : decode cX10_viewOf 4 = .ok (.bipush 17, 2) := by decide +kernel
theorem dX10_viewOf_6 : decode cX10_viewOf 6 = .ok (.aload_n 0, 1) := by decide +kernel
theorem dX10_viewOf_7 : decode cX10_viewOf 7 = .ok (.getfield 432, 3) := by decide +kernel
theorem dX10_viewOf_10 : decode cX10_viewOf 10 = .ok (.imul, 1) := by decide +kernel
theorem dX10_viewOf_11 : decode cX10_viewOf 11 = .ok (.iconst 1, 1) := by decide +kernel
theorem dX10_viewOf_12 : decode cX10_viewOf 12 = .ok (.iadd, 1) := by decide +kernel
theorem dX10_viewOf_13 : decode cX10_viewOf 13 = .ok (.iconst 2, 1) := by decide +kernel
theorem dX10_viewOf_14 : decode cX10_viewOf 14 = .ok (.iload_n 1, 1) := by decide +kernel
theorem dX10_viewOf_15 : decode cX10_viewOf 15 = .ok (.imul, 1) := by decide +kernel
theorem dX10_viewOf_16 : decode cX10_viewOf 16 = .ok (.iadd, 1) := by decide +kernel
theorem dX10_viewOf_17 : decode cX10_viewOf 17 = .ok (.iload_n 2, 1) := by decide +kernel
theorem dX10_viewOf_18 : decode cX10_viewOf 18 = .ok (.iadd, 1) := by decide +kernel
theorem dX10_viewOf_19 : decode cX10_viewOf 19 = .ok (.iaload, 1) := by decide +kernel
theorem dX10_viewOf_20 : decode cX10_viewOf 20 = .ok (.ireturn, 1) := by decide +kernel
theorem flX10_432 : FL RX10 432 9 47 := ⟨_, rfl, Nat.le_of_ble_eq_true rfl, tw 1246 (by decide +kernel) rfl, rfl⟩
abbrev rmX10_viewOf : Room := { frames := 0, cells := 0, slots := 0, locals := 0 }
def fX10_viewOf (a0 : Nat) (l1 : Int32) (l2 : Int32) (z : AH) : Option (Int32) :=
  if isO 9 z a0 = true then
    (gN 9 8 z a0).bind fun b1 =>
    (gI 9 47 z a0).bind fun x7 =>
    (ixI 0 z b1 (((((17 : Int32) * x7) + (1 : Int32)) + ((2 : Int32) * l1)) + l2)).bind fun x19 =>
    some x19
  else none
set_option maxHeartbeats 4000000 in
set_option maxRecDepth 100000 in
theorem ctX10_viewOf (l : Launch) (G : GW) (a0 : Nat) (l1 : Int32) (l2 : Int32) (z : AH) {r : Int32} (h : fX10_viewOf a0 l1 l2 z = some r) : Met l yX10_viewOf (wy yX10_viewOf cX10_viewOf 3 (some .int)) rmX10_viewOf (Pz G [.ref (gB G + a0), .int l1, .int l2] z) (Qi G r z) 0 0 (AA G) := by
  refine wz_ent (own := RX10) (by decide +kernel) rfl (fun p e s m below meth c ls C hlk hr hin hW hl => ?_) (Nat.le_of_ble_eq_true rfl)
  have hl : lv_has ls 3 [(0, .ref (gB G + a0)), (1, .int l1), (2, .int l2)] := hl
  have hx := C.1
  have hb := C.2.1
  unfold fX10_viewOf at h
  obtain ⟨-, h⟩ := ck h
  refine lv_aload_n hx hb dX10_viewOf_0 rfl (lv_at hl 0 rfl) ?_
  obtain ⟨b1, hg, h⟩ := ob h
  refine wz_gN C hW flX10_32 hg dX10_viewOf_1 ?_
  refine lv_bipush (v := 17) hx hb dX10_viewOf_4 (by decide) ?_
  refine lv_aload_n hx hb dX10_viewOf_6 rfl (lv_at hl 0 rfl) ?_
  obtain ⟨x7, hg, h⟩ := ob h
  refine wz_gI C hW flX10_432 hg dX10_viewOf_7 ?_
  refine lv_imul hx hb dX10_viewOf_10 ?_
  refine lv_iconst (v := 1) hx hb dX10_viewOf_11 (by decide) ?_
  refine lv_iadd hx hb dX10_viewOf_12 ?_
  refine lv_iconst (v := 2) hx hb dX10_viewOf_13 (by decide) ?_
  refine lv_iload_n hx hb dX10_viewOf_14 rfl (lv_at hl 1 rfl) ?_
  refine lv_imul hx hb dX10_viewOf_15 ?_
  refine lv_iadd hx hb dX10_viewOf_16 ?_
  refine lv_iload_n hx hb dX10_viewOf_17 rfl (lv_at hl 2 rfl) ?_
  refine lv_iadd hx hb dX10_viewOf_18 ?_
  obtain ⟨x19, hg, h⟩ := ob h
  refine wz_ald C hW hg dX10_viewOf_19 ?_
  exact wz_iretE C hlk hr (Option.some.inj h) rfl hW dX10_viewOf_20
theorem dX10_views_0 : decode cX10_views 0 = .ok (.aload_n 0, 1) := by decide +kernel
theorem dX10_views_1 : decode cX10_views 1 = .ok (.getfield 32, 3) := by decide +kernel
theorem dX10_views_4 : decode cX10_views 4 = .ok (.bipush 17, 2) := by decide +kernel
theorem dX10_views_6 : decode cX10_views 6 = .ok (.aload_n 0, 1) := by decide +kernel
theorem dX10_views_7 : decode cX10_views 7 = .ok (.getfield 432, 3) := by decide +kernel
theorem dX10_views_10 : decode cX10_views 10 = .ok (.imul, 1) := by decide +kernel
theorem dX10_views_11 : decode cX10_views 11 = .ok (.iaload, 1) := by decide +kernel
theorem dX10_views_12 : decode cX10_views 12 = .ok (.ireturn, 1) := by decide +kernel
abbrev rmX10_views : Room := { frames := 0, cells := 0, slots := 0, locals := 0 }
def fX10_views (a0 : Nat) (z : AH) : Option (Int32) :=
  if isO 9 z a0 = true then
    (gN 9 8 z a0).bind fun b1 =>
    (gI 9 47 z a0).bind fun x7 =>
    (ixI 0 z b1 ((17 : Int32) * x7)).bind fun x11 =>
    some x11
  else none
set_option maxHeartbeats 4000000 in
set_option maxRecDepth 100000 in
theorem ctX10_views (l : Launch) (G : GW) (a0 : Nat) (z : AH) {r : Int32} (h : fX10_views a0 z = some r) : Met l yX10_views (wy yX10_views cX10_views 1 (some .int)) rmX10_views (Pz G [.ref (gB G + a0)] z) (Qi G r z) 0 0 (AA G) := by
  refine wz_ent (own := RX10) (by decide +kernel) rfl (fun p e s m below meth c ls C hlk hr hin hW hl => ?_) (Nat.le_of_ble_eq_true rfl)
  have hl : lv_has ls 1 [(0, .ref (gB G + a0))] := hl
  have hx := C.1
  have hb := C.2.1
  unfold fX10_views at h
  obtain ⟨-, h⟩ := ck h
  refine lv_aload_n hx hb dX10_views_0 rfl (lv_at hl 0 rfl) ?_
  obtain ⟨b1, hg, h⟩ := ob h
  refine wz_gN C hW flX10_32 hg dX10_views_1 ?_
  refine lv_bipush (v := 17) hx hb dX10_views_4 (by decide) ?_
  refine lv_aload_n hx hb dX10_views_6 rfl (lv_at hl 0 rfl) ?_
  obtain ⟨x7, hg, h⟩ := ob h
  refine wz_gI C hW flX10_432 hg dX10_views_7 ?_
  refine lv_imul hx hb dX10_views_10 ?_
  obtain ⟨x11, hg, h⟩ := ob h
  refine wz_ald C hW hg dX10_views_11 ?_
  exact wz_iretE C hlk hr (Option.some.inj h) rfl hW dX10_views_12
theorem dX10_hasSight_0 : decode cX10_hasSight 0 = .ok (.aload_n 0, 1) := by decide +kernel
theorem dX10_hasSight_1 : decode cX10_hasSight 1 = .ok (.iload_n 1, 1) := by decide +kernel
theorem dX10_hasSight_2 : decode cX10_hasSight 2 = .ok (.putfield 432, 3) := by decide +kernel
theorem dX10_hasSight_5 : decode cX10_hasSight 5 = .ok (.aload_n 0, 1) := by decide +kernel
theorem dX10_hasSight_6 : decode cX10_hasSight 6 = .ok (.iconst 2, 1) := by decide +kernel
theorem dX10_hasSight_7 : decode cX10_hasSight 7 = .ok (.iload_n 1, 1) := by decide +kernel
theorem dX10_hasSight_8 : decode cX10_hasSight 8 = .ok (.invokevirtual 260, 3) := by decide +kernel
theorem dX10_hasSight_11 : decode cX10_hasSight 11 = .ok (.ireturn, 1) := by decide +kernel
abbrev rmX10_hasSight : Room := { frames := 2, cells := 0, slots := 0, locals := 44 }
def fX10_hasSight (a0 : Nat) (l1 : Int32) (z : AH) : Option (Int32 × AH) :=
  if isO 9 z a0 = true then
    (pF 9 47 z a0 (.int l1)).bind fun z2 =>
    (fX10_is a0 (2 : Int32) l1 z2).bind fun x8 =>
    if x8 = 0 ∨ x8 = 1 then some (x8, z2) else none
  else none
set_option maxHeartbeats 4000000 in
set_option maxRecDepth 100000 in
theorem ctX10_hasSight (l : Launch) (G : GW) (a0 : Nat) (l1 : Int32) (z : AH) {r : Int32} {z' : AH} (h : fX10_hasSight a0 l1 z = some (r, z')) : Met l yX10_hasSight (wy yX10_hasSight cX10_hasSight 2 (some .boolean)) rmX10_hasSight (Pz G [.ref (gB G + a0), .int l1] z) (Qi G r z') 0 0 (AA G) := by
  refine wz_ent (own := RX10) (by decide +kernel) rfl (fun p e s m below meth c ls C hlk hr hin hW hl => ?_) (Nat.le_of_ble_eq_true rfl)
  have hl : lv_has ls 2 [(0, .ref (gB G + a0)), (1, .int l1)] := hl
  have hx := C.1
  have hb := C.2.1
  unfold fX10_hasSight at h
  obtain ⟨-, h⟩ := ck h
  refine lv_aload_n hx hb dX10_hasSight_0 rfl (lv_at hl 0 rfl) ?_
  refine lv_iload_n hx hb dX10_hasSight_1 rfl (lv_at hl 1 rfl) ?_
  obtain ⟨z2, hg, h⟩ := ob h
  refine wz_put (v := (.int l1)) C hW flX10_432 rfl rfl hg dX10_hasSight_2 (fun H locs hW => ?_)
  refine lv_aload_n hx hb dX10_hasSight_5 rfl (lv_at hl 0 rfl) ?_
  refine lv_iconst (v := 2) hx hb dX10_hasSight_6 (by decide) ?_
  refine lv_iload_n hx hb dX10_hasSight_7 rfl (lv_at hl 1 rfl) ?_
  obtain ⟨x8, hq, h⟩ := ob h
  refine wz_rI (c' := 0) (s' := 0) hW (wz_runV (rest := []) C hW lVX10_260 (ck hq).1 rfl (ctX10_is l G a0 (2 : Int32) l1 z2 hq) ⟨⟨rfl, rfl⟩, Nat.le_of_ble_eq_true rfl, Nat.le_of_ble_eq_true rfl⟩ rfl hl.1 rfl (Nat.le_of_ble_eq_true rfl) dX10_hasSight_8 ⟨Nat.le_of_ble_eq_true rfl, Nat.le_of_ble_eq_true rfl⟩) rfl rfl (fun H locs hW => ?_)
  obtain ⟨h01, h⟩ := ck h
  exact wz_zretE C hlk hr h01 (so2 h).1 (so2 h).2 hW dX10_hasSight_11
theorem dX10_view_0 : decode cX10_view 0 = .ok (.aload_n 0, 1) := by decide +kernel
theorem dX10_view_1 : decode cX10_view 1 = .ok (.iconst 0, 1) := by decide +kernel
theorem dX10_view_2 : decode cX10_view 2 = .ok (.putfield 81, 3) := by decide +kernel
theorem dX10_view_5 : decode cX10_view 5 = .ok (.aload_n 0, 1) := by decide +kernel
theorem dX10_view_6 : decode cX10_view 6 = .ok (.iload_n 1, 1) := by decide +kernel
theorem dX10_view_7 : decode cX10_view 7 = .ok (.invokevirtual 435, 3) := by decide +kernel
theorem dX10_view_10 : decode cX10_view 10 = .ok (.ifCond .ne 6, 3) := by decide +kernel
theorem dX10_view_13 : decode cX10_view 13 = .ok (.bipush (-2), 2) := by decide +kernel
theorem dX10_view_15 : decode cX10_view 15 = .ok (.ireturn, 1) := by decide +kernel
theorem dX10_view_16 : decode cX10_view 16 = .ok (.iload_n 2, 1) := by decide +kernel
theorem dX10_view_17 : decode cX10_view 17 = .ok (.iconst (-1), 1) := by decide +kernel
theorem dX10_view_18 : decode cX10_view 18 = .ok (.if_icmp .ne 17, 3) := by decide +kernel
theorem dX10_view_21 : decode cX10_view 21 = .ok (.iload_n 3, 1) := by decide +kernel
theorem dX10_view_22 : decode cX10_view 22 = .ok (.ifCond .ne 10, 3) := by decide +kernel
theorem dX10_view_25 : decode cX10_view 25 = .ok (.aload_n 0, 1) := by decide +kernel
theorem dX10_view_26 : decode cX10_view 26 = .ok (.invokevirtual 438, 3) := by decide +kernel
theorem dX10_view_29 : decode cX10_view 29 = .ok (.goto 5, 3) := by decide +kernel
theorem dX10_view_32 : decode cX10_view 32 = .ok (.bipush (-2), 2) := by decide +kernel
theorem dX10_view_34 : decode cX10_view 34 = .ok (.ireturn, 1) := by decide +kernel
theorem dX10_view_35 : decode cX10_view 35 = .ok (.iload_n 2, 1) := by decide +kernel
theorem dX10_view_36 : decode cX10_view 36 = .ok (.iconst 0, 1) := by decide +kernel
theorem dX10_view_37 : decode cX10_view 37 = .ok (.aload_n 0, 1) := by decide +kernel
theorem dX10_view_38 : decode cX10_view 38 = .ok (.invokevirtual 438, 3) := by decide +kernel
theorem dX10_view_41 : decode cX10_view 41 = .ok (.iconst 1, 1) := by decide +kernel
theorem dX10_view_42 : decode cX10_view 42 = .ok (.isub, 1) := by decide +kernel
theorem dX10_view_43 : decode cX10_view 43 = .ok (.invokestatic 93, 3) := by decide +kernel
theorem dX10_view_46 : decode cX10_view 46 = .ok (.ifCond .eq 21, 3) := by decide +kernel
theorem dX10_view_49 : decode cX10_view 49 = .ok (.iload_n 3, 1) := by decide +kernel
theorem dX10_view_50 : decode cX10_view 50 = .ok (.iconst 0, 1) := by decide +kernel
theorem dX10_view_51 : decode cX10_view 51 = .ok (.iconst 1, 1) := by decide +kernel
theorem dX10_view_52 : decode cX10_view 52 = .ok (.invokestatic 93, 3) := by decide +kernel
theorem dX10_view_55 : decode cX10_view 55 = .ok (.ifCond .eq 12, 3) := by decide +kernel
theorem dX10_view_58 : decode cX10_view 58 = .ok (.aload_n 0, 1) := by decide +kernel
theorem dX10_view_59 : decode cX10_view 59 = .ok (.iload_n 2, 1) := by decide +kernel
theorem dX10_view_60 : decode cX10_view 60 = .ok (.iload_n 3, 1) := by decide +kernel
theorem dX10_view_61 : decode cX10_view 61 = .ok (.invokevirtual 441, 3) := by decide +kernel
theorem dX10_view_64 : decode cX10_view 64 = .ok (.goto 5, 3) := by decide +kernel
theorem dX10_view_67 : decode cX10_view 67 = .ok (.bipush (-2), 2) := by decide +kernel
theorem dX10_view_69 : decode cX10_view 69 = .ok (.ireturn, 1) := by decide +kernel
theorem cdX10_hasSight : Cond.code yX10_hasSight cX10_hasSight 2 (some .boolean) ∈ tz := tc7 161 rfl rfl
theorem lVX10_435 : LV RX10 435 yX10_hasSight cX10_hasSight 2 (some .boolean) 1 := ⟨tw 1717 (by decide +kernel) rfl, tw 1719 (by decide +kernel) rfl, tw 98 (by decide +kernel) rfl, tw 128 (by decide +kernel) rfl, cdX10_hasSight, ⟨by decide +kernel, by decide +kernel, by decide +kernel⟩⟩
theorem cdX10_views : Cond.code yX10_views cX10_views 1 (some .int) ∈ tz := tc7 165 rfl rfl
theorem lVX10_438 : LV RX10 438 yX10_views cX10_views 1 (some .int) 0 := ⟨tw 1721 (by decide +kernel) rfl, tw 1723 (by decide +kernel) rfl, tw 99 (by decide +kernel) rfl, tw 128 (by decide +kernel) rfl, cdX10_views, ⟨by decide +kernel, by decide +kernel, by decide +kernel⟩⟩
theorem cdX10_viewOf : Cond.code yX10_viewOf cX10_viewOf 3 (some .int) ∈ tz := tc7 169 rfl rfl
theorem lVX10_441 : LV RX10 441 yX10_viewOf cX10_viewOf 3 (some .int) 2 := ⟨tw 1725 (by decide +kernel) rfl, tw 1727 (by decide +kernel) rfl, tw 100 (by decide +kernel) rfl, tw 128 (by decide +kernel) rfl, cdX10_viewOf, ⟨by decide +kernel, by decide +kernel, by decide +kernel⟩⟩
abbrev rmX10_view : Room := { frames := 3, cells := 0, slots := 0, locals := 65 }
def fX10_view (a0 : Nat) (l1 : Int32) (l2 : Int32) (l3 : Int32) (z : AH) : Option (Int32 × AH) :=
  if isO 9 z a0 = true then
    (pF 9 0 z a0 (.int (0 : Int32))).bind fun z2 =>
    b2 (fX10_hasSight a0 l1 z2) fun x7 z7 =>
    if x7 = (0 : Int32) then (
      some ((-2 : Int32), z7)
    ) else (
      if l2 = (-1 : Int32) then (
        if l3 = (0 : Int32) then (
          (fX10_views a0 z7).bind fun x26 =>
          some (x26, z7)
        ) else (
          some ((-2 : Int32), z7)
        )
      ) else (
        (fX10_views a0 z7).bind fun x38 =>
        if (fX10_in l2 (0 : Int32) (x38 - (1 : Int32))) = (0 : Int32) then (
          some ((-2 : Int32), z7)
        ) else (
          if (fX10_in l3 (0 : Int32) (1 : Int32)) = (0 : Int32) then (
            some ((-2 : Int32), z7)
          ) else (
            (fX10_viewOf a0 l2 l3 z7).bind fun x61 =>
            some (x61, z7)
          )
        )
      )
    )
  else none
set_option maxHeartbeats 4000000 in
set_option maxRecDepth 100000 in
theorem ctX10_view (l : Launch) (G : GW) (a0 : Nat) (l1 : Int32) (l2 : Int32) (l3 : Int32) (z : AH) {r : Int32} {z' : AH} (h : fX10_view a0 l1 l2 l3 z = some (r, z')) : Met l yX10_view (wy yX10_view cX10_view 4 (some .int)) rmX10_view (Pz G [.ref (gB G + a0), .int l1, .int l2, .int l3] z) (Qi G r z') 0 0 (AA G) := by
  refine wz_ent (own := RX10) (by decide +kernel) rfl (fun p e s m below meth c ls C hlk hr hin hW hl => ?_) (Nat.le_of_ble_eq_true rfl)
  have hl : lv_has ls 4 [(0, .ref (gB G + a0)), (1, .int l1), (2, .int l2), (3, .int l3)] := hl
  have hx := C.1
  have hb := C.2.1
  unfold fX10_view at h
  obtain ⟨-, h⟩ := ck h
  refine lv_aload_n hx hb dX10_view_0 rfl (lv_at hl 0 rfl) ?_
  refine lv_iconst (v := 0) hx hb dX10_view_1 (by decide) ?_
  obtain ⟨z2, hg, h⟩ := ob h
  refine wz_put (v := (.int (0 : Int32))) C hW flX10_81 rfl rfl hg dX10_view_2 (fun H locs hW => ?_)
  refine lv_aload_n hx hb dX10_view_5 rfl (lv_at hl 0 rfl) ?_
  refine lv_iload_n hx hb dX10_view_6 rfl (lv_at hl 1 rfl) ?_
  obtain ⟨x7, z7, hq, h⟩ := ob2 h
  refine wz_rI (c' := 0) (s' := 0) hW (wz_runV (rest := []) C hW lVX10_435 (ck hq).1 rfl (ctX10_hasSight l G a0 l1 z2 hq) ⟨⟨rfl, rfl⟩, Nat.le_of_ble_eq_true rfl, Nat.le_of_ble_eq_true rfl⟩ rfl hl.1 rfl (Nat.le_of_ble_eq_true rfl) dX10_view_7 ⟨Nat.le_of_ble_eq_true rfl, Nat.le_of_ble_eq_true rfl⟩) rfl rfl (fun H locs hW => ?_)
  refine lv_if_ne (tgt := 16) hx hb dX10_view_10 (by decide) (fun c10 => ?_) (fun c10 => ?_)
  · have h := ite_f c10 h
    refine lv_iload_n hx hb dX10_view_16 rfl (lv_at hl 2 rfl) ?_
    refine lv_iconst (v := -1) hx hb dX10_view_17 (by decide) ?_
    refine lv_icmp_ne (tgt := 35) hx hb dX10_view_18 (by decide) (fun c18 => ?_) (fun c18 => ?_)
    · have h := ite_f c18 h
      refine lv_iload_n hx hb dX10_view_35 rfl (lv_at hl 2 rfl) ?_
      refine lv_iconst (v := 0) hx hb dX10_view_36 (by decide) ?_
      refine lv_aload_n hx hb dX10_view_37 rfl (lv_at hl 0 rfl) ?_
      obtain ⟨x38, hq, h⟩ := ob h
      refine wz_rI (c' := 0) (s' := 0) hW (wz_runV (rest := [.int (0 : Int32), .int l2]) C hW lVX10_438 (ck hq).1 rfl (ctX10_views l G a0 z7 hq) ⟨⟨rfl, rfl⟩, Nat.le_of_ble_eq_true rfl, Nat.le_of_ble_eq_true rfl⟩ rfl hl.1 rfl (Nat.le_of_ble_eq_true rfl) dX10_view_38 ⟨Nat.le_of_ble_eq_true rfl, Nat.le_of_ble_eq_true rfl⟩) rfl rfl (fun H locs hW => ?_)
      refine lv_iconst (v := 1) hx hb dX10_view_41 (by decide) ?_
      refine lv_isub hx hb dX10_view_42 ?_
      refine wz_rI (c' := 0) (s' := 0) hW (wz_runS (rest := []) C hW lTX10_93 (ctX10_in l G l2 (0 : Int32) (x38 - (1 : Int32)) z7 rfl) ⟨⟨rfl, rfl⟩, Nat.le_of_ble_eq_true rfl, Nat.le_of_ble_eq_true rfl⟩ rfl hl.1 rfl (Nat.le_of_ble_eq_true rfl) dX10_view_43 ⟨Nat.le_of_ble_eq_true rfl, Nat.le_of_ble_eq_true rfl⟩) rfl rfl (fun H locs hW => ?_)
      refine lv_if_eq (tgt := 67) hx hb dX10_view_46 (by decide) (fun c46 => ?_) (fun c46 => ?_)
      · have h := ite_t c46 h
        refine lv_bipush (v := -2) hx hb dX10_view_67 (by decide) ?_
        exact wz_iretE C hlk hr (so2 h).1 (so2 h).2 hW dX10_view_69
      · have h := ite_f c46 h
        refine lv_iload_n hx hb dX10_view_49 rfl (lv_at hl 3 rfl) ?_
        refine lv_iconst (v := 0) hx hb dX10_view_50 (by decide) ?_
        refine lv_iconst (v := 1) hx hb dX10_view_51 (by decide) ?_
        refine wz_rI (c' := 0) (s' := 0) hW (wz_runS (rest := []) C hW lTX10_93 (ctX10_in l G l3 (0 : Int32) (1 : Int32) z7 rfl) ⟨⟨rfl, rfl⟩, Nat.le_of_ble_eq_true rfl, Nat.le_of_ble_eq_true rfl⟩ rfl hl.1 rfl (Nat.le_of_ble_eq_true rfl) dX10_view_52 ⟨Nat.le_of_ble_eq_true rfl, Nat.le_of_ble_eq_true rfl⟩) rfl rfl (fun H locs hW => ?_)
        refine lv_if_eq (tgt := 67) hx hb dX10_view_55 (by decide) (fun c55 => ?_) (fun c55 => ?_)
        · have h := ite_t c55 h
          refine lv_bipush (v := -2) hx hb dX10_view_67 (by decide) ?_
          exact wz_iretE C hlk hr (so2 h).1 (so2 h).2 hW dX10_view_69
        · have h := ite_f c55 h
          refine lv_aload_n hx hb dX10_view_58 rfl (lv_at hl 0 rfl) ?_
          refine lv_iload_n hx hb dX10_view_59 rfl (lv_at hl 2 rfl) ?_
          refine lv_iload_n hx hb dX10_view_60 rfl (lv_at hl 3 rfl) ?_
          obtain ⟨x61, hq, h⟩ := ob h
          refine wz_rI (c' := 0) (s' := 0) hW (wz_runV (rest := []) C hW lVX10_441 (ck hq).1 rfl (ctX10_viewOf l G a0 l2 l3 z7 hq) ⟨⟨rfl, rfl⟩, Nat.le_of_ble_eq_true rfl, Nat.le_of_ble_eq_true rfl⟩ rfl hl.1 rfl (Nat.le_of_ble_eq_true rfl) dX10_view_61 ⟨Nat.le_of_ble_eq_true rfl, Nat.le_of_ble_eq_true rfl⟩) rfl rfl (fun H locs hW => ?_)
          refine lv_goto (tgt := 69) hx hb dX10_view_64 (by decide) ?_
          exact wz_iretE C hlk hr (so2 h).1 (so2 h).2 hW dX10_view_69
    · have h := ite_t c18 h
      refine lv_iload_n hx hb dX10_view_21 rfl (lv_at hl 3 rfl) ?_
      refine lv_if_ne (tgt := 32) hx hb dX10_view_22 (by decide) (fun c22 => ?_) (fun c22 => ?_)
      · have h := ite_f c22 h
        refine lv_bipush (v := -2) hx hb dX10_view_32 (by decide) ?_
        exact wz_iretE C hlk hr (so2 h).1 (so2 h).2 hW dX10_view_34
      · have h := ite_t c22 h
        refine lv_aload_n hx hb dX10_view_25 rfl (lv_at hl 0 rfl) ?_
        obtain ⟨x26, hq, h⟩ := ob h
        refine wz_rI (c' := 0) (s' := 0) hW (wz_runV (rest := []) C hW lVX10_438 (ck hq).1 rfl (ctX10_views l G a0 z7 hq) ⟨⟨rfl, rfl⟩, Nat.le_of_ble_eq_true rfl, Nat.le_of_ble_eq_true rfl⟩ rfl hl.1 rfl (Nat.le_of_ble_eq_true rfl) dX10_view_26 ⟨Nat.le_of_ble_eq_true rfl, Nat.le_of_ble_eq_true rfl⟩) rfl rfl (fun H locs hW => ?_)
        refine lv_goto (tgt := 34) hx hb dX10_view_29 (by decide) ?_
        exact wz_iretE C hlk hr (so2 h).1 (so2 h).2 hW dX10_view_34
  · have h := ite_t c10 h
    refine lv_bipush (v := -2) hx hb dX10_view_13 (by decide) ?_
    exact wz_iretE C hlk hr (so2 h).1 (so2 h).2 hW dX10_view_15
theorem dX10_crosses_0 : decode cX10_crosses 0 = .ok (.iload_n 3, 1) := by decide +kernel
theorem dX10_crosses_1 : decode cX10_crosses 1 = .ok (.bipush 10, 2) := by decide +kernel
theorem dX10_crosses_3 : decode cX10_crosses 3 = .ok (.idiv, 1) := by decide +kernel
theorem dX10_crosses_4 : decode cX10_crosses 4 = .ok (.iconst 1, 1) := by decide +kernel
theorem dX10_crosses_5 : decode cX10_crosses 5 = .ok (.iadd, 1) := by decide +kernel
theorem dX10_crosses_6 : decode cX10_crosses 6 = .ok (.istore 5, 2) := by decide +kernel
theorem dX10_crosses_8 : decode cX10_crosses 8 = .ok (.iload_n 1, 1) := by decide +kernel
theorem dX10_crosses_9 : decode cX10_crosses 9 = .ok (.ifCond .ne 7, 3) := by decide +kernel
theorem dX10_crosses_12 : decode cX10_crosses 12 = .ok (.iload_n 2, 1) := by decide +kernel
theorem dX10_crosses_13 : decode cX10_crosses 13 = .ok (.goto 19, 3) := by decide +kernel
theorem dX10_crosses_16 : decode cX10_crosses 16 = .ok (.iload_n 1, 1) := by decide +kernel
theorem dX10_crosses_17 : decode cX10_crosses 17 = .ok (.iconst 1, 1) := by decide +kernel
theorem dX10_crosses_18 : decode cX10_crosses 18 = .ok (.if_icmp .ne 10, 3) := by decide +kernel
theorem dX10_crosses_21 : decode cX10_crosses 21 = .ok (.iload_n 2, 1) := by decide +kernel
theorem dX10_crosses_22 : decode cX10_crosses 22 = .ok (.iload 5, 2) := by decide +kernel
theorem dX10_crosses_24 : decode cX10_crosses 24 = .ok (.iadd, 1) := by decide +kernel
theorem dX10_crosses_25 : decode cX10_crosses 25 = .ok (.goto 7, 3) := by decide +kernel
theorem dX10_crosses_28 : decode cX10_crosses 28 = .ok (.iload_n 2, 1) := by decide +kernel
theorem dX10_crosses_29 : decode cX10_crosses 29 = .ok (.iload 5, 2) := by decide +kernel
theorem dX10_crosses_31 : decode cX10_crosses 31 = .ok (.isub, 1) := by decide +kernel
theorem dX10_crosses_32 : decode cX10_crosses 32 = .ok (.istore 6, 2) := by decide +kernel
theorem dX10_crosses_34 : decode cX10_crosses 34 = .ok (.iload 6, 2) := by decide +kernel
theorem dX10_crosses_36 : decode cX10_crosses 36 = .ok (.iload_n 3, 1) := by decide +kernel
theorem dX10_crosses_37 : decode cX10_crosses 37 = .ok (.bipush 10, 2) := by decide +kernel
theorem dX10_crosses_39 : decode cX10_crosses 39 = .ok (.irem, 1) := by decide +kernel
theorem dX10_crosses_40 : decode cX10_crosses 40 = .ok (.invokestatic 327, 3) := by decide +kernel
theorem dX10_crosses_43 : decode cX10_crosses 43 = .ok (.iload 4, 2) := by decide +kernel
theorem dX10_crosses_45 : decode cX10_crosses 45 = .ok (.if_icmp .gt 7, 3) := by decide +kernel
theorem dX10_crosses_48 : decode cX10_crosses 48 = .ok (.iconst 1, 1) := by decide +kernel
theorem dX10_crosses_49 : decode cX10_crosses 49 = .ok (.goto 4, 3) := by decide +kernel
theorem dX10_crosses_52 : decode cX10_crosses 52 = .ok (.iconst 0, 1) := by decide +kernel
theorem dX10_crosses_53 : decode cX10_crosses 53 = .ok (.ireturn, 1) := by decide +kernel
abbrev rmX10_crosses : Room := { frames := 1, cells := 0, slots := 0, locals := 21 }
def bX10_crosses_32 (l3 : Int32) (l4 : Int32) (s0 : Int32) (z : AH) : Option (Int32) :=
  if l4 < (fX10_apart s0 (irem l3 (10 : Int32))) then (
    some (0 : Int32)
  ) else (
    some (1 : Int32)
  )
set_option maxHeartbeats 4000000 in
set_option maxRecDepth 100000 in
theorem kbX10_crosses_32 {p : Program} {l : Launch} {e : Env} {s : State} {m : MethodId} {args : Array Value} {below : List Frame} {meth : Method} {c : Code} {G : GW} {r : Int32} (C : Cx p m c cX10_crosses 7 s args RX10 G) (hlk : meth.locks = false) (hr : meth.sig.returnType = (some .boolean)) {z : AH} (l3 : Int32) (l4 : Int32) (s0 : Int32) {H : Heap} {locs : List Loc} {ls : Array Slot} (h : bX10_crosses_32 l3 l4 s0 z = some r) (hW : Wb G z s H locs) (hl : lv_has ls 7 [(3, .int l3), (4, .int l4)]) : W p l e rmX10_crosses s m args below meth c H locs 0 0 (MQ below (Qi G r z) args s 0 0 (AA G)) (F0 m 32 ls [.int s0]) := by
  have hx := C.1
  have hb := C.2.1
  unfold bX10_crosses_32 at h
  refine lv_istore (lv' := [(6, .int s0), (3, .int l3), (4, .int l4)]) hx hb dX10_crosses_32 hl (by decide) rfl (fun ls hl => ?_)
  refine lv_iload hx hb dX10_crosses_34 (lv_at hl 0 rfl) ?_
  refine lv_iload_n hx hb dX10_crosses_36 rfl (lv_at hl 1 rfl) ?_
  refine lv_bipush (v := 10) hx hb dX10_crosses_37 (by decide) ?_
  refine wz_irem hx hb dX10_crosses_39 (by decide) ?_
  refine wz_rI (c' := 0) (s' := 0) hW (wz_runS (rest := []) C hW lTX10_327 (ctX10_apart l G s0 (irem l3 (10 : Int32)) z rfl) ⟨⟨rfl, rfl⟩, Nat.le_of_ble_eq_true rfl, Nat.le_of_ble_eq_true rfl⟩ rfl hl.1 rfl (Nat.le_of_ble_eq_true rfl) dX10_crosses_40 ⟨Nat.le_of_ble_eq_true rfl, Nat.le_of_ble_eq_true rfl⟩) rfl rfl (fun H locs hW => ?_)
  refine lv_iload hx hb dX10_crosses_43 (lv_at hl 2 rfl) ?_
  refine lv_icmp_gt (tgt := 52) hx hb dX10_crosses_45 (by decide) (fun c45 => ?_) (fun c45 => ?_)
  · have h := ite_t c45 h
    refine lv_iconst (v := 0) hx hb dX10_crosses_52 (by decide) ?_
    exact wz_zretE C hlk hr (Or.inl rfl) (Option.some.inj h) rfl hW dX10_crosses_53
  · have h := ite_f c45 h
    refine lv_iconst (v := 1) hx hb dX10_crosses_48 (by decide) ?_
    refine lv_goto (tgt := 53) hx hb dX10_crosses_49 (by decide) ?_
    exact wz_zretE C hlk hr (Or.inr rfl) (Option.some.inj h) rfl hW dX10_crosses_53
def fX10_crosses (a0 : Nat) (l1 : Int32) (l2 : Int32) (l3 : Int32) (l4 : Int32) (z : AH) : Option (Int32) :=
  if isO 9 z a0 = true then
    nm ((l3 / (10 : Int32)) + (1 : Int32)) fun v6 =>
    if l1 = (0 : Int32) then (
      bX10_crosses_32 l3 l4 l2 z
    ) else (
      if l1 = (1 : Int32) then (
        bX10_crosses_32 l3 l4 (l2 + v6) z
      ) else (
        bX10_crosses_32 l3 l4 (l2 - v6) z
      )
    )
  else none
set_option maxHeartbeats 4000000 in
set_option maxRecDepth 100000 in
theorem ctX10_crosses (l : Launch) (G : GW) (a0 : Nat) (l1 : Int32) (l2 : Int32) (l3 : Int32) (l4 : Int32) (z : AH) {r : Int32} (h : fX10_crosses a0 l1 l2 l3 l4 z = some r) : Met l yX10_crosses (wy yX10_crosses cX10_crosses 7 (some .boolean)) rmX10_crosses (Pz G [.ref (gB G + a0), .int l1, .int l2, .int l3, .int l4] z) (Qi G r z) 0 0 (AA G) := by
  refine wz_ent (own := RX10) (by decide +kernel) rfl (fun p e s m below meth c ls C hlk hr hin hW hl => ?_) (Nat.le_of_ble_eq_true rfl)
  have hl : lv_has ls 7 [(0, .ref (gB G + a0)), (1, .int l1), (2, .int l2), (3, .int l3), (4, .int l4)] := hl
  have hx := C.1
  have hb := C.2.1
  unfold fX10_crosses at h
  obtain ⟨-, h⟩ := ck h
  refine lv_iload_n hx hb dX10_crosses_0 rfl (lv_at hl 3 rfl) ?_
  refine lv_bipush (v := 10) hx hb dX10_crosses_1 (by decide) ?_
  refine lv_idiv hx hb dX10_crosses_3 (by decide) ?_
  refine lv_iconst (v := 1) hx hb dX10_crosses_4 (by decide) ?_
  refine lv_iadd hx hb dX10_crosses_5 ?_
  refine lv_topi (fun v6 ev6 => ?_)
  have h := nm_to h ev6
  refine lv_istore (lv' := [(5, .int v6), (0, .ref (gB G + a0)), (1, .int l1), (2, .int l2), (3, .int l3), (4, .int l4)]) hx hb dX10_crosses_6 hl (by decide) rfl (fun ls hl => ?_)
  refine lv_iload_n hx hb dX10_crosses_8 rfl (lv_at hl 2 rfl) ?_
  refine lv_if_ne (tgt := 16) hx hb dX10_crosses_9 (by decide) (fun c9 => ?_) (fun c9 => ?_)
  · have h := ite_f c9 h
    refine lv_iload_n hx hb dX10_crosses_16 rfl (lv_at hl 2 rfl) ?_
    refine lv_iconst (v := 1) hx hb dX10_crosses_17 (by decide) ?_
    refine lv_icmp_ne (tgt := 28) hx hb dX10_crosses_18 (by decide) (fun c18 => ?_) (fun c18 => ?_)
    · have h := ite_f c18 h
      refine lv_iload_n hx hb dX10_crosses_28 rfl (lv_at hl 3 rfl) ?_
      refine lv_iload hx hb dX10_crosses_29 (lv_at hl 0 rfl) ?_
      refine lv_isub hx hb dX10_crosses_31 ?_
      exact kbX10_crosses_32 C hlk hr l3 l4 (l2 - v6) h hW (lv_sub hl [4, 5] rfl)
    · have h := ite_t c18 h
      refine lv_iload_n hx hb dX10_crosses_21 rfl (lv_at hl 3 rfl) ?_
      refine lv_iload hx hb dX10_crosses_22 (lv_at hl 0 rfl) ?_
      refine lv_iadd hx hb dX10_crosses_24 ?_
      refine lv_goto (tgt := 32) hx hb dX10_crosses_25 (by decide) ?_
      exact kbX10_crosses_32 C hlk hr l3 l4 (l2 + v6) h hW (lv_sub hl [4, 5] rfl)
  · have h := ite_t c9 h
    refine lv_iload_n hx hb dX10_crosses_12 rfl (lv_at hl 3 rfl) ?_
    refine lv_goto (tgt := 32) hx hb dX10_crosses_13 (by decide) ?_
    exact kbX10_crosses_32 C hlk hr l3 l4 l2 h hW (lv_sub hl [4, 5] rfl)
theorem dX10_findCells_0 : decode cX10_findCells 0 = .ok (.aload_n 0, 1) := by decide +kernel
theorem dX10_findCells_1 : decode cX10_findCells 1 = .ok (.iconst 0, 1) := by decide +kernel
theorem dX10_findCells_2 : decode cX10_findCells 2 = .ok (.putfield 444, 3) := by decide +kernel
theorem dX10_findCells_5 : decode cX10_findCells 5 = .ok (.iconst 0, 1) := by decide +kernel
theorem dX10_findCells_6 : decode cX10_findCells 6 = .ok (.istore_n 3, 1) := by decide +kernel
theorem dX10_findCells_7 : decode cX10_findCells 7 = .ok (.iload_n 3, 1) := by decide +kernel
theorem dX10_findCells_8 : decode cX10_findCells 8 = .ok (.bipush 100, 2) := by decide +kernel
theorem dX10_findCells_10 : decode cX10_findCells 10 = .ok (.if_icmp .ge 117, 3) := by decide +kernel
theorem dX10_findCells_13 : decode cX10_findCells 13 = .ok (.iconst 1, 1) := by decide +kernel
theorem dX10_findCells_14 : decode cX10_findCells 14 = .ok (.istore 4, 2) := by decide +kernel
theorem dX10_findCells_16 : decode cX10_findCells 16 = .ok (.iconst 0, 1) := by decide +kernel
theorem dX10_findCells_17 : decode cX10_findCells 17 = .ok (.istore 5, 2) := by decide +kernel
theorem dX10_findCells_19 : decode cX10_findCells 19 = .ok (.iload 5, 2) := by decide +kernel
theorem dX10_findCells_21 : decode cX10_findCells 21 = .ok (.aload_n 0, 1) := by decide +kernel
theorem dX10_findCells_22 : decode cX10_findCells 22 = .ok (.invokevirtual 438, 3) := by decide +kernel
theorem dX10_findCells_25 : decode cX10_findCells 25 = .ok (.if_icmp .ge 50, 3) := by decide +kernel
theorem dX10_findCells_28 : decode cX10_findCells 28 = .ok (.iload 4, 2) := by decide +kernel
theorem dX10_findCells_30 : decode cX10_findCells 30 = .ok (.ifCond .eq 45, 3) := by decide +kernel
theorem dX10_findCells_33 : decode cX10_findCells 33 = .ok (.iload 5, 2) := by decide +kernel
theorem dX10_findCells_35 : decode cX10_findCells 35 = .ok (.iload_n 2, 1) := by decide +kernel
theorem dX10_findCells_36 : decode cX10_findCells 36 = .ok (.if_icmp .eq 26, 3) := by decide +kernel
theorem dX10_findCells_39 : decode cX10_findCells 39 = .ok (.aload_n 0, 1) := by decide +kernel
theorem dX10_findCells_40 : decode cX10_findCells 40 = .ok (.aload_n 0, 1) := by decide +kernel
theorem dX10_findCells_41 : decode cX10_findCells 41 = .ok (.iload 5, 2) := by decide +kernel
theorem dX10_findCells_43 : decode cX10_findCells 43 = .ok (.iconst 0, 1) := by decide +kernel
theorem dX10_findCells_44 : decode cX10_findCells 44 = .ok (.invokevirtual 441, 3) := by decide +kernel
theorem dX10_findCells_47 : decode cX10_findCells 47 = .ok (.aload_n 0, 1) := by decide +kernel
theorem dX10_findCells_48 : decode cX10_findCells 48 = .ok (.iload 5, 2) := by decide +kernel
theorem dX10_findCells_50 : decode cX10_findCells 50 = .ok (.iconst 1, 1) := by decide +kernel
theorem dX10_findCells_51 : decode cX10_findCells 51 = .ok (.invokevirtual 441, 3) := by decide +kernel
theorem dX10_findCells_54 : decode cX10_findCells 54 = .ok (.iload_n 3, 1) := by decide +kernel
theorem dX10_findCells_55 : decode cX10_findCells 55 = .ok (.iload_n 1, 1) := by decide +kernel
theorem dX10_findCells_56 : decode cX10_findCells 56 = .ok (.invokevirtual 447, 3) := by decide +kernel
theorem dX10_findCells_59 : decode cX10_findCells 59 = .ok (.ifCond .eq 7, 3) := by decide +kernel
theorem dX10_findCells_62 : decode cX10_findCells 62 = .ok (.iconst 1, 1) := by decide +kernel
theorem dX10_findCells_63 : decode cX10_findCells 63 = .ok (.goto 4, 3) := by decide +kernel
theorem dX10_findCells_66 : decode cX10_findCells 66 = .ok (.iconst 0, 1) := by decide +kernel
theorem dX10_findCells_67 : decode cX10_findCells 67 = .ok (.istore 4, 2) := by decide +kernel
theorem dX10_findCells_69 : decode cX10_findCells 69 = .ok (.iinc 5 1, 3) := by decide +kernel
