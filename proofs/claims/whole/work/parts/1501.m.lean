theorem dX10_put_0 : decode cX10_put 0 = .ok (.aload_n 0, 1) := by decide +kernel
theorem dX10_put_1 : decode cX10_put 1 = .ok (.getfield 141, 3) := by decide +kernel
theorem dX10_put_4 : decode cX10_put 4 = .ok (.ifCond .eq 10, 3) := by decide +kernel
theorem dX10_put_7 : decode cX10_put 7 = .ok (.aload_n 0, 1) := by decide +kernel
theorem dX10_put_8 : decode cX10_put 8 = .ok (.getfield 38, 3) := by decide +kernel
theorem dX10_put_11 : decode cX10_put 11 = .ok (.iload_n 1, 1) := by decide +kernel
theorem dX10_put_12 : decode cX10_put 12 = .ok (.iload_n 2, 1) := by decide +kernel
theorem dX10_put_13 : decode cX10_put 13 = .ok (.iastore, 1) := by decide +kernel
theorem dX10_put_14 : decode cX10_put 14 = .ok (.iconst 1, 1) := by decide +kernel
theorem dX10_put_15 : decode cX10_put 15 = .ok (.ireturn, 1) := by decide +kernel
abbrev rmX10_put : Room := { frames := 0, cells := 0, slots := 0, locals := 0 }
def fX10_put (a0 : Nat) (l1 : Int32) (l2 : Int32) (z : AH) : Option (Int32 × AH) :=
  if isO 9 z a0 = true then
    (gI 9 24 z a0).bind fun x1 =>
    if x1 = (0 : Int32) then (
      some ((1 : Int32), z)
    ) else (
      (gN 9 19 z a0).bind fun b8 =>
      (stI 0 z b8 l1 l2).bind fun z13 =>
      some ((1 : Int32), z13)
    )
  else none
set_option maxHeartbeats 4000000 in
set_option maxRecDepth 100000 in
theorem ctX10_put (l : Launch) (G : GW) (a0 : Nat) (l1 : Int32) (l2 : Int32) (z : AH) {r : Int32} {z' : AH} (h : fX10_put a0 l1 l2 z = some (r, z')) : Met l yX10_put (wy yX10_put cX10_put 3 (some .boolean)) rmX10_put (Pz G [.ref (gB G + a0), .int l1, .int l2] z) (Qi G r z') 0 0 (AA G) := by
  refine wz_ent (own := RX10) (by decide +kernel) rfl (fun p e s m below meth c ls C hlk hr hin hW hl => ?_) (Nat.le_of_ble_eq_true rfl)
  have hl : lv_has ls 3 [(0, .ref (gB G + a0)), (1, .int l1), (2, .int l2)] := hl
  have hx := C.1
  have hb := C.2.1
  unfold fX10_put at h
  obtain ⟨-, h⟩ := ck h
  refine lv_aload_n hx hb dX10_put_0 rfl (lv_at hl 0 rfl) ?_
  obtain ⟨x1, hg, h⟩ := ob h
  refine wz_gI C hW flX10_141 hg dX10_put_1 ?_
  refine lv_if_eq (tgt := 14) hx hb dX10_put_4 (by decide) (fun c4 => ?_) (fun c4 => ?_)
  · have h := ite_t c4 h
    refine lv_iconst (v := 1) hx hb dX10_put_14 (by decide) ?_
    exact wz_zretE C hlk hr (Or.inr rfl) (so2 h).1 (so2 h).2 hW dX10_put_15
  · have h := ite_f c4 h
    refine lv_aload_n hx hb dX10_put_7 rfl (lv_at hl 0 rfl) ?_
    obtain ⟨b8, hg, h⟩ := ob h
    refine wz_gN C hW flX10_38 hg dX10_put_8 ?_
    refine lv_iload_n hx hb dX10_put_11 rfl (lv_at hl 1 rfl) ?_
    refine lv_iload_n hx hb dX10_put_12 rfl (lv_at hl 2 rfl) ?_
    obtain ⟨z13, hg, h⟩ := ob h
    refine wz_ast C hW hg dX10_put_13 (fun H locs hW => ?_)
    refine lv_iconst (v := 1) hx hb dX10_put_14 (by decide) ?_
    exact wz_zretE C hlk hr (Or.inr rfl) (so2 h).1 (so2 h).2 hW dX10_put_15
theorem dX10_countryLine_0 : decode cX10_countryLine 0 = .ok (.lload_n 1, 1) := by decide +kernel
theorem dX10_countryLine_1 : decode cX10_countryLine 1 = .ok (.ldc2_w 168, 3) := by decide +kernel
theorem dX10_countryLine_4 : decode cX10_countryLine 4 = .ok (.lcmp, 1) := by decide +kernel
theorem dX10_countryLine_5 : decode cX10_countryLine 5 = .ok (.ifCond .eq 35, 3) := by decide +kernel
theorem dX10_countryLine_8 : decode cX10_countryLine 8 = .ok (.lload_n 1, 1) := by decide +kernel
theorem dX10_countryLine_9 : decode cX10_countryLine 9 = .ok (.ldc2_w 170, 3) := by decide +kernel
theorem dX10_countryLine_12 : decode cX10_countryLine 12 = .ok (.lcmp, 1) := by decide +kernel
theorem dX10_countryLine_13 : decode cX10_countryLine 13 = .ok (.ifCond .eq 27, 3) := by decide +kernel
theorem dX10_countryLine_16 : decode cX10_countryLine 16 = .ok (.lload_n 1, 1) := by decide +kernel
theorem dX10_countryLine_17 : decode cX10_countryLine 17 = .ok (.ldc2_w 172, 3) := by decide +kernel
theorem dX10_countryLine_20 : decode cX10_countryLine 20 = .ok (.lcmp, 1) := by decide +kernel
theorem dX10_countryLine_21 : decode cX10_countryLine 21 = .ok (.ifCond .eq 19, 3) := by decide +kernel
theorem dX10_countryLine_24 : decode cX10_countryLine 24 = .ok (.lload_n 1, 1) := by decide +kernel
theorem dX10_countryLine_25 : decode cX10_countryLine 25 = .ok (.ldc2_w 174, 3) := by decide +kernel
theorem dX10_countryLine_28 : decode cX10_countryLine 28 = .ok (.lcmp, 1) := by decide +kernel
theorem dX10_countryLine_29 : decode cX10_countryLine 29 = .ok (.ifCond .eq 11, 3) := by decide +kernel
theorem dX10_countryLine_32 : decode cX10_countryLine 32 = .ok (.lload_n 1, 1) := by decide +kernel
theorem dX10_countryLine_33 : decode cX10_countryLine 33 = .ok (.ldc2_w 176, 3) := by decide +kernel
theorem dX10_countryLine_36 : decode cX10_countryLine 36 = .ok (.lcmp, 1) := by decide +kernel
theorem dX10_countryLine_37 : decode cX10_countryLine 37 = .ok (.ifCond .ne 305, 3) := by decide +kernel
theorem dX10_countryLine_40 : decode cX10_countryLine 40 = .ok (.lload_n 1, 1) := by decide +kernel
theorem dX10_countryLine_41 : decode cX10_countryLine 41 = .ok (.ldc2_w 168, 3) := by decide +kernel
theorem dX10_countryLine_44 : decode cX10_countryLine 44 = .ok (.lcmp, 1) := by decide +kernel
theorem dX10_countryLine_45 : decode cX10_countryLine 45 = .ok (.ifCond .ne 7, 3) := by decide +kernel
theorem dX10_countryLine_48 : decode cX10_countryLine 48 = .ok (.iconst 0, 1) := by decide +kernel
theorem dX10_countryLine_49 : decode cX10_countryLine 49 = .ok (.goto 40, 3) := by decide +kernel
theorem dX10_countryLine_52 : decode cX10_countryLine 52 = .ok (.lload_n 1, 1) := by decide +kernel
theorem dX10_countryLine_53 : decode cX10_countryLine 53 = .ok (.ldc2_w 170, 3) := by decide +kernel
theorem dX10_countryLine_56 : decode cX10_countryLine 56 = .ok (.lcmp, 1) := by decide +kernel
theorem dX10_countryLine_57 : decode cX10_countryLine 57 = .ok (.ifCond .ne 7, 3) := by decide +kernel
theorem dX10_countryLine_60 : decode cX10_countryLine 60 = .ok (.iconst 1, 1) := by decide +kernel
theorem dX10_countryLine_61 : decode cX10_countryLine 61 = .ok (.goto 28, 3) := by decide +kernel
theorem dX10_countryLine_64 : decode cX10_countryLine 64 = .ok (.lload_n 1, 1) := by decide +kernel
theorem dX10_countryLine_65 : decode cX10_countryLine 65 = .ok (.ldc2_w 172, 3) := by decide +kernel
theorem dX10_countryLine_68 : decode cX10_countryLine 68 = .ok (.lcmp, 1) := by decide +kernel
theorem dX10_countryLine_69 : decode cX10_countryLine 69 = .ok (.ifCond .ne 7, 3) := by decide +kernel
theorem dX10_countryLine_72 : decode cX10_countryLine 72 = .ok (.iconst 2, 1) := by decide +kernel
theorem dX10_countryLine_73 : decode cX10_countryLine 73 = .ok (.goto 16, 3) := by decide +kernel
theorem dX10_countryLine_76 : decode cX10_countryLine 76 = .ok (.lload_n 1, 1) := by decide +kernel
theorem dX10_countryLine_77 : decode cX10_countryLine 77 = .ok (.ldc2_w 174, 3) := by decide +kernel
theorem dX10_countryLine_80 : decode cX10_countryLine 80 = .ok (.lcmp, 1) := by decide +kernel
theorem dX10_countryLine_81 : decode cX10_countryLine 81 = .ok (.ifCond .ne 7, 3) := by decide +kernel
theorem dX10_countryLine_84 : decode cX10_countryLine 84 = .ok (.iconst 3, 1) := by decide +kernel
theorem dX10_countryLine_85 : decode cX10_countryLine 85 = .ok (.goto 4, 3) := by decide +kernel
theorem dX10_countryLine_88 : decode cX10_countryLine 88 = .ok (.iconst 4, 1) := by decide +kernel
theorem dX10_countryLine_89 : decode cX10_countryLine 89 = .ok (.istore 4, 2) := by decide +kernel
theorem dX10_countryLine_91 : decode cX10_countryLine 91 = .ok (.aload_n 0, 1) := by decide +kernel
theorem dX10_countryLine_92 : decode cX10_countryLine 92 = .ok (.iload 4, 2) := by decide +kernel
theorem dX10_countryLine_94 : decode cX10_countryLine 94 = .ok (.iload 4, 2) := by decide +kernel
theorem dX10_countryLine_96 : decode cX10_countryLine 96 = .ok (.ifCond .ne 8, 3) := by decide +kernel
theorem dX10_countryLine_99 : decode cX10_countryLine 99 = .ok (.bipush 8, 2) := by decide +kernel
theorem dX10_countryLine_101 : decode cX10_countryLine 101 = .ok (.goto 15, 3) := by decide +kernel
theorem dX10_countryLine_104 : decode cX10_countryLine 104 = .ok (.iload 4, 2) := by decide +kernel
theorem dX10_countryLine_106 : decode cX10_countryLine 106 = .ok (.iconst 1, 1) := by decide +kernel
theorem dX10_countryLine_107 : decode cX10_countryLine 107 = .ok (.if_icmp .ne 8, 3) := by decide +kernel
theorem dX10_countryLine_110 : decode cX10_countryLine 110 = .ok (.bipush 12, 2) := by decide +kernel
theorem dX10_countryLine_112 : decode cX10_countryLine 112 = .ok (.goto 4, 3) := by decide +kernel
theorem dX10_countryLine_115 : decode cX10_countryLine 115 = .ok (.iconst 4, 1) := by decide +kernel
theorem dX10_countryLine_116 : decode cX10_countryLine 116 = .ok (.iload_n 3, 1) := by decide +kernel
theorem dX10_countryLine_117 : decode cX10_countryLine 117 = .ok (.invokevirtual 178, 3) := by decide +kernel
theorem dX10_countryLine_120 : decode cX10_countryLine 120 = .ok (.aload_n 0, 1) := by decide +kernel
theorem dX10_countryLine_121 : decode cX10_countryLine 121 = .ok (.invokevirtual 145, 3) := by decide +kernel
theorem dX10_countryLine_124 : decode cX10_countryLine 124 = .ok (.iload 4, 2) := by decide +kernel
theorem dX10_countryLine_126 : decode cX10_countryLine 126 = .ok (.tableswitch 182 0 3 #[30, 82, 124, 153], 30) := by decide +kernel
theorem dX10_countryLine_156 : decode cX10_countryLine 156 = .ok (.aload_n 0, 1) := by decide +kernel
theorem dX10_countryLine_157 : decode cX10_countryLine 157 = .ok (.iconst 0, 1) := by decide +kernel
theorem dX10_countryLine_158 : decode cX10_countryLine 158 = .ok (.iconst 0, 1) := by decide +kernel
theorem dX10_countryLine_159 : decode cX10_countryLine 159 = .ok (.bipush 99, 2) := by decide +kernel
theorem dX10_countryLine_161 : decode cX10_countryLine 161 = .ok (.invokevirtual 159, 3) := by decide +kernel
theorem dX10_countryLine_164 : decode cX10_countryLine 164 = .ok (.ifCond .eq 42, 3) := by decide +kernel
theorem dX10_countryLine_167 : decode cX10_countryLine 167 = .ok (.aload_n 0, 1) := by decide +kernel
theorem dX10_countryLine_168 : decode cX10_countryLine 168 = .ok (.iconst 1, 1) := by decide +kernel
theorem dX10_countryLine_169 : decode cX10_countryLine 169 = .ok (.iconst 0, 1) := by decide +kernel
theorem dX10_countryLine_170 : decode cX10_countryLine 170 = .ok (.bipush 9, 2) := by decide +kernel
theorem dX10_countryLine_172 : decode cX10_countryLine 172 = .ok (.invokevirtual 159, 3) := by decide +kernel
theorem dX10_countryLine_175 : decode cX10_countryLine 175 = .ok (.ifCond .eq 31, 3) := by decide +kernel
theorem dX10_countryLine_178 : decode cX10_countryLine 178 = .ok (.aload_n 0, 1) := by decide +kernel
theorem dX10_countryLine_179 : decode cX10_countryLine 179 = .ok (.iconst 2, 1) := by decide +kernel
theorem dX10_countryLine_180 : decode cX10_countryLine 180 = .ok (.iconst 0, 1) := by decide +kernel
theorem dX10_countryLine_181 : decode cX10_countryLine 181 = .ok (.bipush 9, 2) := by decide +kernel
theorem dX10_countryLine_183 : decode cX10_countryLine 183 = .ok (.invokevirtual 159, 3) := by decide +kernel
theorem dX10_countryLine_186 : decode cX10_countryLine 186 = .ok (.ifCond .eq 20, 3) := by decide +kernel
theorem dX10_countryLine_189 : decode cX10_countryLine 189 = .ok (.aload_n 0, 1) := by decide +kernel
theorem dX10_countryLine_190 : decode cX10_countryLine 190 = .ok (.iconst 0, 1) := by decide +kernel
theorem dX10_countryLine_191 : decode cX10_countryLine 191 = .ok (.bipush 6, 2) := by decide +kernel
theorem dX10_countryLine_193 : decode cX10_countryLine 193 = .ok (.iconst 3, 1) := by decide +kernel
theorem dX10_countryLine_194 : decode cX10_countryLine 194 = .ok (.bipush 8, 2) := by decide +kernel
theorem dX10_countryLine_196 : decode cX10_countryLine 196 = .ok (.invokevirtual 182, 3) := by decide +kernel
theorem dX10_countryLine_199 : decode cX10_countryLine 199 = .ok (.ifCond .eq 7, 3) := by decide +kernel
theorem dX10_countryLine_202 : decode cX10_countryLine 202 = .ok (.iconst 1, 1) := by decide +kernel
theorem dX10_countryLine_203 : decode cX10_countryLine 203 = .ok (.goto 4, 3) := by decide +kernel
theorem dX10_countryLine_206 : decode cX10_countryLine 206 = .ok (.iconst 0, 1) := by decide +kernel
theorem dX10_countryLine_207 : decode cX10_countryLine 207 = .ok (.ireturn, 1) := by decide +kernel
theorem dX10_countryLine_208 : decode cX10_countryLine 208 = .ok (.aload_n 0, 1) := by decide +kernel
theorem dX10_countryLine_209 : decode cX10_countryLine 209 = .ok (.iconst 0, 1) := by decide +kernel
