theorem dX10_country_239 : decode cX10_country 239 = .ok (.invokestatic 93, 3) := by decide +kernel
theorem dX10_country_242 : decode cX10_country 242 = .ok (.ifCond .eq 11, 3) := by decide +kernel
theorem dX10_country_245 : decode cX10_country 245 = .ok (.aload_n 0, 1) := by decide +kernel
theorem dX10_country_246 : decode cX10_country 246 = .ok (.iload_n 2, 1) := by decide +kernel
theorem dX10_country_247 : decode cX10_country 247 = .ok (.invokevirtual 272, 3) := by decide +kernel
theorem dX10_country_250 : decode cX10_country 250 = .ok (.goto 5, 3) := by decide +kernel
theorem dX10_country_253 : decode cX10_country 253 = .ok (.bipush (-2), 2) := by decide +kernel
theorem dX10_country_255 : decode cX10_country 255 = .ok (.ireturn, 1) := by decide +kernel
theorem dX10_country_256 : decode cX10_country 256 = .ok (.iload_n 3, 1) := by decide +kernel
theorem dX10_country_257 : decode cX10_country 257 = .ok (.aload_n 0, 1) := by decide +kernel
theorem dX10_country_258 : decode cX10_country 258 = .ok (.getfield 276, 3) := by decide +kernel
theorem dX10_country_261 : decode cX10_country 261 = .ok (.if_icmp .ge 24, 3) := by decide +kernel
theorem dX10_country_264 : decode cX10_country 264 = .ok (.aload_n 0, 1) := by decide +kernel
theorem dX10_country_265 : decode cX10_country 265 = .ok (.bipush 6, 2) := by decide +kernel
theorem dX10_country_267 : decode cX10_country 267 = .ok (.bipush 8, 2) := by decide +kernel
theorem dX10_country_269 : decode cX10_country 269 = .ok (.iload_n 2, 1) := by decide +kernel
theorem dX10_country_270 : decode cX10_country 270 = .ok (.bipush 10, 2) := by decide +kernel
theorem dX10_country_272 : decode cX10_country 272 = .ok (.idiv, 1) := by decide +kernel
theorem dX10_country_273 : decode cX10_country 273 = .ok (.iconst 1, 1) := by decide +kernel
theorem dX10_country_274 : decode cX10_country 274 = .ok (.isub, 1) := by decide +kernel
theorem dX10_country_275 : decode cX10_country 275 = .ok (.imul, 1) := by decide +kernel
theorem dX10_country_276 : decode cX10_country 276 = .ok (.iadd, 1) := by decide +kernel
theorem dX10_country_277 : decode cX10_country 277 = .ok (.iload_n 3, 1) := by decide +kernel
theorem dX10_country_278 : decode cX10_country 278 = .ok (.iadd, 1) := by decide +kernel
theorem dX10_country_279 : decode cX10_country 279 = .ok (.invokevirtual 272, 3) := by decide +kernel
theorem dX10_country_282 : decode cX10_country 282 = .ok (.goto 5, 3) := by decide +kernel
theorem dX10_country_285 : decode cX10_country 285 = .ok (.bipush (-2), 2) := by decide +kernel
theorem dX10_country_287 : decode cX10_country 287 = .ok (.ireturn, 1) := by decide +kernel
theorem dX10_country_288 : decode cX10_country 288 = .ok (.iload_n 3, 1) := by decide +kernel
theorem dX10_country_289 : decode cX10_country 289 = .ok (.aload_n 0, 1) := by decide +kernel
theorem dX10_country_290 : decode cX10_country 290 = .ok (.iload_n 2, 1) := by decide +kernel
theorem dX10_country_291 : decode cX10_country 291 = .ok (.bipush 60, 2) := by decide +kernel
theorem dX10_country_293 : decode cX10_country 293 = .ok (.if_icmp .ge 7, 3) := by decide +kernel
theorem dX10_country_296 : decode cX10_country 296 = .ok (.iconst 2, 1) := by decide +kernel
theorem dX10_country_297 : decode cX10_country 297 = .ok (.goto 4, 3) := by decide +kernel
theorem dX10_country_300 : decode cX10_country 300 = .ok (.iconst 3, 1) := by decide +kernel
theorem dX10_country_301 : decode cX10_country 301 = .ok (.invokevirtual 272, 3) := by decide +kernel
theorem dX10_country_304 : decode cX10_country 304 = .ok (.if_icmp .ge 25, 3) := by decide +kernel
theorem dX10_country_307 : decode cX10_country 307 = .ok (.aload_n 0, 1) := by decide +kernel
theorem dX10_country_308 : decode cX10_country 308 = .ok (.iload_n 2, 1) := by decide +kernel
theorem dX10_country_309 : decode cX10_country 309 = .ok (.bipush 60, 2) := by decide +kernel
theorem dX10_country_311 : decode cX10_country 311 = .ok (.if_icmp .ge 8, 3) := by decide +kernel
theorem dX10_country_314 : decode cX10_country 314 = .ok (.bipush 38, 2) := by decide +kernel
theorem dX10_country_316 : decode cX10_country 316 = .ok (.goto 5, 3) := by decide +kernel
theorem dX10_country_319 : decode cX10_country 319 = .ok (.bipush 42, 2) := by decide +kernel
theorem dX10_country_321 : decode cX10_country 321 = .ok (.iload_n 3, 1) := by decide +kernel
theorem dX10_country_322 : decode cX10_country 322 = .ok (.iadd, 1) := by decide +kernel
theorem dX10_country_323 : decode cX10_country 323 = .ok (.invokevirtual 272, 3) := by decide +kernel
theorem dX10_country_326 : decode cX10_country 326 = .ok (.goto 5, 3) := by decide +kernel
theorem dX10_country_329 : decode cX10_country 329 = .ok (.bipush (-2), 2) := by decide +kernel
theorem dX10_country_331 : decode cX10_country 331 = .ok (.ireturn, 1) := by decide +kernel
theorem dX10_country_332 : decode cX10_country 332 = .ok (.iload_n 3, 1) := by decide +kernel
theorem dX10_country_333 : decode cX10_country 333 = .ok (.aload_n 0, 1) := by decide +kernel
theorem dX10_country_334 : decode cX10_country 334 = .ok (.getfield 279, 3) := by decide +kernel
theorem dX10_country_337 : decode cX10_country 337 = .ok (.if_icmp .ge 25, 3) := by decide +kernel
theorem dX10_country_340 : decode cX10_country 340 = .ok (.aload_n 0, 1) := by decide +kernel
theorem dX10_country_341 : decode cX10_country 341 = .ok (.iload_n 2, 1) := by decide +kernel
theorem dX10_country_342 : decode cX10_country 342 = .ok (.bipush 80, 2) := by decide +kernel
theorem dX10_country_344 : decode cX10_country 344 = .ok (.if_icmp .ge 8, 3) := by decide +kernel
theorem dX10_country_347 : decode cX10_country 347 = .ok (.bipush 46, 2) := by decide +kernel
theorem dX10_country_349 : decode cX10_country 349 = .ok (.goto 5, 3) := by decide +kernel
theorem dX10_country_352 : decode cX10_country 352 = .ok (.bipush 50, 2) := by decide +kernel
theorem dX10_country_354 : decode cX10_country 354 = .ok (.iload_n 3, 1) := by decide +kernel
theorem dX10_country_355 : decode cX10_country 355 = .ok (.iadd, 1) := by decide +kernel
theorem dX10_country_356 : decode cX10_country 356 = .ok (.invokevirtual 272, 3) := by decide +kernel
theorem dX10_country_359 : decode cX10_country 359 = .ok (.goto 5, 3) := by decide +kernel
theorem dX10_country_362 : decode cX10_country 362 = .ok (.bipush (-2), 2) := by decide +kernel
theorem dX10_country_364 : decode cX10_country 364 = .ok (.ireturn, 1) := by decide +kernel
theorem dX10_country_365 : decode cX10_country 365 = .ok (.bipush (-2), 2) := by decide +kernel
theorem dX10_country_367 : decode cX10_country 367 = .ok (.ireturn, 1) := by decide +kernel
theorem cdX10_hand : Cond.code yX10_hand cX10_hand 4 (some .boolean) ∈ tz := tc6 204 rfl rfl
theorem lVX10_330 : LV RX10 330 yX10_hand cX10_hand 4 (some .boolean) 1 := ⟨tw 1520 (by decide +kernel) rfl, tw 1522 (by decide +kernel) rfl, tw 62 (by decide +kernel) rfl, tw 128 (by decide +kernel) rfl, cdX10_hand, ⟨by decide +kernel, by decide +kernel, by decide +kernel⟩⟩
abbrev rmX10_country : Room := { frames := 4, cells := 0, slots := 0, locals := 89 }
def bX10_country_354 (l3 : Int32) (s0 : Nat) (s1 : Int32) (z : AH) : Option (Int32 × AH) :=
  (fX10_of s0 (s1 + l3) z).bind fun x356 =>
  some (x356, z)
set_option maxHeartbeats 4000000 in
set_option maxRecDepth 100000 in
theorem kbX10_country_354 {p : Program} {l : Launch} {e : Env} {s : State} {m : MethodId} {args : Array Value} {below : List Frame} {meth : Method} {c : Code} {G : GW} {r : Int32} {z' : AH} (C : Cx p m c cX10_country 7 s args RX10 G) (hlk : meth.locks = false) (hr : meth.sig.returnType = (some .int)) (l3 : Int32) (s0 : Nat) (s1 : Int32) {z : AH} {H : Heap} {locs : List Loc} {ls : Array Slot} (h : bX10_country_354 l3 s0 s1 z = some (r, z')) (hW : Wb G z s H locs) (hl : lv_has ls 7 [(3, .int l3)]) : W p l e rmX10_country s m args below meth c H locs 0 0 (MQ below (Qi G r z') args s 0 0 (AA G)) (F0 m 354 ls [.int s1, .ref (gB G + s0)]) := by
  have hx := C.1
  have hb := C.2.1
  unfold bX10_country_354 at h
  refine lv_iload_n hx hb dX10_country_354 rfl (lv_at hl 0 rfl) ?_
  refine lv_iadd hx hb dX10_country_355 ?_
  obtain ⟨x356, hq, h⟩ := ob h
  refine wz_rI (c' := 0) (s' := 0) hW (wz_runV (rest := []) C hW lVX10_272 (ck hq).1 rfl (ctX10_of l G s0 (s1 + l3) z hq) ⟨⟨rfl, rfl⟩, Nat.le_of_ble_eq_true rfl, Nat.le_of_ble_eq_true rfl⟩ rfl hl.1 rfl (Nat.le_of_ble_eq_true rfl) dX10_country_356 ⟨Nat.le_of_ble_eq_true rfl, Nat.le_of_ble_eq_true rfl⟩) rfl rfl (fun H locs hW => ?_)
  refine lv_goto (tgt := 364) hx hb dX10_country_359 (by decide) ?_
  exact wz_iretE C hlk hr (so2 h).1 (so2 h).2 hW dX10_country_364
def bX10_country_321 (l3 : Int32) (s0 : Nat) (s1 : Int32) (z : AH) : Option (Int32 × AH) :=
  (fX10_of s0 (s1 + l3) z).bind fun x323 =>
  some (x323, z)
set_option maxHeartbeats 4000000 in
set_option maxRecDepth 100000 in
theorem kbX10_country_321 {p : Program} {l : Launch} {e : Env} {s : State} {m : MethodId} {args : Array Value} {below : List Frame} {meth : Method} {c : Code} {G : GW} {r : Int32} {z' : AH} (C : Cx p m c cX10_country 7 s args RX10 G) (hlk : meth.locks = false) (hr : meth.sig.returnType = (some .int)) (l3 : Int32) (s0 : Nat) (s1 : Int32) {z : AH} {H : Heap} {locs : List Loc} {ls : Array Slot} (h : bX10_country_321 l3 s0 s1 z = some (r, z')) (hW : Wb G z s H locs) (hl : lv_has ls 7 [(3, .int l3)]) : W p l e rmX10_country s m args below meth c H locs 0 0 (MQ below (Qi G r z') args s 0 0 (AA G)) (F0 m 321 ls [.int s1, .ref (gB G + s0)]) := by
  have hx := C.1
  have hb := C.2.1
  unfold bX10_country_321 at h
  refine lv_iload_n hx hb dX10_country_321 rfl (lv_at hl 0 rfl) ?_
  refine lv_iadd hx hb dX10_country_322 ?_
  obtain ⟨x323, hq, h⟩ := ob h
  refine wz_rI (c' := 0) (s' := 0) hW (wz_runV (rest := []) C hW lVX10_272 (ck hq).1 rfl (ctX10_of l G s0 (s1 + l3) z hq) ⟨⟨rfl, rfl⟩, Nat.le_of_ble_eq_true rfl, Nat.le_of_ble_eq_true rfl⟩ rfl hl.1 rfl (Nat.le_of_ble_eq_true rfl) dX10_country_323 ⟨Nat.le_of_ble_eq_true rfl, Nat.le_of_ble_eq_true rfl⟩) rfl rfl (fun H locs hW => ?_)
  refine lv_goto (tgt := 331) hx hb dX10_country_326 (by decide) ?_
  exact wz_iretE C hlk hr (so2 h).1 (so2 h).2 hW dX10_country_331
def bX10_country_301 (a0 : Nat) (l2 : Int32) (l3 : Int32) (s0 : Int32) (s1 : Nat) (s2 : Int32) (z : AH) : Option (Int32 × AH) :=
  (fX10_of s1 s2 z).bind fun x301 =>
  if x301 ≤ s0 then (
    some ((-2 : Int32), z)
  ) else (
    if (60 : Int32) ≤ l2 then (
      bX10_country_321 l3 a0 (42 : Int32) z
    ) else (
      bX10_country_321 l3 a0 (38 : Int32) z
    )
  )
set_option maxHeartbeats 4000000 in
set_option maxRecDepth 100000 in
theorem kbX10_country_301 {p : Program} {l : Launch} {e : Env} {s : State} {m : MethodId} {args : Array Value} {below : List Frame} {meth : Method} {c : Code} {G : GW} {r : Int32} {z' : AH} (C : Cx p m c cX10_country 7 s args RX10 G) (hlk : meth.locks = false) (hr : meth.sig.returnType = (some .int)) (a0 : Nat) (l2 : Int32) (l3 : Int32) (s0 : Int32) (s1 : Nat) (s2 : Int32) {z : AH} {H : Heap} {locs : List Loc} {ls : Array Slot} (h : bX10_country_301 a0 l2 l3 s0 s1 s2 z = some (r, z')) (hW : Wb G z s H locs) (hl : lv_has ls 7 [(0, .ref (gB G + a0)), (2, .int l2), (3, .int l3)]) : W p l e rmX10_country s m args below meth c H locs 0 0 (MQ below (Qi G r z') args s 0 0 (AA G)) (F0 m 301 ls [.int s2, .ref (gB G + s1), .int s0]) := by
  have hx := C.1
  have hb := C.2.1
  unfold bX10_country_301 at h
  obtain ⟨x301, hq, h⟩ := ob h
  refine wz_rI (c' := 0) (s' := 0) hW (wz_runV (rest := [.int s0]) C hW lVX10_272 (ck hq).1 rfl (ctX10_of l G s1 s2 z hq) ⟨⟨rfl, rfl⟩, Nat.le_of_ble_eq_true rfl, Nat.le_of_ble_eq_true rfl⟩ rfl hl.1 rfl (Nat.le_of_ble_eq_true rfl) dX10_country_301 ⟨Nat.le_of_ble_eq_true rfl, Nat.le_of_ble_eq_true rfl⟩) rfl rfl (fun H locs hW => ?_)
  refine lv_icmp_ge (tgt := 329) hx hb dX10_country_304 (by decide) (fun c304 => ?_) (fun c304 => ?_)
  · have h := ite_t c304 h
    refine lv_bipush (v := -2) hx hb dX10_country_329 (by decide) ?_
    exact wz_iretE C hlk hr (so2 h).1 (so2 h).2 hW dX10_country_331
  · have h := ite_f c304 h
    refine lv_aload_n hx hb dX10_country_307 rfl (lv_at hl 0 rfl) ?_
    refine lv_iload_n hx hb dX10_country_308 rfl (lv_at hl 1 rfl) ?_
    refine lv_bipush (v := 60) hx hb dX10_country_309 (by decide) ?_
    refine lv_icmp_ge (tgt := 319) hx hb dX10_country_311 (by decide) (fun c311 => ?_) (fun c311 => ?_)
    · have h := ite_t c311 h
      refine lv_bipush (v := 42) hx hb dX10_country_319 (by decide) ?_
      exact kbX10_country_321 C hlk hr l3 a0 (42 : Int32) h hW (lv_sub hl [2] rfl)
    · have h := ite_f c311 h
      refine lv_bipush (v := 38) hx hb dX10_country_314 (by decide) ?_
      refine lv_goto (tgt := 321) hx hb dX10_country_316 (by decide) ?_
      exact kbX10_country_321 C hlk hr l3 a0 (38 : Int32) h hW (lv_sub hl [2] rfl)
def bX10_country_171 (l4 : Int32) (s0 : Nat) (s1 : Int32) (z : AH) : Option (Int32 × AH) :=
  (fX10_of s0 (s1 + l4) z).bind fun x174 =>
  some (x174, z)
set_option maxHeartbeats 4000000 in
set_option maxRecDepth 100000 in
theorem kbX10_country_171 {p : Program} {l : Launch} {e : Env} {s : State} {m : MethodId} {args : Array Value} {below : List Frame} {meth : Method} {c : Code} {G : GW} {r : Int32} {z' : AH} (C : Cx p m c cX10_country 7 s args RX10 G) (hlk : meth.locks = false) (hr : meth.sig.returnType = (some .int)) (l4 : Int32) (s0 : Nat) (s1 : Int32) {z : AH} {H : Heap} {locs : List Loc} {ls : Array Slot} (h : bX10_country_171 l4 s0 s1 z = some (r, z')) (hW : Wb G z s H locs) (hl : lv_has ls 7 [(4, .int l4)]) : W p l e rmX10_country s m args below meth c H locs 0 0 (MQ below (Qi G r z') args s 0 0 (AA G)) (F0 m 171 ls [.int s1, .ref (gB G + s0)]) := by
  have hx := C.1
  have hb := C.2.1
  unfold bX10_country_171 at h
  refine lv_iload hx hb dX10_country_171 (lv_at hl 0 rfl) ?_
  refine lv_iadd hx hb dX10_country_173 ?_
  obtain ⟨x174, hq, h⟩ := ob h
  refine wz_rI (c' := 0) (s' := 0) hW (wz_runV (rest := []) C hW lVX10_272 (ck hq).1 rfl (ctX10_of l G s0 (s1 + l4) z hq) ⟨⟨rfl, rfl⟩, Nat.le_of_ble_eq_true rfl, Nat.le_of_ble_eq_true rfl⟩ rfl hl.1 rfl (Nat.le_of_ble_eq_true rfl) dX10_country_174 ⟨Nat.le_of_ble_eq_true rfl, Nat.le_of_ble_eq_true rfl⟩) rfl rfl (fun H locs hW => ?_)
  refine lv_goto (tgt := 182) hx hb dX10_country_177 (by decide) ?_
  exact wz_iretE C hlk hr (so2 h).1 (so2 h).2 hW dX10_country_182
def bX10_country_151 (a0 : Nat) (l4 : Int32) (l5 : Int32) (s0 : Int32) (z : AH) : Option (Int32 × AH) :=
  if s0 = (0 : Int32) then (
    some ((-2 : Int32), z)
  ) else (
    if l5 = (0 : Int32) then (
      bX10_country_171 l4 a0 (94 : Int32) z
    ) else (
      bX10_country_171 l4 a0 (78 : Int32) z
    )
  )
set_option maxHeartbeats 4000000 in
set_option maxRecDepth 100000 in
theorem kbX10_country_151 {p : Program} {l : Launch} {e : Env} {s : State} {m : MethodId} {args : Array Value} {below : List Frame} {meth : Method} {c : Code} {G : GW} {r : Int32} {z' : AH} (C : Cx p m c cX10_country 7 s args RX10 G) (hlk : meth.locks = false) (hr : meth.sig.returnType = (some .int)) (a0 : Nat) (l4 : Int32) (l5 : Int32) (s0 : Int32) {z : AH} {H : Heap} {locs : List Loc} {ls : Array Slot} (h : bX10_country_151 a0 l4 l5 s0 z = some (r, z')) (hW : Wb G z s H locs) (hl : lv_has ls 7 [(0, .ref (gB G + a0)), (4, .int l4), (5, .int l5)]) : W p l e rmX10_country s m args below meth c H locs 0 0 (MQ below (Qi G r z') args s 0 0 (AA G)) (F0 m 151 ls [.int s0]) := by
  have hx := C.1
  have hb := C.2.1
  unfold bX10_country_151 at h
  refine lv_istore (lv' := [(6, .int s0), (0, .ref (gB G + a0)), (4, .int l4), (5, .int l5)]) hx hb dX10_country_151 hl (by decide) rfl (fun ls hl => ?_)
  refine lv_iload hx hb dX10_country_153 (lv_at hl 0 rfl) ?_
  refine lv_if_eq (tgt := 180) hx hb dX10_country_155 (by decide) (fun c155 => ?_) (fun c155 => ?_)
  · have h := ite_t c155 h
    refine lv_bipush (v := -2) hx hb dX10_country_180 (by decide) ?_
    exact wz_iretE C hlk hr (so2 h).1 (so2 h).2 hW dX10_country_182
  · have h := ite_f c155 h
    refine lv_aload_n hx hb dX10_country_158 rfl (lv_at hl 1 rfl) ?_
    refine lv_iload hx hb dX10_country_159 (lv_at hl 3 rfl) ?_
    refine lv_if_eq (tgt := 169) hx hb dX10_country_161 (by decide) (fun c161 => ?_) (fun c161 => ?_)
    · have h := ite_t c161 h
      refine lv_bipush (v := 94) hx hb dX10_country_169 (by decide) ?_
      exact kbX10_country_171 C hlk hr l4 a0 (94 : Int32) h hW (lv_sub hl [2] rfl)
    · have h := ite_f c161 h
      refine lv_bipush (v := 78) hx hb dX10_country_164 (by decide) ?_
      refine lv_goto (tgt := 171) hx hb dX10_country_166 (by decide) ?_
      exact kbX10_country_171 C hlk hr l4 a0 (78 : Int32) h hW (lv_sub hl [2] rfl)
def bX10_country_150 (a0 : Nat) (l4 : Int32) (l5 : Int32) (z : AH) : Option (Int32 × AH) :=
  bX10_country_151 a0 l4 l5 (0 : Int32) z
set_option maxHeartbeats 4000000 in
set_option maxRecDepth 100000 in
theorem kbX10_country_150 {p : Program} {l : Launch} {e : Env} {s : State} {m : MethodId} {args : Array Value} {below : List Frame} {meth : Method} {c : Code} {G : GW} {r : Int32} {z' : AH} (C : Cx p m c cX10_country 7 s args RX10 G) (hlk : meth.locks = false) (hr : meth.sig.returnType = (some .int)) (a0 : Nat) (l4 : Int32) (l5 : Int32) {z : AH} {H : Heap} {locs : List Loc} {ls : Array Slot} (h : bX10_country_150 a0 l4 l5 z = some (r, z')) (hW : Wb G z s H locs) (hl : lv_has ls 7 [(0, .ref (gB G + a0)), (4, .int l4), (5, .int l5)]) : W p l e rmX10_country s m args below meth c H locs 0 0 (MQ below (Qi G r z') args s 0 0 (AA G)) (F0 m 150 ls []) := by
  have hx := C.1
  have hb := C.2.1
  unfold bX10_country_150 at h
  refine lv_iconst (v := 0) hx hb dX10_country_150 (by decide) ?_
  exact kbX10_country_151 C hlk hr a0 l4 l5 (0 : Int32) h hW (lv_sub hl [0, 1, 2] rfl)
def bX10_country_140 (a0 : Nat) (l4 : Int32) (l5 : Int32) (s0 : Int32) (s1 : Nat) (s2 : Int32) (z : AH) : Option (Int32 × AH) :=
  (fX10_of s1 s2 z).bind fun x140 =>
  if x140 ≤ s0 then (
    bX10_country_150 a0 l4 l5 z
  ) else (
    bX10_country_151 a0 l4 l5 (1 : Int32) z
  )
set_option maxHeartbeats 4000000 in
set_option maxRecDepth 100000 in
theorem kbX10_country_140 {p : Program} {l : Launch} {e : Env} {s : State} {m : MethodId} {args : Array Value} {below : List Frame} {meth : Method} {c : Code} {G : GW} {r : Int32} {z' : AH} (C : Cx p m c cX10_country 7 s args RX10 G) (hlk : meth.locks = false) (hr : meth.sig.returnType = (some .int)) (a0 : Nat) (l4 : Int32) (l5 : Int32) (s0 : Int32) (s1 : Nat) (s2 : Int32) {z : AH} {H : Heap} {locs : List Loc} {ls : Array Slot} (h : bX10_country_140 a0 l4 l5 s0 s1 s2 z = some (r, z')) (hW : Wb G z s H locs) (hl : lv_has ls 7 [(0, .ref (gB G + a0)), (4, .int l4), (5, .int l5)]) : W p l e rmX10_country s m args below meth c H locs 0 0 (MQ below (Qi G r z') args s 0 0 (AA G)) (F0 m 140 ls [.int s2, .ref (gB G + s1), .int s0]) := by
  have hx := C.1
  have hb := C.2.1
  unfold bX10_country_140 at h
  obtain ⟨x140, hq, h⟩ := ob h
  refine wz_rI (c' := 0) (s' := 0) hW (wz_runV (rest := [.int s0]) C hW lVX10_272 (ck hq).1 rfl (ctX10_of l G s1 s2 z hq) ⟨⟨rfl, rfl⟩, Nat.le_of_ble_eq_true rfl, Nat.le_of_ble_eq_true rfl⟩ rfl hl.1 rfl (Nat.le_of_ble_eq_true rfl) dX10_country_140 ⟨Nat.le_of_ble_eq_true rfl, Nat.le_of_ble_eq_true rfl⟩) rfl rfl (fun H locs hW => ?_)
  refine lv_icmp_ge (tgt := 150) hx hb dX10_country_143 (by decide) (fun c143 => ?_) (fun c143 => ?_)
  · have h := ite_t c143 h
    exact kbX10_country_150 C hlk hr a0 l4 l5 h hW (lv_sub hl [0, 1, 2] rfl)
  · have h := ite_f c143 h
    refine lv_iconst (v := 1) hx hb dX10_country_146 (by decide) ?_
    refine lv_goto (tgt := 151) hx hb dX10_country_147 (by decide) ?_
    exact kbX10_country_151 C hlk hr a0 l4 l5 (1 : Int32) h hW (lv_sub hl [0, 1, 2] rfl)
def bX10_country_119 (a0 : Nat) (l4 : Int32) (l5 : Int32) (s0 : Int32) (s1 : Nat) (s2 : Int32) (z : AH) : Option (Int32 × AH) :=
  (fX10_of s1 s2 z).bind fun x119 =>
  if x119 ≤ s0 then (
    bX10_country_150 a0 l4 l5 z
  ) else (
    if l5 = (0 : Int32) then (
      bX10_country_140 a0 l4 l5 (irem l4 (4 : Int32)) a0 (2 : Int32) z
    ) else (
      bX10_country_140 a0 l4 l5 (irem l4 (4 : Int32)) a0 (3 : Int32) z
    )
  )
set_option maxHeartbeats 4000000 in
set_option maxRecDepth 100000 in
theorem kbX10_country_119 {p : Program} {l : Launch} {e : Env} {s : State} {m : MethodId} {args : Array Value} {below : List Frame} {meth : Method} {c : Code} {G : GW} {r : Int32} {z' : AH} (C : Cx p m c cX10_country 7 s args RX10 G) (hlk : meth.locks = false) (hr : meth.sig.returnType = (some .int)) (a0 : Nat) (l4 : Int32) (l5 : Int32) (s0 : Int32) (s1 : Nat) (s2 : Int32) {z : AH} {H : Heap} {locs : List Loc} {ls : Array Slot} (h : bX10_country_119 a0 l4 l5 s0 s1 s2 z = some (r, z')) (hW : Wb G z s H locs) (hl : lv_has ls 7 [(0, .ref (gB G + a0)), (4, .int l4), (5, .int l5)]) : W p l e rmX10_country s m args below meth c H locs 0 0 (MQ below (Qi G r z') args s 0 0 (AA G)) (F0 m 119 ls [.int s2, .ref (gB G + s1), .int s0]) := by
  have hx := C.1
  have hb := C.2.1
  unfold bX10_country_119 at h
  obtain ⟨x119, hq, h⟩ := ob h
  refine wz_rI (c' := 0) (s' := 0) hW (wz_runV (rest := [.int s0]) C hW lVX10_272 (ck hq).1 rfl (ctX10_of l G s1 s2 z hq) ⟨⟨rfl, rfl⟩, Nat.le_of_ble_eq_true rfl, Nat.le_of_ble_eq_true rfl⟩ rfl hl.1 rfl (Nat.le_of_ble_eq_true rfl) dX10_country_119 ⟨Nat.le_of_ble_eq_true rfl, Nat.le_of_ble_eq_true rfl⟩) rfl rfl (fun H locs hW => ?_)
  refine lv_icmp_ge (tgt := 150) hx hb dX10_country_122 (by decide) (fun c122 => ?_) (fun c122 => ?_)
  · have h := ite_t c122 h
    exact kbX10_country_150 C hlk hr a0 l4 l5 h hW (lv_sub hl [0, 1, 2] rfl)
  · have h := ite_f c122 h
    refine lv_iload hx hb dX10_country_125 (lv_at hl 1 rfl) ?_
    refine lv_iconst (v := 4) hx hb dX10_country_127 (by decide) ?_
    refine wz_irem hx hb dX10_country_128 (by decide) ?_
    refine lv_aload_n hx hb dX10_country_129 rfl (lv_at hl 0 rfl) ?_
    refine lv_iload hx hb dX10_country_130 (lv_at hl 2 rfl) ?_
    refine lv_if_eq (tgt := 139) hx hb dX10_country_132 (by decide) (fun c132 => ?_) (fun c132 => ?_)
    · have h := ite_t c132 h
      refine lv_iconst (v := 2) hx hb dX10_country_139 (by decide) ?_
      exact kbX10_country_140 C hlk hr a0 l4 l5 (irem l4 (4 : Int32)) a0 (2 : Int32) h hW (lv_sub hl [0, 1, 2] rfl)
    · have h := ite_f c132 h
      refine lv_iconst (v := 3) hx hb dX10_country_135 (by decide) ?_
      refine lv_goto (tgt := 140) hx hb dX10_country_136 (by decide) ?_
      exact kbX10_country_140 C hlk hr a0 l4 l5 (irem l4 (4 : Int32)) a0 (3 : Int32) h hW (lv_sub hl [0, 1, 2] rfl)
def bX10_country_88 (a0 : Nat) (l2 : Int32) (l4 : Int32) (s0 : Int32) (z : AH) : Option (Int32 × AH) :=
  if (180 : Int32) ≤ l2 then (
    bX10_country_150 a0 l4 s0 z
  ) else (
    if (16 : Int32) ≤ l4 then (
      bX10_country_150 a0 l4 s0 z
    ) else (
      if s0 = (0 : Int32) then (
        bX10_country_119 a0 l4 s0 (l4 / (4 : Int32)) a0 (3 : Int32) z
      ) else (
        bX10_country_119 a0 l4 s0 (l4 / (4 : Int32)) a0 (2 : Int32) z
      )
    )
  )
set_option maxHeartbeats 4000000 in
set_option maxRecDepth 100000 in
theorem kbX10_country_88 {p : Program} {l : Launch} {e : Env} {s : State} {m : MethodId} {args : Array Value} {below : List Frame} {meth : Method} {c : Code} {G : GW} {r : Int32} {z' : AH} (C : Cx p m c cX10_country 7 s args RX10 G) (hlk : meth.locks = false) (hr : meth.sig.returnType = (some .int)) (a0 : Nat) (l2 : Int32) (l4 : Int32) (s0 : Int32) {z : AH} {H : Heap} {locs : List Loc} {ls : Array Slot} (h : bX10_country_88 a0 l2 l4 s0 z = some (r, z')) (hW : Wb G z s H locs) (hl : lv_has ls 7 [(0, .ref (gB G + a0)), (2, .int l2), (4, .int l4)]) : W p l e rmX10_country s m args below meth c H locs 0 0 (MQ below (Qi G r z') args s 0 0 (AA G)) (F0 m 88 ls [.int s0]) := by
  have hx := C.1
  have hb := C.2.1
  unfold bX10_country_88 at h
  refine lv_istore (lv' := [(5, .int s0), (0, .ref (gB G + a0)), (2, .int l2), (4, .int l4)]) hx hb dX10_country_88 hl (by decide) rfl (fun ls hl => ?_)
  refine lv_iload_n hx hb dX10_country_90 rfl (lv_at hl 2 rfl) ?_
  refine lv_sipush (v := 180) hx hb dX10_country_91 (by decide) ?_
  refine lv_icmp_ge (tgt := 150) hx hb dX10_country_94 (by decide) (fun c94 => ?_) (fun c94 => ?_)
  · have h := ite_t c94 h
    exact kbX10_country_150 C hlk hr a0 l4 s0 h hW (lv_sub hl [1, 3, 0] rfl)
  · have h := ite_f c94 h
    refine lv_iload hx hb dX10_country_97 (lv_at hl 3 rfl) ?_
    refine lv_bipush (v := 16) hx hb dX10_country_99 (by decide) ?_
    refine lv_icmp_ge (tgt := 150) hx hb dX10_country_101 (by decide) (fun c101 => ?_) (fun c101 => ?_)
    · have h := ite_t c101 h
      exact kbX10_country_150 C hlk hr a0 l4 s0 h hW (lv_sub hl [1, 3, 0] rfl)
    · have h := ite_f c101 h
      refine lv_iload hx hb dX10_country_104 (lv_at hl 3 rfl) ?_
      refine lv_iconst (v := 4) hx hb dX10_country_106 (by decide) ?_
      refine lv_idiv hx hb dX10_country_107 (by decide) ?_
      refine lv_aload_n hx hb dX10_country_108 rfl (lv_at hl 1 rfl) ?_
      refine lv_iload hx hb dX10_country_109 (lv_at hl 0 rfl) ?_
      refine lv_if_eq (tgt := 118) hx hb dX10_country_111 (by decide) (fun c111 => ?_) (fun c111 => ?_)
      · have h := ite_t c111 h
        refine lv_iconst (v := 3) hx hb dX10_country_118 (by decide) ?_
        exact kbX10_country_119 C hlk hr a0 l4 s0 (l4 / (4 : Int32)) a0 (3 : Int32) h hW (lv_sub hl [1, 3, 0] rfl)
      · have h := ite_f c111 h
        refine lv_iconst (v := 2) hx hb dX10_country_114 (by decide) ?_
        refine lv_goto (tgt := 119) hx hb dX10_country_115 (by decide) ?_
        exact kbX10_country_119 C hlk hr a0 l4 s0 (l4 / (4 : Int32)) a0 (2 : Int32) h hW (lv_sub hl [1, 3, 0] rfl)
def bX10_country_64 (l4 : Int32) (s0 : Nat) (s1 : Int32) (z : AH) : Option (Int32 × AH) :=
  (fX10_of s0 (s1 + l4) z).bind fun x67 =>
  some (x67, z)
set_option maxHeartbeats 4000000 in
set_option maxRecDepth 100000 in
theorem kbX10_country_64 {p : Program} {l : Launch} {e : Env} {s : State} {m : MethodId} {args : Array Value} {below : List Frame} {meth : Method} {c : Code} {G : GW} {r : Int32} {z' : AH} (C : Cx p m c cX10_country 7 s args RX10 G) (hlk : meth.locks = false) (hr : meth.sig.returnType = (some .int)) (l4 : Int32) (s0 : Nat) (s1 : Int32) {z : AH} {H : Heap} {locs : List Loc} {ls : Array Slot} (h : bX10_country_64 l4 s0 s1 z = some (r, z')) (hW : Wb G z s H locs) (hl : lv_has ls 7 [(4, .int l4)]) : W p l e rmX10_country s m args below meth c H locs 0 0 (MQ below (Qi G r z') args s 0 0 (AA G)) (F0 m 64 ls [.int s1, .ref (gB G + s0)]) := by
  have hx := C.1
  have hb := C.2.1
  unfold bX10_country_64 at h
  refine lv_iload hx hb dX10_country_64 (lv_at hl 0 rfl) ?_
  refine lv_iadd hx hb dX10_country_66 ?_
  obtain ⟨x67, hq, h⟩ := ob h
  refine wz_rI (c' := 0) (s' := 0) hW (wz_runV (rest := []) C hW lVX10_272 (ck hq).1 rfl (ctX10_of l G s0 (s1 + l4) z hq) ⟨⟨rfl, rfl⟩, Nat.le_of_ble_eq_true rfl, Nat.le_of_ble_eq_true rfl⟩ rfl hl.1 rfl (Nat.le_of_ble_eq_true rfl) dX10_country_67 ⟨Nat.le_of_ble_eq_true rfl, Nat.le_of_ble_eq_true rfl⟩) rfl rfl (fun H locs hW => ?_)
  refine lv_goto (tgt := 75) hx hb dX10_country_70 (by decide) ?_
  exact wz_iretE C hlk hr (so2 h).1 (so2 h).2 hW dX10_country_75
def fX10_country (a0 : Nat) (l1 : Int32) (l2 : Int32) (z : AH) : Option (Int32 × AH) :=
  if isO 9 z a0 = true then
    (pF 9 0 z a0 (.int (0 : Int32))).bind fun z2 =>
    b2 (fX10_hand a0 l1 z2) fun x7 z7 =>
    if x7 = (0 : Int32) then (
      some ((-2 : Int32), z7)
    ) else (
      nm (irem l2 (10 : Int32)) fun v20 =>
      if l2 < (100 : Int32) then (
        if (l2 / (10 : Int32)) = (0 : Int32) then (
          if (fX10_in l2 (0 : Int32) (5 : Int32)) = (0 : Int32) then (
            some ((-2 : Int32), z7)
          ) else (
            (fX10_of a0 l2 z7).bind fun x247 =>
            some (x247, z7)
          )
        ) else
        if (l2 / (10 : Int32)) = (1 : Int32) then (
          (gI 9 26 z7 a0).bind fun x258 =>
          if x258 ≤ v20 then (
            some ((-2 : Int32), z7)
          ) else (
            (fX10_of a0 (((6 : Int32) + ((8 : Int32) * ((l2 / (10 : Int32)) - (1 : Int32)))) + v20) z7).bind fun x279 =>
            some (x279, z7)
          )
        ) else
        if (l2 / (10 : Int32)) = (2 : Int32) then (
          (gI 9 26 z7 a0).bind fun x258 =>
          if x258 ≤ v20 then (
            some ((-2 : Int32), z7)
          ) else (
            (fX10_of a0 (((6 : Int32) + ((8 : Int32) * ((l2 / (10 : Int32)) - (1 : Int32)))) + v20) z7).bind fun x279 =>
            some (x279, z7)
          )
        ) else
        if (l2 / (10 : Int32)) = (3 : Int32) then (
          (gI 9 26 z7 a0).bind fun x258 =>
          if x258 ≤ v20 then (
            some ((-2 : Int32), z7)
          ) else (
            (fX10_of a0 (((6 : Int32) + ((8 : Int32) * ((l2 / (10 : Int32)) - (1 : Int32)))) + v20) z7).bind fun x279 =>
            some (x279, z7)
          )
        ) else
        if (l2 / (10 : Int32)) = (4 : Int32) then (
          (gI 9 26 z7 a0).bind fun x258 =>
          if x258 ≤ v20 then (
            some ((-2 : Int32), z7)
          ) else (
            (fX10_of a0 (((6 : Int32) + ((8 : Int32) * ((l2 / (10 : Int32)) - (1 : Int32)))) + v20) z7).bind fun x279 =>
            some (x279, z7)
          )
        ) else
        if (l2 / (10 : Int32)) = (5 : Int32) then (
          if (60 : Int32) ≤ l2 then (
            bX10_country_301 a0 l2 v20 v20 a0 (3 : Int32) z7
          ) else (
            bX10_country_301 a0 l2 v20 v20 a0 (2 : Int32) z7
          )
        ) else
        if (l2 / (10 : Int32)) = (6 : Int32) then (
          if (60 : Int32) ≤ l2 then (
            bX10_country_301 a0 l2 v20 v20 a0 (3 : Int32) z7
          ) else (
            bX10_country_301 a0 l2 v20 v20 a0 (2 : Int32) z7
          )
        ) else
        if (l2 / (10 : Int32)) = (7 : Int32) then (
          (gI 9 27 z7 a0).bind fun x334 =>
          if x334 ≤ v20 then (
            some ((-2 : Int32), z7)
          ) else (
            if (80 : Int32) ≤ l2 then (
              bX10_country_354 v20 a0 (50 : Int32) z7
            ) else (
              bX10_country_354 v20 a0 (46 : Int32) z7
            )
          )
        ) else
        if (l2 / (10 : Int32)) = (8 : Int32) then (
          (gI 9 27 z7 a0).bind fun x334 =>
          if x334 ≤ v20 then (
            some ((-2 : Int32), z7)
          ) else (
            if (80 : Int32) ≤ l2 then (
              bX10_country_354 v20 a0 (50 : Int32) z7
            ) else (
              bX10_country_354 v20 a0 (46 : Int32) z7
            )
          )
        ) else
        some ((-2 : Int32), z7)
      ) else (
        nm (irem l2 (20 : Int32)) fun v31 =>
        if (140 : Int32) ≤ l2 then (
          if (160 : Int32) ≤ l2 then (
            bX10_country_88 a0 l2 v31 (0 : Int32) z7
          ) else (
            bX10_country_88 a0 l2 v31 (1 : Int32) z7
          )
        ) else (
          (fX10_of a0 (1 : Int32) z7).bind fun x44 =>
          if x44 ≤ v31 then (
            some ((-2 : Int32), z7)
          ) else (
            if (120 : Int32) ≤ l2 then (
              bX10_country_64 v31 a0 (66 : Int32) z7
            ) else (
              bX10_country_64 v31 a0 (54 : Int32) z7
            )
          )
        )
      )
    )
  else none
set_option maxHeartbeats 4000000 in
set_option maxRecDepth 100000 in
theorem ctX10_country (l : Launch) (G : GW) (a0 : Nat) (l1 : Int32) (l2 : Int32) (z : AH) {r : Int32} {z' : AH} (h : fX10_country a0 l1 l2 z = some (r, z')) : Met l yX10_country (wy yX10_country cX10_country 7 (some .int)) rmX10_country (Pz G [.ref (gB G + a0), .int l1, .int l2] z) (Qi G r z') 0 0 (AA G) := by
  refine wz_ent (own := RX10) (by decide +kernel) rfl (fun p e s m below meth c ls C hlk hr hin hW hl => ?_) (Nat.le_of_ble_eq_true rfl)
  have hl : lv_has ls 7 [(0, .ref (gB G + a0)), (1, .int l1), (2, .int l2)] := hl
  have hx := C.1
  have hb := C.2.1
  unfold fX10_country at h
  obtain ⟨-, h⟩ := ck h
  refine lv_aload_n hx hb dX10_country_0 rfl (lv_at hl 0 rfl) ?_
  refine lv_iconst (v := 0) hx hb dX10_country_1 (by decide) ?_
  obtain ⟨z2, hg, h⟩ := ob h
  refine wz_put (v := (.int (0 : Int32))) C hW flX10_81 rfl rfl hg dX10_country_2 (fun H locs hW => ?_)
  refine lv_aload_n hx hb dX10_country_5 rfl (lv_at hl 0 rfl) ?_
  refine lv_iload_n hx hb dX10_country_6 rfl (lv_at hl 1 rfl) ?_
  obtain ⟨x7, z7, hq, h⟩ := ob2 h
  refine wz_rI (c' := 0) (s' := 0) hW (wz_runV (rest := []) C hW lVX10_330 (ck hq).1 rfl (ctX10_hand l G a0 l1 z2 hq) ⟨⟨rfl, rfl⟩, Nat.le_of_ble_eq_true rfl, Nat.le_of_ble_eq_true rfl⟩ rfl hl.1 rfl (Nat.le_of_ble_eq_true rfl) dX10_country_7 ⟨Nat.le_of_ble_eq_true rfl, Nat.le_of_ble_eq_true rfl⟩) rfl rfl (fun H locs hW => ?_)
  refine lv_if_ne (tgt := 16) hx hb dX10_country_10 (by decide) (fun c10 => ?_) (fun c10 => ?_)
  · have h := ite_f c10 h
    refine lv_iload_n hx hb dX10_country_16 rfl (lv_at hl 2 rfl) ?_
    refine lv_bipush (v := 10) hx hb dX10_country_17 (by decide) ?_
    refine wz_irem hx hb dX10_country_19 (by decide) ?_
    refine lv_topi (fun v20 ev20 => ?_)
    have h := nm_to h ev20
    refine lv_istore_n (lv' := [(3, .int v20), (0, .ref (gB G + a0)), (1, .int l1), (2, .int l2)]) hx hb dX10_country_20 rfl hl (by decide) rfl (fun ls hl => ?_)
    refine lv_iload_n hx hb dX10_country_21 rfl (lv_at hl 3 rfl) ?_
    refine lv_bipush (v := 100) hx hb dX10_country_22 (by decide) ?_
    refine lv_icmp_lt (tgt := 183) hx hb dX10_country_24 (by decide) (fun c24 => ?_) (fun c24 => ?_)
    · have h := ite_t c24 h
      refine lv_iload_n hx hb dX10_country_183 rfl (lv_at hl 3 rfl) ?_
      refine lv_bipush (v := 10) hx hb dX10_country_184 (by decide) ?_
      refine lv_idiv hx hb dX10_country_186 (by decide) ?_
      by_cases c187_0 : (l2 / (10 : Int32)) = (0 : Int32)
      · have h := ite_t c187_0 h
        refine wz_sw (0 : Int32) (tgt := 236) hx hb dX10_country_187 c187_0 (by decide) rfl (by decide) ?_
        refine lv_iload_n hx hb dX10_country_236 rfl (lv_at hl 3 rfl) ?_
        refine lv_iconst (v := 0) hx hb dX10_country_237 (by decide) ?_
        refine lv_iconst (v := 5) hx hb dX10_country_238 (by decide) ?_
        refine wz_rI (c' := 0) (s' := 0) hW (wz_runS (rest := []) C hW lTX10_93 (ctX10_in l G l2 (0 : Int32) (5 : Int32) z7 rfl) ⟨⟨rfl, rfl⟩, Nat.le_of_ble_eq_true rfl, Nat.le_of_ble_eq_true rfl⟩ rfl hl.1 rfl (Nat.le_of_ble_eq_true rfl) dX10_country_239 ⟨Nat.le_of_ble_eq_true rfl, Nat.le_of_ble_eq_true rfl⟩) rfl rfl (fun H locs hW => ?_)
        refine lv_if_eq (tgt := 253) hx hb dX10_country_242 (by decide) (fun c242 => ?_) (fun c242 => ?_)
        · have h := ite_t c242 h
          refine lv_bipush (v := -2) hx hb dX10_country_253 (by decide) ?_
          exact wz_iretE C hlk hr (so2 h).1 (so2 h).2 hW dX10_country_255
        · have h := ite_f c242 h
          refine lv_aload_n hx hb dX10_country_245 rfl (lv_at hl 1 rfl) ?_
          refine lv_iload_n hx hb dX10_country_246 rfl (lv_at hl 3 rfl) ?_
          obtain ⟨x247, hq, h⟩ := ob h
          refine wz_rI (c' := 0) (s' := 0) hW (wz_runV (rest := []) C hW lVX10_272 (ck hq).1 rfl (ctX10_of l G a0 l2 z7 hq) ⟨⟨rfl, rfl⟩, Nat.le_of_ble_eq_true rfl, Nat.le_of_ble_eq_true rfl⟩ rfl hl.1 rfl (Nat.le_of_ble_eq_true rfl) dX10_country_247 ⟨Nat.le_of_ble_eq_true rfl, Nat.le_of_ble_eq_true rfl⟩) rfl rfl (fun H locs hW => ?_)
          refine lv_goto (tgt := 255) hx hb dX10_country_250 (by decide) ?_
          exact wz_iretE C hlk hr (so2 h).1 (so2 h).2 hW dX10_country_255
      have h := ite_f c187_0 h
      by_cases c187_1 : (l2 / (10 : Int32)) = (1 : Int32)
      · have h := ite_t c187_1 h
        refine wz_sw (1 : Int32) (tgt := 256) hx hb dX10_country_187 c187_1 (by decide) rfl (by decide) ?_
        refine lv_iload_n hx hb dX10_country_256 rfl (lv_at hl 0 rfl) ?_
        refine lv_aload_n hx hb dX10_country_257 rfl (lv_at hl 1 rfl) ?_
        obtain ⟨x258, hg, h⟩ := ob h
        refine wz_gI C hW flX10_276 hg dX10_country_258 ?_
        refine lv_icmp_ge (tgt := 285) hx hb dX10_country_261 (by decide) (fun c261 => ?_) (fun c261 => ?_)
        · have h := ite_t c261 h
          refine lv_bipush (v := -2) hx hb dX10_country_285 (by decide) ?_
          exact wz_iretE C hlk hr (so2 h).1 (so2 h).2 hW dX10_country_287
        · have h := ite_f c261 h
          refine lv_aload_n hx hb dX10_country_264 rfl (lv_at hl 1 rfl) ?_
          refine lv_bipush (v := 6) hx hb dX10_country_265 (by decide) ?_
          refine lv_bipush (v := 8) hx hb dX10_country_267 (by decide) ?_
          refine lv_iload_n hx hb dX10_country_269 rfl (lv_at hl 3 rfl) ?_
          refine lv_bipush (v := 10) hx hb dX10_country_270 (by decide) ?_
          refine lv_idiv hx hb dX10_country_272 (by decide) ?_
          refine lv_iconst (v := 1) hx hb dX10_country_273 (by decide) ?_
          refine lv_isub hx hb dX10_country_274 ?_
          refine lv_imul hx hb dX10_country_275 ?_
          refine lv_iadd hx hb dX10_country_276 ?_
          refine lv_iload_n hx hb dX10_country_277 rfl (lv_at hl 0 rfl) ?_
          refine lv_iadd hx hb dX10_country_278 ?_
          obtain ⟨x279, hq, h⟩ := ob h
          refine wz_rI (c' := 0) (s' := 0) hW (wz_runV (rest := []) C hW lVX10_272 (ck hq).1 rfl (ctX10_of l G a0 (((6 : Int32) + ((8 : Int32) * ((l2 / (10 : Int32)) - (1 : Int32)))) + v20) z7 hq) ⟨⟨rfl, rfl⟩, Nat.le_of_ble_eq_true rfl, Nat.le_of_ble_eq_true rfl⟩ rfl hl.1 rfl (Nat.le_of_ble_eq_true rfl) dX10_country_279 ⟨Nat.le_of_ble_eq_true rfl, Nat.le_of_ble_eq_true rfl⟩) rfl rfl (fun H locs hW => ?_)
          refine lv_goto (tgt := 287) hx hb dX10_country_282 (by decide) ?_
          exact wz_iretE C hlk hr (so2 h).1 (so2 h).2 hW dX10_country_287
      have h := ite_f c187_1 h
      by_cases c187_2 : (l2 / (10 : Int32)) = (2 : Int32)
      · have h := ite_t c187_2 h
        refine wz_sw (2 : Int32) (tgt := 256) hx hb dX10_country_187 c187_2 (by decide) rfl (by decide) ?_
        refine lv_iload_n hx hb dX10_country_256 rfl (lv_at hl 0 rfl) ?_
        refine lv_aload_n hx hb dX10_country_257 rfl (lv_at hl 1 rfl) ?_
        obtain ⟨x258, hg, h⟩ := ob h
        refine wz_gI C hW flX10_276 hg dX10_country_258 ?_
        refine lv_icmp_ge (tgt := 285) hx hb dX10_country_261 (by decide) (fun c261 => ?_) (fun c261 => ?_)
        · have h := ite_t c261 h
          refine lv_bipush (v := -2) hx hb dX10_country_285 (by decide) ?_
          exact wz_iretE C hlk hr (so2 h).1 (so2 h).2 hW dX10_country_287
        · have h := ite_f c261 h
          refine lv_aload_n hx hb dX10_country_264 rfl (lv_at hl 1 rfl) ?_
          refine lv_bipush (v := 6) hx hb dX10_country_265 (by decide) ?_
          refine lv_bipush (v := 8) hx hb dX10_country_267 (by decide) ?_
          refine lv_iload_n hx hb dX10_country_269 rfl (lv_at hl 3 rfl) ?_
          refine lv_bipush (v := 10) hx hb dX10_country_270 (by decide) ?_
          refine lv_idiv hx hb dX10_country_272 (by decide) ?_
          refine lv_iconst (v := 1) hx hb dX10_country_273 (by decide) ?_
          refine lv_isub hx hb dX10_country_274 ?_
          refine lv_imul hx hb dX10_country_275 ?_
          refine lv_iadd hx hb dX10_country_276 ?_
          refine lv_iload_n hx hb dX10_country_277 rfl (lv_at hl 0 rfl) ?_
          refine lv_iadd hx hb dX10_country_278 ?_
          obtain ⟨x279, hq, h⟩ := ob h
          refine wz_rI (c' := 0) (s' := 0) hW (wz_runV (rest := []) C hW lVX10_272 (ck hq).1 rfl (ctX10_of l G a0 (((6 : Int32) + ((8 : Int32) * ((l2 / (10 : Int32)) - (1 : Int32)))) + v20) z7 hq) ⟨⟨rfl, rfl⟩, Nat.le_of_ble_eq_true rfl, Nat.le_of_ble_eq_true rfl⟩ rfl hl.1 rfl (Nat.le_of_ble_eq_true rfl) dX10_country_279 ⟨Nat.le_of_ble_eq_true rfl, Nat.le_of_ble_eq_true rfl⟩) rfl rfl (fun H locs hW => ?_)
          refine lv_goto (tgt := 287) hx hb dX10_country_282 (by decide) ?_
          exact wz_iretE C hlk hr (so2 h).1 (so2 h).2 hW dX10_country_287
      have h := ite_f c187_2 h
      by_cases c187_3 : (l2 / (10 : Int32)) = (3 : Int32)
      · have h := ite_t c187_3 h
        refine wz_sw (3 : Int32) (tgt := 256) hx hb dX10_country_187 c187_3 (by decide) rfl (by decide) ?_
        refine lv_iload_n hx hb dX10_country_256 rfl (lv_at hl 0 rfl) ?_
        refine lv_aload_n hx hb dX10_country_257 rfl (lv_at hl 1 rfl) ?_
        obtain ⟨x258, hg, h⟩ := ob h
        refine wz_gI C hW flX10_276 hg dX10_country_258 ?_
        refine lv_icmp_ge (tgt := 285) hx hb dX10_country_261 (by decide) (fun c261 => ?_) (fun c261 => ?_)
        · have h := ite_t c261 h
          refine lv_bipush (v := -2) hx hb dX10_country_285 (by decide) ?_
          exact wz_iretE C hlk hr (so2 h).1 (so2 h).2 hW dX10_country_287
        · have h := ite_f c261 h
          refine lv_aload_n hx hb dX10_country_264 rfl (lv_at hl 1 rfl) ?_
          refine lv_bipush (v := 6) hx hb dX10_country_265 (by decide) ?_
          refine lv_bipush (v := 8) hx hb dX10_country_267 (by decide) ?_
          refine lv_iload_n hx hb dX10_country_269 rfl (lv_at hl 3 rfl) ?_
          refine lv_bipush (v := 10) hx hb dX10_country_270 (by decide) ?_
          refine lv_idiv hx hb dX10_country_272 (by decide) ?_
          refine lv_iconst (v := 1) hx hb dX10_country_273 (by decide) ?_
          refine lv_isub hx hb dX10_country_274 ?_
          refine lv_imul hx hb dX10_country_275 ?_
          refine lv_iadd hx hb dX10_country_276 ?_
          refine lv_iload_n hx hb dX10_country_277 rfl (lv_at hl 0 rfl) ?_
          refine lv_iadd hx hb dX10_country_278 ?_
          obtain ⟨x279, hq, h⟩ := ob h
          refine wz_rI (c' := 0) (s' := 0) hW (wz_runV (rest := []) C hW lVX10_272 (ck hq).1 rfl (ctX10_of l G a0 (((6 : Int32) + ((8 : Int32) * ((l2 / (10 : Int32)) - (1 : Int32)))) + v20) z7 hq) ⟨⟨rfl, rfl⟩, Nat.le_of_ble_eq_true rfl, Nat.le_of_ble_eq_true rfl⟩ rfl hl.1 rfl (Nat.le_of_ble_eq_true rfl) dX10_country_279 ⟨Nat.le_of_ble_eq_true rfl, Nat.le_of_ble_eq_true rfl⟩) rfl rfl (fun H locs hW => ?_)
          refine lv_goto (tgt := 287) hx hb dX10_country_282 (by decide) ?_
          exact wz_iretE C hlk hr (so2 h).1 (so2 h).2 hW dX10_country_287
      have h := ite_f c187_3 h
      by_cases c187_4 : (l2 / (10 : Int32)) = (4 : Int32)
      · have h := ite_t c187_4 h
        refine wz_sw (4 : Int32) (tgt := 256) hx hb dX10_country_187 c187_4 (by decide) rfl (by decide) ?_
        refine lv_iload_n hx hb dX10_country_256 rfl (lv_at hl 0 rfl) ?_
        refine lv_aload_n hx hb dX10_country_257 rfl (lv_at hl 1 rfl) ?_
        obtain ⟨x258, hg, h⟩ := ob h
        refine wz_gI C hW flX10_276 hg dX10_country_258 ?_
        refine lv_icmp_ge (tgt := 285) hx hb dX10_country_261 (by decide) (fun c261 => ?_) (fun c261 => ?_)
        · have h := ite_t c261 h
          refine lv_bipush (v := -2) hx hb dX10_country_285 (by decide) ?_
          exact wz_iretE C hlk hr (so2 h).1 (so2 h).2 hW dX10_country_287
        · have h := ite_f c261 h
          refine lv_aload_n hx hb dX10_country_264 rfl (lv_at hl 1 rfl) ?_
          refine lv_bipush (v := 6) hx hb dX10_country_265 (by decide) ?_
          refine lv_bipush (v := 8) hx hb dX10_country_267 (by decide) ?_
          refine lv_iload_n hx hb dX10_country_269 rfl (lv_at hl 3 rfl) ?_
          refine lv_bipush (v := 10) hx hb dX10_country_270 (by decide) ?_
          refine lv_idiv hx hb dX10_country_272 (by decide) ?_
          refine lv_iconst (v := 1) hx hb dX10_country_273 (by decide) ?_
          refine lv_isub hx hb dX10_country_274 ?_
          refine lv_imul hx hb dX10_country_275 ?_
          refine lv_iadd hx hb dX10_country_276 ?_
          refine lv_iload_n hx hb dX10_country_277 rfl (lv_at hl 0 rfl) ?_
          refine lv_iadd hx hb dX10_country_278 ?_
          obtain ⟨x279, hq, h⟩ := ob h
          refine wz_rI (c' := 0) (s' := 0) hW (wz_runV (rest := []) C hW lVX10_272 (ck hq).1 rfl (ctX10_of l G a0 (((6 : Int32) + ((8 : Int32) * ((l2 / (10 : Int32)) - (1 : Int32)))) + v20) z7 hq) ⟨⟨rfl, rfl⟩, Nat.le_of_ble_eq_true rfl, Nat.le_of_ble_eq_true rfl⟩ rfl hl.1 rfl (Nat.le_of_ble_eq_true rfl) dX10_country_279 ⟨Nat.le_of_ble_eq_true rfl, Nat.le_of_ble_eq_true rfl⟩) rfl rfl (fun H locs hW => ?_)
          refine lv_goto (tgt := 287) hx hb dX10_country_282 (by decide) ?_
          exact wz_iretE C hlk hr (so2 h).1 (so2 h).2 hW dX10_country_287
      have h := ite_f c187_4 h
      by_cases c187_5 : (l2 / (10 : Int32)) = (5 : Int32)
      · have h := ite_t c187_5 h
        refine wz_sw (5 : Int32) (tgt := 288) hx hb dX10_country_187 c187_5 (by decide) rfl (by decide) ?_
        refine lv_iload_n hx hb dX10_country_288 rfl (lv_at hl 0 rfl) ?_
        refine lv_aload_n hx hb dX10_country_289 rfl (lv_at hl 1 rfl) ?_
        refine lv_iload_n hx hb dX10_country_290 rfl (lv_at hl 3 rfl) ?_
        refine lv_bipush (v := 60) hx hb dX10_country_291 (by decide) ?_
        refine lv_icmp_ge (tgt := 300) hx hb dX10_country_293 (by decide) (fun c293 => ?_) (fun c293 => ?_)
        · have h := ite_t c293 h
          refine lv_iconst (v := 3) hx hb dX10_country_300 (by decide) ?_
          exact kbX10_country_301 C hlk hr a0 l2 v20 v20 a0 (3 : Int32) h hW (lv_sub hl [1, 3, 0] rfl)
        · have h := ite_f c293 h
          refine lv_iconst (v := 2) hx hb dX10_country_296 (by decide) ?_
          refine lv_goto (tgt := 301) hx hb dX10_country_297 (by decide) ?_
          exact kbX10_country_301 C hlk hr a0 l2 v20 v20 a0 (2 : Int32) h hW (lv_sub hl [1, 3, 0] rfl)
      have h := ite_f c187_5 h
      by_cases c187_6 : (l2 / (10 : Int32)) = (6 : Int32)
      · have h := ite_t c187_6 h
        refine wz_sw (6 : Int32) (tgt := 288) hx hb dX10_country_187 c187_6 (by decide) rfl (by decide) ?_
        refine lv_iload_n hx hb dX10_country_288 rfl (lv_at hl 0 rfl) ?_
        refine lv_aload_n hx hb dX10_country_289 rfl (lv_at hl 1 rfl) ?_
        refine lv_iload_n hx hb dX10_country_290 rfl (lv_at hl 3 rfl) ?_
        refine lv_bipush (v := 60) hx hb dX10_country_291 (by decide) ?_
        refine lv_icmp_ge (tgt := 300) hx hb dX10_country_293 (by decide) (fun c293 => ?_) (fun c293 => ?_)
        · have h := ite_t c293 h
          refine lv_iconst (v := 3) hx hb dX10_country_300 (by decide) ?_
          exact kbX10_country_301 C hlk hr a0 l2 v20 v20 a0 (3 : Int32) h hW (lv_sub hl [1, 3, 0] rfl)
        · have h := ite_f c293 h
          refine lv_iconst (v := 2) hx hb dX10_country_296 (by decide) ?_
          refine lv_goto (tgt := 301) hx hb dX10_country_297 (by decide) ?_
          exact kbX10_country_301 C hlk hr a0 l2 v20 v20 a0 (2 : Int32) h hW (lv_sub hl [1, 3, 0] rfl)
      have h := ite_f c187_6 h
      by_cases c187_7 : (l2 / (10 : Int32)) = (7 : Int32)
      · have h := ite_t c187_7 h
        refine wz_sw (7 : Int32) (tgt := 332) hx hb dX10_country_187 c187_7 (by decide) rfl (by decide) ?_
        refine lv_iload_n hx hb dX10_country_332 rfl (lv_at hl 0 rfl) ?_
        refine lv_aload_n hx hb dX10_country_333 rfl (lv_at hl 1 rfl) ?_
        obtain ⟨x334, hg, h⟩ := ob h
        refine wz_gI C hW flX10_279 hg dX10_country_334 ?_
        refine lv_icmp_ge (tgt := 362) hx hb dX10_country_337 (by decide) (fun c337 => ?_) (fun c337 => ?_)
        · have h := ite_t c337 h
          refine lv_bipush (v := -2) hx hb dX10_country_362 (by decide) ?_
          exact wz_iretE C hlk hr (so2 h).1 (so2 h).2 hW dX10_country_364
        · have h := ite_f c337 h
          refine lv_aload_n hx hb dX10_country_340 rfl (lv_at hl 1 rfl) ?_
          refine lv_iload_n hx hb dX10_country_341 rfl (lv_at hl 3 rfl) ?_
          refine lv_bipush (v := 80) hx hb dX10_country_342 (by decide) ?_
          refine lv_icmp_ge (tgt := 352) hx hb dX10_country_344 (by decide) (fun c344 => ?_) (fun c344 => ?_)
          · have h := ite_t c344 h
            refine lv_bipush (v := 50) hx hb dX10_country_352 (by decide) ?_
            exact kbX10_country_354 C hlk hr v20 a0 (50 : Int32) h hW (lv_sub hl [0] rfl)
          · have h := ite_f c344 h
            refine lv_bipush (v := 46) hx hb dX10_country_347 (by decide) ?_
            refine lv_goto (tgt := 354) hx hb dX10_country_349 (by decide) ?_
            exact kbX10_country_354 C hlk hr v20 a0 (46 : Int32) h hW (lv_sub hl [0] rfl)
      have h := ite_f c187_7 h
      by_cases c187_8 : (l2 / (10 : Int32)) = (8 : Int32)
      · have h := ite_t c187_8 h
        refine wz_sw (8 : Int32) (tgt := 332) hx hb dX10_country_187 c187_8 (by decide) rfl (by decide) ?_
        refine lv_iload_n hx hb dX10_country_332 rfl (lv_at hl 0 rfl) ?_
        refine lv_aload_n hx hb dX10_country_333 rfl (lv_at hl 1 rfl) ?_
        obtain ⟨x334, hg, h⟩ := ob h
        refine wz_gI C hW flX10_279 hg dX10_country_334 ?_
        refine lv_icmp_ge (tgt := 362) hx hb dX10_country_337 (by decide) (fun c337 => ?_) (fun c337 => ?_)
        · have h := ite_t c337 h
          refine lv_bipush (v := -2) hx hb dX10_country_362 (by decide) ?_
          exact wz_iretE C hlk hr (so2 h).1 (so2 h).2 hW dX10_country_364
        · have h := ite_f c337 h
          refine lv_aload_n hx hb dX10_country_340 rfl (lv_at hl 1 rfl) ?_
          refine lv_iload_n hx hb dX10_country_341 rfl (lv_at hl 3 rfl) ?_
          refine lv_bipush (v := 80) hx hb dX10_country_342 (by decide) ?_
          refine lv_icmp_ge (tgt := 352) hx hb dX10_country_344 (by decide) (fun c344 => ?_) (fun c344 => ?_)
          · have h := ite_t c344 h
            refine lv_bipush (v := 50) hx hb dX10_country_352 (by decide) ?_
            exact kbX10_country_354 C hlk hr v20 a0 (50 : Int32) h hW (lv_sub hl [0] rfl)
          · have h := ite_f c344 h
            refine lv_bipush (v := 46) hx hb dX10_country_347 (by decide) ?_
            refine lv_goto (tgt := 354) hx hb dX10_country_349 (by decide) ?_
            exact kbX10_country_354 C hlk hr v20 a0 (46 : Int32) h hW (lv_sub hl [0] rfl)
      have h := ite_f c187_8 h
      refine lv_tableOut (tgt := 365) hx hb dX10_country_187 (by have g0 := i32_ne c187_0 (z := 0) (by decide); have g1 := i32_ne c187_1 (z := 1) (by decide); have g2 := i32_ne c187_2 (z := 2) (by decide); have g3 := i32_ne c187_3 (z := 3) (by decide); have g4 := i32_ne c187_4 (z := 4) (by decide); have g5 := i32_ne c187_5 (z := 5) (by decide); have g6 := i32_ne c187_6 (z := 6) (by decide); have g7 := i32_ne c187_7 (z := 7) (by decide); have g8 := i32_ne c187_8 (z := 8) (by decide); omega) (by decide) ?_
      refine lv_bipush (v := -2) hx hb dX10_country_365 (by decide) ?_
      exact wz_iretE C hlk hr (so2 h).1 (so2 h).2 hW dX10_country_367
    · have h := ite_f c24 h
      refine lv_iload_n hx hb dX10_country_27 rfl (lv_at hl 3 rfl) ?_
      refine lv_bipush (v := 20) hx hb dX10_country_28 (by decide) ?_
      refine wz_irem hx hb dX10_country_30 (by decide) ?_
      refine lv_topi (fun v31 ev31 => ?_)
      have h := nm_to h ev31
      refine lv_istore (lv' := [(4, .int v31), (3, .int v20), (0, .ref (gB G + a0)), (1, .int l1), (2, .int l2)]) hx hb dX10_country_31 hl (by decide) rfl (fun ls hl => ?_)
      refine lv_iload_n hx hb dX10_country_33 rfl (lv_at hl 4 rfl) ?_
      refine lv_sipush (v := 140) hx hb dX10_country_34 (by decide) ?_
      refine lv_icmp_ge (tgt := 76) hx hb dX10_country_37 (by decide) (fun c37 => ?_) (fun c37 => ?_)
      · have h := ite_t c37 h
        refine lv_iload_n hx hb dX10_country_76 rfl (lv_at hl 4 rfl) ?_
        refine lv_sipush (v := 160) hx hb dX10_country_77 (by decide) ?_
        refine lv_icmp_ge (tgt := 87) hx hb dX10_country_80 (by decide) (fun c80 => ?_) (fun c80 => ?_)
        · have h := ite_t c80 h
          refine lv_iconst (v := 0) hx hb dX10_country_87 (by decide) ?_
          exact kbX10_country_88 C hlk hr a0 l2 v31 (0 : Int32) h hW (lv_sub hl [2, 4, 0] rfl)
        · have h := ite_f c80 h
          refine lv_iconst (v := 1) hx hb dX10_country_83 (by decide) ?_
          refine lv_goto (tgt := 88) hx hb dX10_country_84 (by decide) ?_
          exact kbX10_country_88 C hlk hr a0 l2 v31 (1 : Int32) h hW (lv_sub hl [2, 4, 0] rfl)
      · have h := ite_f c37 h
        refine lv_iload hx hb dX10_country_40 (lv_at hl 0 rfl) ?_
        refine lv_aload_n hx hb dX10_country_42 rfl (lv_at hl 2 rfl) ?_
        refine lv_iconst (v := 1) hx hb dX10_country_43 (by decide) ?_
        obtain ⟨x44, hq, h⟩ := ob h
        refine wz_rI (c' := 0) (s' := 0) hW (wz_runV (rest := [.int v31]) C hW lVX10_272 (ck hq).1 rfl (ctX10_of l G a0 (1 : Int32) z7 hq) ⟨⟨rfl, rfl⟩, Nat.le_of_ble_eq_true rfl, Nat.le_of_ble_eq_true rfl⟩ rfl hl.1 rfl (Nat.le_of_ble_eq_true rfl) dX10_country_44 ⟨Nat.le_of_ble_eq_true rfl, Nat.le_of_ble_eq_true rfl⟩) rfl rfl (fun H locs hW => ?_)
        refine lv_icmp_ge (tgt := 73) hx hb dX10_country_47 (by decide) (fun c47 => ?_) (fun c47 => ?_)
        · have h := ite_t c47 h
          refine lv_bipush (v := -2) hx hb dX10_country_73 (by decide) ?_
          exact wz_iretE C hlk hr (so2 h).1 (so2 h).2 hW dX10_country_75
        · have h := ite_f c47 h
          refine lv_aload_n hx hb dX10_country_50 rfl (lv_at hl 2 rfl) ?_
          refine lv_iload_n hx hb dX10_country_51 rfl (lv_at hl 4 rfl) ?_
          refine lv_bipush (v := 120) hx hb dX10_country_52 (by decide) ?_
          refine lv_icmp_ge (tgt := 62) hx hb dX10_country_54 (by decide) (fun c54 => ?_) (fun c54 => ?_)
          · have h := ite_t c54 h
            refine lv_bipush (v := 66) hx hb dX10_country_62 (by decide) ?_
            exact kbX10_country_64 C hlk hr v31 a0 (66 : Int32) h hW (lv_sub hl [0] rfl)
          · have h := ite_f c54 h
            refine lv_bipush (v := 54) hx hb dX10_country_57 (by decide) ?_
            refine lv_goto (tgt := 64) hx hb dX10_country_59 (by decide) ?_
            exact kbX10_country_64 C hlk hr v31 a0 (54 : Int32) h hW (lv_sub hl [0] rfl)
  · have h := ite_t c10 h
    refine lv_bipush (v := -2) hx hb dX10_country_13 (by decide) ?_
    exact wz_iretE C hlk hr (so2 h).1 (so2 h).2 hW dX10_country_15
theorem dX10_deeds_0 : decode cX10_deeds 0 = .ok (.aload_n 0, 1) := by decide +kernel
theorem dX10_deeds_1 : decode cX10_deeds 1 = .ok (.getfield 29, 3) := by decide +kernel
theorem dX10_deeds_4 : decode cX10_deeds 4 = .ok (.bipush 121, 2) := by decide +kernel
theorem dX10_deeds_6 : decode cX10_deeds 6 = .ok (.aload_n 0, 1) := by decide +kernel
theorem dX10_deeds_7 : decode cX10_deeds 7 = .ok (.getfield 333, 3) := by decide +kernel
theorem dX10_deeds_10 : decode cX10_deeds 10 = .ok (.imul, 1) := by decide +kernel
theorem dX10_deeds_11 : decode cX10_deeds 11 = .ok (.iaload, 1) := by decide +kernel
theorem dX10_deeds_12 : decode cX10_deeds 12 = .ok (.ireturn, 1) := by decide +kernel
theorem flX10_333 : FL RX10 333 9 38 := ⟨_, rfl, Nat.le_of_ble_eq_true rfl, tw 1237 (by decide +kernel) rfl, rfl⟩
abbrev rmX10_deeds : Room := { frames := 0, cells := 0, slots := 0, locals := 0 }
def fX10_deeds (a0 : Nat) (z : AH) : Option (Int32) :=
  if isO 9 z a0 = true then
    (gN 9 7 z a0).bind fun b1 =>
    (gI 9 38 z a0).bind fun x7 =>
    (ixI 0 z b1 ((121 : Int32) * x7)).bind fun x11 =>
    some x11
  else none
set_option maxHeartbeats 4000000 in
set_option maxRecDepth 100000 in
theorem ctX10_deeds (l : Launch) (G : GW) (a0 : Nat) (z : AH) {r : Int32} (h : fX10_deeds a0 z = some r) : Met l yX10_deeds (wy yX10_deeds cX10_deeds 1 (some .int)) rmX10_deeds (Pz G [.ref (gB G + a0)] z) (Qi G r z) 0 0 (AA G) := by
  refine wz_ent (own := RX10) (by decide +kernel) rfl (fun p e s m below meth c ls C hlk hr hin hW hl => ?_) (Nat.le_of_ble_eq_true rfl)
  have hl : lv_has ls 1 [(0, .ref (gB G + a0))] := hl
  have hx := C.1
  have hb := C.2.1
  unfold fX10_deeds at h
  obtain ⟨-, h⟩ := ck h
  refine lv_aload_n hx hb dX10_deeds_0 rfl (lv_at hl 0 rfl) ?_
  obtain ⟨b1, hg, h⟩ := ob h
  refine wz_gN C hW flX10_29 hg dX10_deeds_1 ?_
  refine lv_bipush (v := 121) hx hb dX10_deeds_4 (by decide) ?_
  refine lv_aload_n hx hb dX10_deeds_6 rfl (lv_at hl 0 rfl) ?_
  obtain ⟨x7, hg, h⟩ := ob h
  refine wz_gI C hW flX10_333 hg dX10_deeds_7 ?_
  refine lv_imul hx hb dX10_deeds_10 ?_
  obtain ⟨x11, hg, h⟩ := ob h
  refine wz_ald C hW hg dX10_deeds_11 ?_
  exact wz_iretE C hlk hr (Option.some.inj h) rfl hW dX10_deeds_12
theorem dX10_deedOf_0 : decode cX10_deedOf 0 = .ok (.aload_n 0, 1) := by decide +kernel
theorem dX10_deedOf_1 : decode cX10_deedOf 1 = .ok (.getfield 29, 3) := by decide +kernel
theorem dX10_deedOf_4 : decode cX10_deedOf 4 = .ok (.bipush 121, 2) := by decide +kernel
theorem dX10_deedOf_6 : decode cX10_deedOf 6 = .ok (.aload_n 0, 1) := by decide +kernel
theorem dX10_deedOf_7 : decode cX10_deedOf 7 = .ok (.getfield 333, 3) := by decide +kernel
theorem dX10_deedOf_10 : decode cX10_deedOf 10 = .ok (.imul, 1) := by decide +kernel
theorem dX10_deedOf_11 : decode cX10_deedOf 11 = .ok (.iconst 1, 1) := by decide +kernel
theorem dX10_deedOf_12 : decode cX10_deedOf 12 = .ok (.iadd, 1) := by decide +kernel
theorem dX10_deedOf_13 : decode cX10_deedOf 13 = .ok (.iconst 3, 1) := by decide +kernel
theorem dX10_deedOf_14 : decode cX10_deedOf 14 = .ok (.iload_n 1, 1) := by decide +kernel
theorem dX10_deedOf_15 : decode cX10_deedOf 15 = .ok (.imul, 1) := by decide +kernel
theorem dX10_deedOf_16 : decode cX10_deedOf 16 = .ok (.iadd, 1) := by decide +kernel
theorem dX10_deedOf_17 : decode cX10_deedOf 17 = .ok (.iload_n 2, 1) := by decide +kernel
theorem dX10_deedOf_18 : decode cX10_deedOf 18 = .ok (.iadd, 1) := by decide +kernel
theorem dX10_deedOf_19 : decode cX10_deedOf 19 = .ok (.iaload, 1) := by decide +kernel
theorem dX10_deedOf_20 : decode cX10_deedOf 20 = .ok (.ireturn, 1) := by decide +kernel
abbrev rmX10_deedOf : Room := { frames := 0, cells := 0, slots := 0, locals := 0 }
def fX10_deedOf (a0 : Nat) (l1 : Int32) (l2 : Int32) (z : AH) : Option (Int32) :=
  if isO 9 z a0 = true then
    (gN 9 7 z a0).bind fun b1 =>
    (gI 9 38 z a0).bind fun x7 =>
    (ixI 0 z b1 (((((121 : Int32) * x7) + (1 : Int32)) + ((3 : Int32) * l1)) + l2)).bind fun x19 =>
    some x19
  else none
set_option maxHeartbeats 4000000 in
set_option maxRecDepth 100000 in
theorem ctX10_deedOf (l : Launch) (G : GW) (a0 : Nat) (l1 : Int32) (l2 : Int32) (z : AH) {r : Int32} (h : fX10_deedOf a0 l1 l2 z = some r) : Met l yX10_deedOf (wy yX10_deedOf cX10_deedOf 3 (some .int)) rmX10_deedOf (Pz G [.ref (gB G + a0), .int l1, .int l2] z) (Qi G r z) 0 0 (AA G) := by
  refine wz_ent (own := RX10) (by decide +kernel) rfl (fun p e s m below meth c ls C hlk hr hin hW hl => ?_) (Nat.le_of_ble_eq_true rfl)
  have hl : lv_has ls 3 [(0, .ref (gB G + a0)), (1, .int l1), (2, .int l2)] := hl
  have hx := C.1
  have hb := C.2.1
  unfold fX10_deedOf at h
  obtain ⟨-, h⟩ := ck h
  refine lv_aload_n hx hb dX10_deedOf_0 rfl (lv_at hl 0 rfl) ?_
  obtain ⟨b1, hg, h⟩ := ob h
  refine wz_gN C hW flX10_29 hg dX10_deedOf_1 ?_
  refine lv_bipush (v := 121) hx hb dX10_deedOf_4 (by decide) ?_
  refine lv_aload_n hx hb dX10_deedOf_6 rfl (lv_at hl 0 rfl) ?_
  obtain ⟨x7, hg, h⟩ := ob h
  refine wz_gI C hW flX10_333 hg dX10_deedOf_7 ?_
  refine lv_imul hx hb dX10_deedOf_10 ?_
  refine lv_iconst (v := 1) hx hb dX10_deedOf_11 (by decide) ?_
  refine lv_iadd hx hb dX10_deedOf_12 ?_
  refine lv_iconst (v := 3) hx hb dX10_deedOf_13 (by decide) ?_
  refine lv_iload_n hx hb dX10_deedOf_14 rfl (lv_at hl 1 rfl) ?_
  refine lv_imul hx hb dX10_deedOf_15 ?_
  refine lv_iadd hx hb dX10_deedOf_16 ?_
  refine lv_iload_n hx hb dX10_deedOf_17 rfl (lv_at hl 2 rfl) ?_
  refine lv_iadd hx hb dX10_deedOf_18 ?_
  obtain ⟨x19, hg, h⟩ := ob h
  refine wz_ald C hW hg dX10_deedOf_19 ?_
  exact wz_iretE C hlk hr (Option.some.inj h) rfl hW dX10_deedOf_20
theorem dX10_hasYear_0 : decode cX10_hasYear 0 = .ok (.aload_n 0, 1) := by decide +kernel
theorem dX10_hasYear_1 : decode cX10_hasYear 1 = .ok (.iload_n 1, 1) := by decide +kernel
theorem dX10_hasYear_2 : decode cX10_hasYear 2 = .ok (.putfield 333, 3) := by decide +kernel
theorem dX10_hasYear_5 : decode cX10_hasYear 5 = .ok (.aload_n 0, 1) := by decide +kernel
theorem dX10_hasYear_6 : decode cX10_hasYear 6 = .ok (.iconst 1, 1) := by decide +kernel
theorem dX10_hasYear_7 : decode cX10_hasYear 7 = .ok (.iload_n 1, 1) := by decide +kernel
theorem dX10_hasYear_8 : decode cX10_hasYear 8 = .ok (.invokevirtual 260, 3) := by decide +kernel
theorem dX10_hasYear_11 : decode cX10_hasYear 11 = .ok (.ireturn, 1) := by decide +kernel
abbrev rmX10_hasYear : Room := { frames := 2, cells := 0, slots := 0, locals := 44 }
def fX10_hasYear (a0 : Nat) (l1 : Int32) (z : AH) : Option (Int32 × AH) :=
  if isO 9 z a0 = true then
    (pF 9 38 z a0 (.int l1)).bind fun z2 =>
    (fX10_is a0 (1 : Int32) l1 z2).bind fun x8 =>
    if x8 = 0 ∨ x8 = 1 then some (x8, z2) else none
  else none
set_option maxHeartbeats 4000000 in
set_option maxRecDepth 100000 in
theorem ctX10_hasYear (l : Launch) (G : GW) (a0 : Nat) (l1 : Int32) (z : AH) {r : Int32} {z' : AH} (h : fX10_hasYear a0 l1 z = some (r, z')) : Met l yX10_hasYear (wy yX10_hasYear cX10_hasYear 2 (some .boolean)) rmX10_hasYear (Pz G [.ref (gB G + a0), .int l1] z) (Qi G r z') 0 0 (AA G) := by
  refine wz_ent (own := RX10) (by decide +kernel) rfl (fun p e s m below meth c ls C hlk hr hin hW hl => ?_) (Nat.le_of_ble_eq_true rfl)
  have hl : lv_has ls 2 [(0, .ref (gB G + a0)), (1, .int l1)] := hl
  have hx := C.1
  have hb := C.2.1
  unfold fX10_hasYear at h
  obtain ⟨-, h⟩ := ck h
  refine lv_aload_n hx hb dX10_hasYear_0 rfl (lv_at hl 0 rfl) ?_
  refine lv_iload_n hx hb dX10_hasYear_1 rfl (lv_at hl 1 rfl) ?_
  obtain ⟨z2, hg, h⟩ := ob h
  refine wz_put (v := (.int l1)) C hW flX10_333 rfl rfl hg dX10_hasYear_2 (fun H locs hW => ?_)
  refine lv_aload_n hx hb dX10_hasYear_5 rfl (lv_at hl 0 rfl) ?_
  refine lv_iconst (v := 1) hx hb dX10_hasYear_6 (by decide) ?_
  refine lv_iload_n hx hb dX10_hasYear_7 rfl (lv_at hl 1 rfl) ?_
  obtain ⟨x8, hq, h⟩ := ob h
  refine wz_rI (c' := 0) (s' := 0) hW (wz_runV (rest := []) C hW lVX10_260 (ck hq).1 rfl (ctX10_is l G a0 (1 : Int32) l1 z2 hq) ⟨⟨rfl, rfl⟩, Nat.le_of_ble_eq_true rfl, Nat.le_of_ble_eq_true rfl⟩ rfl hl.1 rfl (Nat.le_of_ble_eq_true rfl) dX10_hasYear_8 ⟨Nat.le_of_ble_eq_true rfl, Nat.le_of_ble_eq_true rfl⟩) rfl rfl (fun H locs hW => ?_)
  obtain ⟨h01, h⟩ := ck h
  exact wz_zretE C hlk hr h01 (so2 h).1 (so2 h).2 hW dX10_hasYear_11
theorem dX10_deed_0 : decode cX10_deed 0 = .ok (.aload_n 0, 1) := by decide +kernel
theorem dX10_deed_1 : decode cX10_deed 1 = .ok (.iconst 0, 1) := by decide +kernel
theorem dX10_deed_2 : decode cX10_deed 2 = .ok (.putfield 81, 3) := by decide +kernel
theorem dX10_deed_5 : decode cX10_deed 5 = .ok (.aload_n 0, 1) := by decide +kernel
theorem dX10_deed_6 : decode cX10_deed 6 = .ok (.iload_n 1, 1) := by decide +kernel
theorem dX10_deed_7 : decode cX10_deed 7 = .ok (.invokevirtual 336, 3) := by decide +kernel
theorem dX10_deed_10 : decode cX10_deed 10 = .ok (.ifCond .ne 6, 3) := by decide +kernel
theorem dX10_deed_13 : decode cX10_deed 13 = .ok (.bipush (-2), 2) := by decide +kernel
theorem dX10_deed_15 : decode cX10_deed 15 = .ok (.ireturn, 1) := by decide +kernel
theorem dX10_deed_16 : decode cX10_deed 16 = .ok (.iload_n 2, 1) := by decide +kernel
theorem dX10_deed_17 : decode cX10_deed 17 = .ok (.iconst (-1), 1) := by decide +kernel
theorem dX10_deed_18 : decode cX10_deed 18 = .ok (.if_icmp .ne 17, 3) := by decide +kernel
theorem dX10_deed_21 : decode cX10_deed 21 = .ok (.iload_n 3, 1) := by decide +kernel
theorem dX10_deed_22 : decode cX10_deed 22 = .ok (.ifCond .ne 10, 3) := by decide +kernel
theorem dX10_deed_25 : decode cX10_deed 25 = .ok (.aload_n 0, 1) := by decide +kernel
theorem dX10_deed_26 : decode cX10_deed 26 = .ok (.invokevirtual 339, 3) := by decide +kernel
theorem dX10_deed_29 : decode cX10_deed 29 = .ok (.goto 5, 3) := by decide +kernel
theorem dX10_deed_32 : decode cX10_deed 32 = .ok (.bipush (-2), 2) := by decide +kernel
theorem dX10_deed_34 : decode cX10_deed 34 = .ok (.ireturn, 1) := by decide +kernel
theorem dX10_deed_35 : decode cX10_deed 35 = .ok (.iload_n 2, 1) := by decide +kernel
theorem dX10_deed_36 : decode cX10_deed 36 = .ok (.iconst 0, 1) := by decide +kernel
theorem dX10_deed_37 : decode cX10_deed 37 = .ok (.aload_n 0, 1) := by decide +kernel
theorem dX10_deed_38 : decode cX10_deed 38 = .ok (.invokevirtual 339, 3) := by decide +kernel
theorem dX10_deed_41 : decode cX10_deed 41 = .ok (.iconst 1, 1) := by decide +kernel
theorem dX10_deed_42 : decode cX10_deed 42 = .ok (.isub, 1) := by decide +kernel
theorem dX10_deed_43 : decode cX10_deed 43 = .ok (.invokestatic 93, 3) := by decide +kernel
theorem dX10_deed_46 : decode cX10_deed 46 = .ok (.ifCond .eq 21, 3) := by decide +kernel
theorem dX10_deed_49 : decode cX10_deed 49 = .ok (.iload_n 3, 1) := by decide +kernel
theorem dX10_deed_50 : decode cX10_deed 50 = .ok (.iconst 0, 1) := by decide +kernel
theorem dX10_deed_51 : decode cX10_deed 51 = .ok (.iconst 2, 1) := by decide +kernel
theorem dX10_deed_52 : decode cX10_deed 52 = .ok (.invokestatic 93, 3) := by decide +kernel
theorem dX10_deed_55 : decode cX10_deed 55 = .ok (.ifCond .eq 12, 3) := by decide +kernel
theorem dX10_deed_58 : decode cX10_deed 58 = .ok (.aload_n 0, 1) := by decide +kernel
theorem dX10_deed_59 : decode cX10_deed 59 = .ok (.iload_n 2, 1) := by decide +kernel
theorem dX10_deed_60 : decode cX10_deed 60 = .ok (.iload_n 3, 1) := by decide +kernel
theorem dX10_deed_61 : decode cX10_deed 61 = .ok (.invokevirtual 342, 3) := by decide +kernel
theorem dX10_deed_64 : decode cX10_deed 64 = .ok (.goto 5, 3) := by decide +kernel
theorem dX10_deed_67 : decode cX10_deed 67 = .ok (.bipush (-2), 2) := by decide +kernel
theorem dX10_deed_69 : decode cX10_deed 69 = .ok (.ireturn, 1) := by decide +kernel
theorem cdX10_hasYear : Cond.code yX10_hasYear cX10_hasYear 2 (some .boolean) ∈ tz := tc6 235 rfl rfl
theorem lVX10_336 : LV RX10 336 yX10_hasYear cX10_hasYear 2 (some .boolean) 1 := ⟨tw 1551 (by decide +kernel) rfl, tw 1553 (by decide +kernel) rfl, tw 68 (by decide +kernel) rfl, tw 128 (by decide +kernel) rfl, cdX10_hasYear, ⟨by decide +kernel, by decide +kernel, by decide +kernel⟩⟩
theorem cdX10_deeds : Cond.code yX10_deeds cX10_deeds 1 (some .int) ∈ tz := tc6 239 rfl rfl
theorem lVX10_339 : LV RX10 339 yX10_deeds cX10_deeds 1 (some .int) 0 := ⟨tw 1555 (by decide +kernel) rfl, tw 1557 (by decide +kernel) rfl, tw 69 (by decide +kernel) rfl, tw 128 (by decide +kernel) rfl, cdX10_deeds, ⟨by decide +kernel, by decide +kernel, by decide +kernel⟩⟩
theorem cdX10_deedOf : Cond.code yX10_deedOf cX10_deedOf 3 (some .int) ∈ tz := tc7 3 rfl rfl
theorem lVX10_342 : LV RX10 342 yX10_deedOf cX10_deedOf 3 (some .int) 2 := ⟨tw 1559 (by decide +kernel) rfl, tw 1561 (by decide +kernel) rfl, tw 70 (by decide +kernel) rfl, tw 128 (by decide +kernel) rfl, cdX10_deedOf, ⟨by decide +kernel, by decide +kernel, by decide +kernel⟩⟩
abbrev rmX10_deed : Room := { frames := 3, cells := 0, slots := 0, locals := 65 }
def fX10_deed (a0 : Nat) (l1 : Int32) (l2 : Int32) (l3 : Int32) (z : AH) : Option (Int32 × AH) :=
  if isO 9 z a0 = true then
    (pF 9 0 z a0 (.int (0 : Int32))).bind fun z2 =>
    b2 (fX10_hasYear a0 l1 z2) fun x7 z7 =>
    if x7 = (0 : Int32) then (
      some ((-2 : Int32), z7)
    ) else (
      if l2 = (-1 : Int32) then (
        if l3 = (0 : Int32) then (
          (fX10_deeds a0 z7).bind fun x26 =>
          some (x26, z7)
        ) else (
          some ((-2 : Int32), z7)
        )
      ) else (
        (fX10_deeds a0 z7).bind fun x38 =>
        if (fX10_in l2 (0 : Int32) (x38 - (1 : Int32))) = (0 : Int32) then (
          some ((-2 : Int32), z7)
        ) else (
          if (fX10_in l3 (0 : Int32) (2 : Int32)) = (0 : Int32) then (
            some ((-2 : Int32), z7)
          ) else (
            (fX10_deedOf a0 l2 l3 z7).bind fun x61 =>
            some (x61, z7)
          )
        )
      )
    )
  else none
set_option maxHeartbeats 4000000 in
set_option maxRecDepth 100000 in
theorem ctX10_deed (l : Launch) (G : GW) (a0 : Nat) (l1 : Int32) (l2 : Int32) (l3 : Int32) (z : AH) {r : Int32} {z' : AH} (h : fX10_deed a0 l1 l2 l3 z = some (r, z')) : Met l yX10_deed (wy yX10_deed cX10_deed 4 (some .int)) rmX10_deed (Pz G [.ref (gB G + a0), .int l1, .int l2, .int l3] z) (Qi G r z') 0 0 (AA G) := by
  refine wz_ent (own := RX10) (by decide +kernel) rfl (fun p e s m below meth c ls C hlk hr hin hW hl => ?_) (Nat.le_of_ble_eq_true rfl)
  have hl : lv_has ls 4 [(0, .ref (gB G + a0)), (1, .int l1), (2, .int l2), (3, .int l3)] := hl
  have hx := C.1
  have hb := C.2.1
  unfold fX10_deed at h
  obtain ⟨-, h⟩ := ck h
  refine lv_aload_n hx hb dX10_deed_0 rfl (lv_at hl 0 rfl) ?_
  refine lv_iconst (v := 0) hx hb dX10_deed_1 (by decide) ?_
  obtain ⟨z2, hg, h⟩ := ob h
  refine wz_put (v := (.int (0 : Int32))) C hW flX10_81 rfl rfl hg dX10_deed_2 (fun H locs hW => ?_)
  refine lv_aload_n hx hb dX10_deed_5 rfl (lv_at hl 0 rfl) ?_
  refine lv_iload_n hx hb dX10_deed_6 rfl (lv_at hl 1 rfl) ?_
  obtain ⟨x7, z7, hq, h⟩ := ob2 h
  refine wz_rI (c' := 0) (s' := 0) hW (wz_runV (rest := []) C hW lVX10_336 (ck hq).1 rfl (ctX10_hasYear l G a0 l1 z2 hq) ⟨⟨rfl, rfl⟩, Nat.le_of_ble_eq_true rfl, Nat.le_of_ble_eq_true rfl⟩ rfl hl.1 rfl (Nat.le_of_ble_eq_true rfl) dX10_deed_7 ⟨Nat.le_of_ble_eq_true rfl, Nat.le_of_ble_eq_true rfl⟩) rfl rfl (fun H locs hW => ?_)
  refine lv_if_ne (tgt := 16) hx hb dX10_deed_10 (by decide) (fun c10 => ?_) (fun c10 => ?_)
  · have h := ite_f c10 h
    refine lv_iload_n hx hb dX10_deed_16 rfl (lv_at hl 2 rfl) ?_
    refine lv_iconst (v := -1) hx hb dX10_deed_17 (by decide) ?_
    refine lv_icmp_ne (tgt := 35) hx hb dX10_deed_18 (by decide) (fun c18 => ?_) (fun c18 => ?_)
    · have h := ite_f c18 h
      refine lv_iload_n hx hb dX10_deed_35 rfl (lv_at hl 2 rfl) ?_
      refine lv_iconst (v := 0) hx hb dX10_deed_36 (by decide) ?_
      refine lv_aload_n hx hb dX10_deed_37 rfl (lv_at hl 0 rfl) ?_
      obtain ⟨x38, hq, h⟩ := ob h
      refine wz_rI (c' := 0) (s' := 0) hW (wz_runV (rest := [.int (0 : Int32), .int l2]) C hW lVX10_339 (ck hq).1 rfl (ctX10_deeds l G a0 z7 hq) ⟨⟨rfl, rfl⟩, Nat.le_of_ble_eq_true rfl, Nat.le_of_ble_eq_true rfl⟩ rfl hl.1 rfl (Nat.le_of_ble_eq_true rfl) dX10_deed_38 ⟨Nat.le_of_ble_eq_true rfl, Nat.le_of_ble_eq_true rfl⟩) rfl rfl (fun H locs hW => ?_)
      refine lv_iconst (v := 1) hx hb dX10_deed_41 (by decide) ?_
      refine lv_isub hx hb dX10_deed_42 ?_
      refine wz_rI (c' := 0) (s' := 0) hW (wz_runS (rest := []) C hW lTX10_93 (ctX10_in l G l2 (0 : Int32) (x38 - (1 : Int32)) z7 rfl) ⟨⟨rfl, rfl⟩, Nat.le_of_ble_eq_true rfl, Nat.le_of_ble_eq_true rfl⟩ rfl hl.1 rfl (Nat.le_of_ble_eq_true rfl) dX10_deed_43 ⟨Nat.le_of_ble_eq_true rfl, Nat.le_of_ble_eq_true rfl⟩) rfl rfl (fun H locs hW => ?_)
      refine lv_if_eq (tgt := 67) hx hb dX10_deed_46 (by decide) (fun c46 => ?_) (fun c46 => ?_)
      · have h := ite_t c46 h
        refine lv_bipush (v := -2) hx hb dX10_deed_67 (by decide) ?_
        exact wz_iretE C hlk hr (so2 h).1 (so2 h).2 hW dX10_deed_69
      · have h := ite_f c46 h
        refine lv_iload_n hx hb dX10_deed_49 rfl (lv_at hl 3 rfl) ?_
        refine lv_iconst (v := 0) hx hb dX10_deed_50 (by decide) ?_
        refine lv_iconst (v := 2) hx hb dX10_deed_51 (by decide) ?_
        refine wz_rI (c' := 0) (s' := 0) hW (wz_runS (rest := []) C hW lTX10_93 (ctX10_in l G l3 (0 : Int32) (2 : Int32) z7 rfl) ⟨⟨rfl, rfl⟩, Nat.le_of_ble_eq_true rfl, Nat.le_of_ble_eq_true rfl⟩ rfl hl.1 rfl (Nat.le_of_ble_eq_true rfl) dX10_deed_52 ⟨Nat.le_of_ble_eq_true rfl, Nat.le_of_ble_eq_true rfl⟩) rfl rfl (fun H locs hW => ?_)
        refine lv_if_eq (tgt := 67) hx hb dX10_deed_55 (by decide) (fun c55 => ?_) (fun c55 => ?_)
        · have h := ite_t c55 h
          refine lv_bipush (v := -2) hx hb dX10_deed_67 (by decide) ?_
          exact wz_iretE C hlk hr (so2 h).1 (so2 h).2 hW dX10_deed_69
        · have h := ite_f c55 h
          refine lv_aload_n hx hb dX10_deed_58 rfl (lv_at hl 0 rfl) ?_
          refine lv_iload_n hx hb dX10_deed_59 rfl (lv_at hl 2 rfl) ?_
          refine lv_iload_n hx hb dX10_deed_60 rfl (lv_at hl 3 rfl) ?_
          obtain ⟨x61, hq, h⟩ := ob h
          refine wz_rI (c' := 0) (s' := 0) hW (wz_runV (rest := []) C hW lVX10_342 (ck hq).1 rfl (ctX10_deedOf l G a0 l2 l3 z7 hq) ⟨⟨rfl, rfl⟩, Nat.le_of_ble_eq_true rfl, Nat.le_of_ble_eq_true rfl⟩ rfl hl.1 rfl (Nat.le_of_ble_eq_true rfl) dX10_deed_61 ⟨Nat.le_of_ble_eq_true rfl, Nat.le_of_ble_eq_true rfl⟩) rfl rfl (fun H locs hW => ?_)
          refine lv_goto (tgt := 69) hx hb dX10_deed_64 (by decide) ?_
          exact wz_iretE C hlk hr (so2 h).1 (so2 h).2 hW dX10_deed_69
    · have h := ite_t c18 h
      refine lv_iload_n hx hb dX10_deed_21 rfl (lv_at hl 3 rfl) ?_
      refine lv_if_ne (tgt := 32) hx hb dX10_deed_22 (by decide) (fun c22 => ?_) (fun c22 => ?_)
      · have h := ite_f c22 h
        refine lv_bipush (v := -2) hx hb dX10_deed_32 (by decide) ?_
        exact wz_iretE C hlk hr (so2 h).1 (so2 h).2 hW dX10_deed_34
      · have h := ite_t c22 h
        refine lv_aload_n hx hb dX10_deed_25 rfl (lv_at hl 0 rfl) ?_
        obtain ⟨x26, hq, h⟩ := ob h
        refine wz_rI (c' := 0) (s' := 0) hW (wz_runV (rest := []) C hW lVX10_339 (ck hq).1 rfl (ctX10_deeds l G a0 z7 hq) ⟨⟨rfl, rfl⟩, Nat.le_of_ble_eq_true rfl, Nat.le_of_ble_eq_true rfl⟩ rfl hl.1 rfl (Nat.le_of_ble_eq_true rfl) dX10_deed_26 ⟨Nat.le_of_ble_eq_true rfl, Nat.le_of_ble_eq_true rfl⟩) rfl rfl (fun H locs hW => ?_)
        refine lv_goto (tgt := 34) hx hb dX10_deed_29 (by decide) ?_
        exact wz_iretE C hlk hr (so2 h).1 (so2 h).2 hW dX10_deed_34
  · have h := ite_t c10 h
    refine lv_bipush (v := -2) hx hb dX10_deed_13 (by decide) ?_
    exact wz_iretE C hlk hr (so2 h).1 (so2 h).2 hW dX10_deed_15
theorem dX10_looks_0 : decode cX10_looks 0 = .ok (.aload_n 0, 1) := by decide +kernel
theorem dX10_looks_1 : decode cX10_looks 1 = .ok (.iload_n 1, 1) := by decide +kernel
theorem dX10_looks_2 : decode cX10_looks 2 = .ok (.invokevirtual 345, 3) := by decide +kernel
theorem dX10_looks_5 : decode cX10_looks 5 = .ok (.ifCond .eq 27, 3) := by decide +kernel
theorem dX10_looks_8 : decode cX10_looks 8 = .ok (.aload_n 0, 1) := by decide +kernel
theorem dX10_looks_9 : decode cX10_looks 9 = .ok (.iload_n 2, 1) := by decide +kernel
theorem dX10_looks_10 : decode cX10_looks 10 = .ok (.invokevirtual 348, 3) := by decide +kernel
theorem dX10_looks_13 : decode cX10_looks 13 = .ok (.ifCond .eq 19, 3) := by decide +kernel
theorem dX10_looks_16 : decode cX10_looks 16 = .ok (.aload_n 0, 1) := by decide +kernel
theorem dX10_looks_17 : decode cX10_looks 17 = .ok (.getfield 291, 3) := by decide +kernel
theorem dX10_looks_20 : decode cX10_looks 20 = .ok (.aload_n 0, 1) := by decide +kernel
theorem dX10_looks_21 : decode cX10_looks 21 = .ok (.getfield 297, 3) := by decide +kernel
theorem dX10_looks_24 : decode cX10_looks 24 = .ok (.ior, 1) := by decide +kernel
theorem dX10_looks_25 : decode cX10_looks 25 = .ok (.iload_n 1, 1) := by decide +kernel
theorem dX10_looks_26 : decode cX10_looks 26 = .ok (.invokestatic 85, 3) := by decide +kernel
theorem dX10_looks_29 : decode cX10_looks 29 = .ok (.ifCond .eq 5, 3) := by decide +kernel
theorem dX10_looks_32 : decode cX10_looks 32 = .ok (.iconst 0, 1) := by decide +kernel
theorem dX10_looks_33 : decode cX10_looks 33 = .ok (.ireturn, 1) := by decide +kernel
theorem dX10_looks_34 : decode cX10_looks 34 = .ok (.aload_n 0, 1) := by decide +kernel
theorem dX10_looks_35 : decode cX10_looks 35 = .ok (.iload_n 1, 1) := by decide +kernel
theorem dX10_looks_36 : decode cX10_looks 36 = .ok (.iload_n 2, 1) := by decide +kernel
theorem dX10_looks_37 : decode cX10_looks 37 = .ok (.invokevirtual 351, 3) := by decide +kernel
theorem dX10_looks_40 : decode cX10_looks 40 = .ok (.iconst 1, 1) := by decide +kernel
theorem dX10_looks_41 : decode cX10_looks 41 = .ok (.ireturn, 1) := by decide +kernel
theorem cdX10_isCouple : Cond.code yX10_isCouple cX10_isCouple 2 (some .boolean) ∈ tz := tc7 31 rfl rfl
theorem lVX10_345 : LV RX10 345 yX10_isCouple cX10_isCouple 2 (some .boolean) 1 := ⟨tw 1587 (by decide +kernel) rfl, tw 1589 (by decide +kernel) rfl, tw 76 (by decide +kernel) rfl, tw 128 (by decide +kernel) rfl, cdX10_isCouple, ⟨by decide +kernel, by decide +kernel, by decide +kernel⟩⟩
theorem cdX10_isThere : Cond.code yX10_isThere cX10_isThere 2 (some .boolean) ∈ tz := tc7 35 rfl rfl
theorem lVX10_348 : LV RX10 348 yX10_isThere cX10_isThere 2 (some .boolean) 1 := ⟨tw 1591 (by decide +kernel) rfl, tw 1593 (by decide +kernel) rfl, tw 77 (by decide +kernel) rfl, tw 128 (by decide +kernel) rfl, cdX10_isThere, ⟨by decide +kernel, by decide +kernel, by decide +kernel⟩⟩
theorem cdX10_sees : Cond.code yX10_sees cX10_sees 3 none ∈ tz := tc7 43 rfl rfl
theorem lVX10_351 : LV RX10 351 yX10_sees cX10_sees 3 none 2 := ⟨tw 1599 (by decide +kernel) rfl, tw 1601 (by decide +kernel) rfl, tw 79 (by decide +kernel) rfl, tw 128 (by decide +kernel) rfl, cdX10_sees, ⟨by decide +kernel, by decide +kernel, by decide +kernel⟩⟩
abbrev rmX10_looks : Room := { frames := 3, cells := 0, slots := 0, locals := 64 }
def fX10_looks (a0 : Nat) (l1 : Int32) (l2 : Int32) (z : AH) : Option (Int32 × AH) :=
  if isO 9 z a0 = true then
    (fX10_isCouple a0 l1 z).bind fun x2 =>
    if x2 = (0 : Int32) then (
      some ((0 : Int32), z)
    ) else (
      (fX10_isThere a0 l2 z).bind fun x10 =>
      if x10 = (0 : Int32) then (
        some ((0 : Int32), z)
      ) else (
        (gI 9 32 z a0).bind fun x17 =>
        (gI 9 34 z a0).bind fun x21 =>
        if (fX10_has (x17 ||| x21) l1) = (0 : Int32) then (
          (fX10_sees a0 l1 l2 z).bind fun z37 =>
          some ((1 : Int32), z37)
        ) else (
          some ((0 : Int32), z)
        )
      )
    )
  else none
set_option maxHeartbeats 4000000 in
set_option maxRecDepth 100000 in
theorem ctX10_looks (l : Launch) (G : GW) (a0 : Nat) (l1 : Int32) (l2 : Int32) (z : AH) {r : Int32} {z' : AH} (h : fX10_looks a0 l1 l2 z = some (r, z')) : Met l yX10_looks (wy yX10_looks cX10_looks 3 (some .boolean)) rmX10_looks (Pz G [.ref (gB G + a0), .int l1, .int l2] z) (Qi G r z') 0 0 (AA G) := by
  refine wz_ent (own := RX10) (by decide +kernel) rfl (fun p e s m below meth c ls C hlk hr hin hW hl => ?_) (Nat.le_of_ble_eq_true rfl)
  have hl : lv_has ls 3 [(0, .ref (gB G + a0)), (1, .int l1), (2, .int l2)] := hl
  have hx := C.1
  have hb := C.2.1
  unfold fX10_looks at h
  obtain ⟨-, h⟩ := ck h
  refine lv_aload_n hx hb dX10_looks_0 rfl (lv_at hl 0 rfl) ?_
  refine lv_iload_n hx hb dX10_looks_1 rfl (lv_at hl 1 rfl) ?_
  obtain ⟨x2, hq, h⟩ := ob h
  refine wz_rI (c' := 0) (s' := 0) hW (wz_runV (rest := []) C hW lVX10_345 (ck hq).1 rfl (ctX10_isCouple l G a0 l1 z hq) ⟨⟨rfl, rfl⟩, Nat.le_of_ble_eq_true rfl, Nat.le_of_ble_eq_true rfl⟩ rfl hl.1 rfl (Nat.le_of_ble_eq_true rfl) dX10_looks_2 ⟨Nat.le_of_ble_eq_true rfl, Nat.le_of_ble_eq_true rfl⟩) rfl rfl (fun H locs hW => ?_)
  refine lv_if_eq (tgt := 32) hx hb dX10_looks_5 (by decide) (fun c5 => ?_) (fun c5 => ?_)
  · have h := ite_t c5 h
    refine lv_iconst (v := 0) hx hb dX10_looks_32 (by decide) ?_
    exact wz_zretE C hlk hr (Or.inl rfl) (so2 h).1 (so2 h).2 hW dX10_looks_33
  · have h := ite_f c5 h
    refine lv_aload_n hx hb dX10_looks_8 rfl (lv_at hl 0 rfl) ?_
    refine lv_iload_n hx hb dX10_looks_9 rfl (lv_at hl 2 rfl) ?_
    obtain ⟨x10, hq, h⟩ := ob h
    refine wz_rI (c' := 0) (s' := 0) hW (wz_runV (rest := []) C hW lVX10_348 (ck hq).1 rfl (ctX10_isThere l G a0 l2 z hq) ⟨⟨rfl, rfl⟩, Nat.le_of_ble_eq_true rfl, Nat.le_of_ble_eq_true rfl⟩ rfl hl.1 rfl (Nat.le_of_ble_eq_true rfl) dX10_looks_10 ⟨Nat.le_of_ble_eq_true rfl, Nat.le_of_ble_eq_true rfl⟩) rfl rfl (fun H locs hW => ?_)
    refine lv_if_eq (tgt := 32) hx hb dX10_looks_13 (by decide) (fun c13 => ?_) (fun c13 => ?_)
    · have h := ite_t c13 h
      refine lv_iconst (v := 0) hx hb dX10_looks_32 (by decide) ?_
      exact wz_zretE C hlk hr (Or.inl rfl) (so2 h).1 (so2 h).2 hW dX10_looks_33
    · have h := ite_f c13 h
      refine lv_aload_n hx hb dX10_looks_16 rfl (lv_at hl 0 rfl) ?_
      obtain ⟨x17, hg, h⟩ := ob h
      refine wz_gI C hW flX10_291 hg dX10_looks_17 ?_
      refine lv_aload_n hx hb dX10_looks_20 rfl (lv_at hl 0 rfl) ?_
      obtain ⟨x21, hg, h⟩ := ob h
      refine wz_gI C hW flX10_297 hg dX10_looks_21 ?_
      refine lv_ior hx hb dX10_looks_24 ?_
      refine lv_iload_n hx hb dX10_looks_25 rfl (lv_at hl 1 rfl) ?_
      refine wz_rI (c' := 0) (s' := 0) hW (wz_runS (rest := []) C hW lTX10_85 (ctX10_has l G (x17 ||| x21) l1 z rfl) ⟨⟨rfl, rfl⟩, Nat.le_of_ble_eq_true rfl, Nat.le_of_ble_eq_true rfl⟩ rfl hl.1 rfl (Nat.le_of_ble_eq_true rfl) dX10_looks_26 ⟨Nat.le_of_ble_eq_true rfl, Nat.le_of_ble_eq_true rfl⟩) rfl rfl (fun H locs hW => ?_)
      refine lv_if_eq (tgt := 34) hx hb dX10_looks_29 (by decide) (fun c29 => ?_) (fun c29 => ?_)
      · have h := ite_t c29 h
        refine lv_aload_n hx hb dX10_looks_34 rfl (lv_at hl 0 rfl) ?_
        refine lv_iload_n hx hb dX10_looks_35 rfl (lv_at hl 1 rfl) ?_
        refine lv_iload_n hx hb dX10_looks_36 rfl (lv_at hl 2 rfl) ?_
        obtain ⟨z37, hq, h⟩ := ob h
        refine wz_rV (c' := 0) (s' := 0) hW (wz_runV (rest := []) C hW lVX10_351 (ck hq).1 rfl (ctX10_sees l G a0 l1 l2 z hq) ⟨⟨rfl, rfl⟩, Nat.le_of_ble_eq_true rfl, Nat.le_of_ble_eq_true rfl⟩ rfl hl.1 rfl (Nat.le_of_ble_eq_true rfl) dX10_looks_37 ⟨Nat.le_of_ble_eq_true rfl, Nat.le_of_ble_eq_true rfl⟩) rfl rfl (fun H locs hW => ?_)
        refine lv_iconst (v := 1) hx hb dX10_looks_40 (by decide) ?_
        exact wz_zretE C hlk hr (Or.inr rfl) (so2 h).1 (so2 h).2 hW dX10_looks_41
      · have h := ite_f c29 h
        refine lv_iconst (v := 0) hx hb dX10_looks_32 (by decide) ?_
        exact wz_zretE C hlk hr (Or.inl rfl) (so2 h).1 (so2 h).2 hW dX10_looks_33
theorem dX10_turns_0 : decode cX10_turns 0 = .ok (.aload_n 0, 1) := by decide +kernel
theorem dX10_turns_1 : decode cX10_turns 1 = .ok (.iload_n 1, 1) := by decide +kernel
theorem dX10_turns_2 : decode cX10_turns 2 = .ok (.invokevirtual 345, 3) := by decide +kernel
theorem dX10_turns_5 : decode cX10_turns 5 = .ok (.ifCond .eq 15, 3) := by decide +kernel
theorem dX10_turns_8 : decode cX10_turns 8 = .ok (.aload_n 0, 1) := by decide +kernel
theorem dX10_turns_9 : decode cX10_turns 9 = .ok (.getfield 291, 3) := by decide +kernel
theorem dX10_turns_12 : decode cX10_turns 12 = .ok (.iload_n 1, 1) := by decide +kernel
theorem dX10_turns_13 : decode cX10_turns 13 = .ok (.invokestatic 85, 3) := by decide +kernel
theorem dX10_turns_16 : decode cX10_turns 16 = .ok (.iload_n 2, 1) := by decide +kernel
theorem dX10_turns_17 : decode cX10_turns 17 = .ok (.if_icmp .eq 5, 3) := by decide +kernel
theorem dX10_turns_20 : decode cX10_turns 20 = .ok (.iconst 0, 1) := by decide +kernel
theorem dX10_turns_21 : decode cX10_turns 21 = .ok (.ireturn, 1) := by decide +kernel
theorem dX10_turns_22 : decode cX10_turns 22 = .ok (.aload_n 0, 1) := by decide +kernel
theorem dX10_turns_23 : decode cX10_turns 23 = .ok (.dup, 1) := by decide +kernel
theorem dX10_turns_24 : decode cX10_turns 24 = .ok (.getfield 291, 3) := by decide +kernel
theorem dX10_turns_27 : decode cX10_turns 27 = .ok (.iconst 1, 1) := by decide +kernel
theorem dX10_turns_28 : decode cX10_turns 28 = .ok (.iload_n 1, 1) := by decide +kernel
theorem dX10_turns_29 : decode cX10_turns 29 = .ok (.ishl, 1) := by decide +kernel
theorem dX10_turns_30 : decode cX10_turns 30 = .ok (.ixor, 1) := by decide +kernel
theorem dX10_turns_31 : decode cX10_turns 31 = .ok (.putfield 291, 3) := by decide +kernel
theorem dX10_turns_34 : decode cX10_turns 34 = .ok (.iconst 1, 1) := by decide +kernel
theorem dX10_turns_35 : decode cX10_turns 35 = .ok (.ireturn, 1) := by decide +kernel
abbrev rmX10_turns : Room := { frames := 2, cells := 0, slots := 0, locals := 43 }
def fX10_turns (a0 : Nat) (l1 : Int32) (l2 : Int32) (z : AH) : Option (Int32 × AH) :=
  if isO 9 z a0 = true then
    (fX10_isCouple a0 l1 z).bind fun x2 =>
    if x2 = (0 : Int32) then (
      some ((0 : Int32), z)
    ) else (
      (gI 9 32 z a0).bind fun x9 =>
      if (fX10_has x9 l1) = l2 then (
        (gI 9 32 z a0).bind fun x24 =>
        (pF 9 32 z a0 (.int (x24 ^^^ (shl (1 : Int32) l1)))).bind fun z31 =>
        some ((1 : Int32), z31)
      ) else (
        some ((0 : Int32), z)
      )
    )
  else none
set_option maxHeartbeats 4000000 in
set_option maxRecDepth 100000 in
theorem ctX10_turns (l : Launch) (G : GW) (a0 : Nat) (l1 : Int32) (l2 : Int32) (z : AH) {r : Int32} {z' : AH} (h : fX10_turns a0 l1 l2 z = some (r, z')) : Met l yX10_turns (wy yX10_turns cX10_turns 3 (some .boolean)) rmX10_turns (Pz G [.ref (gB G + a0), .int l1, .int l2] z) (Qi G r z') 0 0 (AA G) := by
  refine wz_ent (own := RX10) (by decide +kernel) rfl (fun p e s m below meth c ls C hlk hr hin hW hl => ?_) (Nat.le_of_ble_eq_true rfl)
  have hl : lv_has ls 3 [(0, .ref (gB G + a0)), (1, .int l1), (2, .int l2)] := hl
  have hx := C.1
  have hb := C.2.1
  unfold fX10_turns at h
  obtain ⟨-, h⟩ := ck h
  refine lv_aload_n hx hb dX10_turns_0 rfl (lv_at hl 0 rfl) ?_
  refine lv_iload_n hx hb dX10_turns_1 rfl (lv_at hl 1 rfl) ?_
  obtain ⟨x2, hq, h⟩ := ob h
  refine wz_rI (c' := 0) (s' := 0) hW (wz_runV (rest := []) C hW lVX10_345 (ck hq).1 rfl (ctX10_isCouple l G a0 l1 z hq) ⟨⟨rfl, rfl⟩, Nat.le_of_ble_eq_true rfl, Nat.le_of_ble_eq_true rfl⟩ rfl hl.1 rfl (Nat.le_of_ble_eq_true rfl) dX10_turns_2 ⟨Nat.le_of_ble_eq_true rfl, Nat.le_of_ble_eq_true rfl⟩) rfl rfl (fun H locs hW => ?_)
  refine lv_if_eq (tgt := 20) hx hb dX10_turns_5 (by decide) (fun c5 => ?_) (fun c5 => ?_)
  · have h := ite_t c5 h
    refine lv_iconst (v := 0) hx hb dX10_turns_20 (by decide) ?_
    exact wz_zretE C hlk hr (Or.inl rfl) (so2 h).1 (so2 h).2 hW dX10_turns_21
  · have h := ite_f c5 h
    refine lv_aload_n hx hb dX10_turns_8 rfl (lv_at hl 0 rfl) ?_
    obtain ⟨x9, hg, h⟩ := ob h
    refine wz_gI C hW flX10_291 hg dX10_turns_9 ?_
    refine lv_iload_n hx hb dX10_turns_12 rfl (lv_at hl 1 rfl) ?_
    refine wz_rI (c' := 0) (s' := 0) hW (wz_runS (rest := []) C hW lTX10_85 (ctX10_has l G x9 l1 z rfl) ⟨⟨rfl, rfl⟩, Nat.le_of_ble_eq_true rfl, Nat.le_of_ble_eq_true rfl⟩ rfl hl.1 rfl (Nat.le_of_ble_eq_true rfl) dX10_turns_13 ⟨Nat.le_of_ble_eq_true rfl, Nat.le_of_ble_eq_true rfl⟩) rfl rfl (fun H locs hW => ?_)
    refine lv_iload_n hx hb dX10_turns_16 rfl (lv_at hl 2 rfl) ?_
    refine lv_icmp_eq (tgt := 22) hx hb dX10_turns_17 (by decide) (fun c17 => ?_) (fun c17 => ?_)
    · have h := ite_t c17 h
      refine lv_aload_n hx hb dX10_turns_22 rfl (lv_at hl 0 rfl) ?_
      refine lv_dup hx hb dX10_turns_23 rfl ?_
      obtain ⟨x24, hg, h⟩ := ob h
      refine wz_gI C hW flX10_291 hg dX10_turns_24 ?_
      refine lv_iconst (v := 1) hx hb dX10_turns_27 (by decide) ?_
      refine lv_iload_n hx hb dX10_turns_28 rfl (lv_at hl 1 rfl) ?_
      refine wz_shl hx hb dX10_turns_29 ?_
      refine lv_ixor hx hb dX10_turns_30 ?_
      obtain ⟨z31, hg, h⟩ := ob h
      refine wz_put (v := (.int (x24 ^^^ (shl (1 : Int32) l1)))) C hW flX10_291 rfl rfl hg dX10_turns_31 (fun H locs hW => ?_)
      refine lv_iconst (v := 1) hx hb dX10_turns_34 (by decide) ?_
      exact wz_zretE C hlk hr (Or.inr rfl) (so2 h).1 (so2 h).2 hW dX10_turns_35
    · have h := ite_f c17 h
      refine lv_iconst (v := 0) hx hb dX10_turns_20 (by decide) ?_
      exact wz_zretE C hlk hr (Or.inl rfl) (so2 h).1 (so2 h).2 hW dX10_turns_21
theorem dX10_forges_0 : decode cX10_forges 0 = .ok (.aload_n 0, 1) := by decide +kernel
theorem dX10_forges_1 : decode cX10_forges 1 = .ok (.iload_n 1, 1) := by decide +kernel
theorem dX10_forges_2 : decode cX10_forges 2 = .ok (.invokevirtual 348, 3) := by decide +kernel
theorem dX10_forges_5 : decode cX10_forges 5 = .ok (.ifCond .ne 5, 3) := by decide +kernel
theorem dX10_forges_8 : decode cX10_forges 8 = .ok (.iconst 0, 1) := by decide +kernel
theorem dX10_forges_9 : decode cX10_forges 9 = .ok (.ireturn, 1) := by decide +kernel
theorem dX10_forges_10 : decode cX10_forges 10 = .ok (.aload_n 0, 1) := by decide +kernel
theorem dX10_forges_11 : decode cX10_forges 11 = .ok (.getfield 44, 3) := by decide +kernel
theorem dX10_forges_14 : decode cX10_forges 14 = .ok (.iload_n 1, 1) := by decide +kernel
theorem dX10_forges_15 : decode cX10_forges 15 = .ok (.bipush 99, 2) := by decide +kernel
theorem dX10_forges_17 : decode cX10_forges 17 = .ok (.iconst 2, 1) := by decide +kernel
theorem dX10_forges_18 : decode cX10_forges 18 = .ok (.aload_n 0, 1) := by decide +kernel
theorem dX10_forges_19 : decode cX10_forges 19 = .ok (.getfield 44, 3) := by decide +kernel
theorem dX10_forges_22 : decode cX10_forges 22 = .ok (.iload_n 1, 1) := by decide +kernel
theorem dX10_forges_23 : decode cX10_forges 23 = .ok (.iaload, 1) := by decide +kernel
theorem dX10_forges_24 : decode cX10_forges 24 = .ok (.imul, 1) := by decide +kernel
theorem dX10_forges_25 : decode cX10_forges 25 = .ok (.invokestatic 324, 3) := by decide +kernel
theorem dX10_forges_28 : decode cX10_forges 28 = .ok (.iastore, 1) := by decide +kernel
theorem dX10_forges_29 : decode cX10_forges 29 = .ok (.aload_n 0, 1) := by decide +kernel
theorem dX10_forges_30 : decode cX10_forges 30 = .ok (.dup, 1) := by decide +kernel
theorem dX10_forges_31 : decode cX10_forges 31 = .ok (.getfield 294, 3) := by decide +kernel
theorem dX10_forges_34 : decode cX10_forges 34 = .ok (.iconst 1, 1) := by decide +kernel
theorem dX10_forges_35 : decode cX10_forges 35 = .ok (.iload_n 1, 1) := by decide +kernel
theorem dX10_forges_36 : decode cX10_forges 36 = .ok (.ishl, 1) := by decide +kernel
theorem dX10_forges_37 : decode cX10_forges 37 = .ok (.ior, 1) := by decide +kernel
theorem dX10_forges_38 : decode cX10_forges 38 = .ok (.putfield 294, 3) := by decide +kernel
theorem dX10_forges_41 : decode cX10_forges 41 = .ok (.iconst 1, 1) := by decide +kernel
theorem dX10_forges_42 : decode cX10_forges 42 = .ok (.ireturn, 1) := by decide +kernel
abbrev rmX10_forges : Room := { frames := 3, cells := 0, slots := 0, locals := 64 }
def fX10_forges (a0 : Nat) (l1 : Int32) (z : AH) : Option (Int32 × AH) :=
  if isO 9 z a0 = true then
    (fX10_isThere a0 l1 z).bind fun x2 =>
    if x2 = (0 : Int32) then (
      some ((0 : Int32), z)
    ) else (
      (gN 9 28 z a0).bind fun b11 =>
      (gN 9 28 z a0).bind fun b19 =>
      (ixI 0 z b19 l1).bind fun x23 =>
      (stI 0 z b11 l1 (fX10_lesser (99 : Int32) ((2 : Int32) * x23))).bind fun z28 =>
      (gI 9 33 z28 a0).bind fun x31 =>
      (pF 9 33 z28 a0 (.int (x31 ||| (shl (1 : Int32) l1)))).bind fun z38 =>
      some ((1 : Int32), z38)
    )
  else none
set_option maxHeartbeats 4000000 in
set_option maxRecDepth 100000 in
theorem ctX10_forges (l : Launch) (G : GW) (a0 : Nat) (l1 : Int32) (z : AH) {r : Int32} {z' : AH} (h : fX10_forges a0 l1 z = some (r, z')) : Met l yX10_forges (wy yX10_forges cX10_forges 2 (some .boolean)) rmX10_forges (Pz G [.ref (gB G + a0), .int l1] z) (Qi G r z') 0 0 (AA G) := by
  refine wz_ent (own := RX10) (by decide +kernel) rfl (fun p e s m below meth c ls C hlk hr hin hW hl => ?_) (Nat.le_of_ble_eq_true rfl)
  have hl : lv_has ls 2 [(0, .ref (gB G + a0)), (1, .int l1)] := hl
  have hx := C.1
  have hb := C.2.1
  unfold fX10_forges at h
  obtain ⟨-, h⟩ := ck h
  refine lv_aload_n hx hb dX10_forges_0 rfl (lv_at hl 0 rfl) ?_
  refine lv_iload_n hx hb dX10_forges_1 rfl (lv_at hl 1 rfl) ?_
  obtain ⟨x2, hq, h⟩ := ob h
  refine wz_rI (c' := 0) (s' := 0) hW (wz_runV (rest := []) C hW lVX10_348 (ck hq).1 rfl (ctX10_isThere l G a0 l1 z hq) ⟨⟨rfl, rfl⟩, Nat.le_of_ble_eq_true rfl, Nat.le_of_ble_eq_true rfl⟩ rfl hl.1 rfl (Nat.le_of_ble_eq_true rfl) dX10_forges_2 ⟨Nat.le_of_ble_eq_true rfl, Nat.le_of_ble_eq_true rfl⟩) rfl rfl (fun H locs hW => ?_)
  refine lv_if_ne (tgt := 10) hx hb dX10_forges_5 (by decide) (fun c5 => ?_) (fun c5 => ?_)
  · have h := ite_f c5 h
    refine lv_aload_n hx hb dX10_forges_10 rfl (lv_at hl 0 rfl) ?_
    obtain ⟨b11, hg, h⟩ := ob h
    refine wz_gN C hW flX10_44 hg dX10_forges_11 ?_
    refine lv_iload_n hx hb dX10_forges_14 rfl (lv_at hl 1 rfl) ?_
    refine lv_bipush (v := 99) hx hb dX10_forges_15 (by decide) ?_
    refine lv_iconst (v := 2) hx hb dX10_forges_17 (by decide) ?_
    refine lv_aload_n hx hb dX10_forges_18 rfl (lv_at hl 0 rfl) ?_
    obtain ⟨b19, hg, h⟩ := ob h
    refine wz_gN C hW flX10_44 hg dX10_forges_19 ?_
    refine lv_iload_n hx hb dX10_forges_22 rfl (lv_at hl 1 rfl) ?_
    obtain ⟨x23, hg, h⟩ := ob h
    refine wz_ald C hW hg dX10_forges_23 ?_
    refine lv_imul hx hb dX10_forges_24 ?_
    refine wz_rI (c' := 0) (s' := 0) hW (wz_runS (rest := [.int l1, .ref (gB G + b11)]) C hW lTX10_324 (ctX10_lesser l G (99 : Int32) ((2 : Int32) * x23) z rfl) ⟨⟨rfl, rfl⟩, Nat.le_of_ble_eq_true rfl, Nat.le_of_ble_eq_true rfl⟩ rfl hl.1 rfl (Nat.le_of_ble_eq_true rfl) dX10_forges_25 ⟨Nat.le_of_ble_eq_true rfl, Nat.le_of_ble_eq_true rfl⟩) rfl rfl (fun H locs hW => ?_)
    obtain ⟨z28, hg, h⟩ := ob h
    refine wz_ast C hW hg dX10_forges_28 (fun H locs hW => ?_)
    refine lv_aload_n hx hb dX10_forges_29 rfl (lv_at hl 0 rfl) ?_
    refine lv_dup hx hb dX10_forges_30 rfl ?_
    obtain ⟨x31, hg, h⟩ := ob h
    refine wz_gI C hW flX10_294 hg dX10_forges_31 ?_
    refine lv_iconst (v := 1) hx hb dX10_forges_34 (by decide) ?_
    refine lv_iload_n hx hb dX10_forges_35 rfl (lv_at hl 1 rfl) ?_
    refine wz_shl hx hb dX10_forges_36 ?_
    refine lv_ior hx hb dX10_forges_37 ?_
    obtain ⟨z38, hg, h⟩ := ob h
    refine wz_put (v := (.int (x31 ||| (shl (1 : Int32) l1)))) C hW flX10_294 rfl rfl hg dX10_forges_38 (fun H locs hW => ?_)
    refine lv_iconst (v := 1) hx hb dX10_forges_41 (by decide) ?_
    exact wz_zretE C hlk hr (Or.inr rfl) (so2 h).1 (so2 h).2 hW dX10_forges_42
  · have h := ite_t c5 h
    refine lv_iconst (v := 0) hx hb dX10_forges_8 (by decide) ?_
    exact wz_zretE C hlk hr (Or.inl rfl) (so2 h).1 (so2 h).2 hW dX10_forges_9
theorem dX10_does_0 : decode cX10_does 0 = .ok (.iload_n 1, 1) := by decide +kernel
theorem dX10_does_1 : decode cX10_does 1 = .ok (.tableswitch 60 0 3 #[31, 38, 38, 54], 31) := by decide +kernel
theorem dX10_does_32 : decode cX10_does 32 = .ok (.aload_n 0, 1) := by decide +kernel
theorem dX10_does_33 : decode cX10_does 33 = .ok (.iload_n 2, 1) := by decide +kernel
theorem dX10_does_34 : decode cX10_does 34 = .ok (.iload_n 3, 1) := by decide +kernel
theorem dX10_does_35 : decode cX10_does 35 = .ok (.invokevirtual 354, 3) := by decide +kernel
theorem dX10_does_38 : decode cX10_does 38 = .ok (.ireturn, 1) := by decide +kernel
theorem dX10_does_39 : decode cX10_does 39 = .ok (.aload_n 0, 1) := by decide +kernel
theorem dX10_does_40 : decode cX10_does 40 = .ok (.iload_n 2, 1) := by decide +kernel
theorem dX10_does_41 : decode cX10_does 41 = .ok (.iload_n 1, 1) := by decide +kernel
theorem dX10_does_42 : decode cX10_does 42 = .ok (.iconst 2, 1) := by decide +kernel
theorem dX10_does_43 : decode cX10_does 43 = .ok (.if_icmp .ne 7, 3) := by decide +kernel
theorem dX10_does_46 : decode cX10_does 46 = .ok (.iconst 1, 1) := by decide +kernel
theorem dX10_does_47 : decode cX10_does 47 = .ok (.goto 4, 3) := by decide +kernel
theorem dX10_does_50 : decode cX10_does 50 = .ok (.iconst 0, 1) := by decide +kernel
theorem dX10_does_51 : decode cX10_does 51 = .ok (.invokevirtual 357, 3) := by decide +kernel
theorem dX10_does_54 : decode cX10_does 54 = .ok (.ireturn, 1) := by decide +kernel
theorem dX10_does_55 : decode cX10_does 55 = .ok (.aload_n 0, 1) := by decide +kernel
theorem dX10_does_56 : decode cX10_does 56 = .ok (.iload_n 2, 1) := by decide +kernel
theorem dX10_does_57 : decode cX10_does 57 = .ok (.invokevirtual 361, 3) := by decide +kernel
theorem dX10_does_60 : decode cX10_does 60 = .ok (.ireturn, 1) := by decide +kernel
theorem dX10_does_61 : decode cX10_does 61 = .ok (.aload_n 0, 1) := by decide +kernel
theorem dX10_does_62 : decode cX10_does 62 = .ok (.getfield 306, 3) := by decide +kernel
theorem dX10_does_65 : decode cX10_does 65 = .ok (.bipush 99, 2) := by decide +kernel
theorem dX10_does_67 : decode cX10_does 67 = .ok (.if_icmp .ne 5, 3) := by decide +kernel
theorem dX10_does_70 : decode cX10_does 70 = .ok (.iconst 0, 1) := by decide +kernel
theorem dX10_does_71 : decode cX10_does 71 = .ok (.ireturn, 1) := by decide +kernel
theorem dX10_does_72 : decode cX10_does 72 = .ok (.aload_n 0, 1) := by decide +kernel
theorem dX10_does_73 : decode cX10_does 73 = .ok (.invokevirtual 364, 3) := by decide +kernel
theorem dX10_does_76 : decode cX10_does 76 = .ok (.iconst 1, 1) := by decide +kernel
theorem dX10_does_77 : decode cX10_does 77 = .ok (.ireturn, 1) := by decide +kernel
theorem cdX10_turns : Cond.code yX10_turns cX10_turns 3 (some .boolean) ∈ tz := tc7 61 rfl rfl
theorem lVX10_357 : LV RX10 357 yX10_turns cX10_turns 3 (some .boolean) 2 := ⟨tw 1617 (by decide +kernel) rfl, tw 1619 (by decide +kernel) rfl, tw 82 (by decide +kernel) rfl, tw 128 (by decide +kernel) rfl, cdX10_turns, ⟨by decide +kernel, by decide +kernel, by decide +kernel⟩⟩
theorem cdX10_looks : Cond.code yX10_looks cX10_looks 3 (some .boolean) ∈ tz := tc7 27 rfl rfl
theorem lVX10_354 : LV RX10 354 yX10_looks cX10_looks 3 (some .boolean) 2 := ⟨tw 1583 (by decide +kernel) rfl, tw 1585 (by decide +kernel) rfl, tw 75 (by decide +kernel) rfl, tw 128 (by decide +kernel) rfl, cdX10_looks, ⟨by decide +kernel, by decide +kernel, by decide +kernel⟩⟩
theorem cdX10_forges : Cond.code yX10_forges cX10_forges 2 (some .boolean) ∈ tz := tc7 65 rfl rfl
theorem lVX10_361 : LV RX10 361 yX10_forges cX10_forges 2 (some .boolean) 1 := ⟨tw 1621 (by decide +kernel) rfl, tw 1623 (by decide +kernel) rfl, tw 83 (by decide +kernel) rfl, tw 128 (by decide +kernel) rfl, cdX10_forges, ⟨by decide +kernel, by decide +kernel, by decide +kernel⟩⟩
theorem cdX10_goesOn : Cond.code yX10_goesOn cX10_goesOn 2 none ∈ tz := tc7 69 rfl rfl
theorem lVX10_364 : LV RX10 364 yX10_goesOn cX10_goesOn 2 none 0 := ⟨tw 1625 (by decide +kernel) rfl, tw 1627 (by decide +kernel) rfl, tw 84 (by decide +kernel) rfl, tw 128 (by decide +kernel) rfl, cdX10_goesOn, ⟨by decide +kernel, by decide +kernel, by decide +kernel⟩⟩
abbrev rmX10_does : Room := { frames := 4, cells := 0, slots := 0, locals := 87 }
def bX10_does_51 (s0 : Nat) (s1 : Int32) (s2 : Int32) (z : AH) : Option (Int32 × AH) :=
  b2 (fX10_turns s0 s1 s2 z) fun x51 z51 =>
  if x51 = 0 ∨ x51 = 1 then some (x51, z51) else none
set_option maxHeartbeats 4000000 in
set_option maxRecDepth 100000 in
theorem kbX10_does_51 {p : Program} {l : Launch} {e : Env} {s : State} {m : MethodId} {args : Array Value} {below : List Frame} {meth : Method} {c : Code} {G : GW} {r : Int32} {z' : AH} (C : Cx p m c cX10_does 4 s args RX10 G) (hlk : meth.locks = false) (hr : meth.sig.returnType = (some .boolean)) (s0 : Nat) (s1 : Int32) (s2 : Int32) {z : AH} {H : Heap} {locs : List Loc} {ls : Array Slot} (h : bX10_does_51 s0 s1 s2 z = some (r, z')) (hW : Wb G z s H locs) (hl : lv_has ls 4 []) : W p l e rmX10_does s m args below meth c H locs 0 0 (MQ below (Qi G r z') args s 0 0 (AA G)) (F0 m 51 ls [.int s2, .int s1, .ref (gB G + s0)]) := by
  have hx := C.1
  have hb := C.2.1
  unfold bX10_does_51 at h
  obtain ⟨x51, z51, hq, h⟩ := ob2 h
  refine wz_rI (c' := 0) (s' := 0) hW (wz_runV (rest := []) C hW lVX10_357 (ck hq).1 rfl (ctX10_turns l G s0 s1 s2 z hq) ⟨⟨rfl, rfl⟩, Nat.le_of_ble_eq_true rfl, Nat.le_of_ble_eq_true rfl⟩ rfl hl.1 rfl (Nat.le_of_ble_eq_true rfl) dX10_does_51 ⟨Nat.le_of_ble_eq_true rfl, Nat.le_of_ble_eq_true rfl⟩) rfl rfl (fun H locs hW => ?_)
  obtain ⟨h01, h⟩ := ck h
  exact wz_zretE C hlk hr h01 (so2 h).1 (so2 h).2 hW dX10_does_54
def fX10_does (a0 : Nat) (l1 : Int32) (l2 : Int32) (l3 : Int32) (z : AH) : Option (Int32 × AH) :=
  if isO 9 z a0 = true then
    if l1 = (0 : Int32) then (
      b2 (fX10_looks a0 l2 l3 z) fun x35 z35 =>
      if x35 = 0 ∨ x35 = 1 then some (x35, z35) else none
    ) else
    if l1 = (1 : Int32) then (
      if l1 = (2 : Int32) then (
        bX10_does_51 a0 l2 (1 : Int32) z
      ) else (
        bX10_does_51 a0 l2 (0 : Int32) z
      )
    ) else
    if l1 = (2 : Int32) then (
      if l1 = (2 : Int32) then (
        bX10_does_51 a0 l2 (1 : Int32) z
      ) else (
        bX10_does_51 a0 l2 (0 : Int32) z
      )
    ) else
    if l1 = (3 : Int32) then (
      b2 (fX10_forges a0 l2 z) fun x57 z57 =>
      if x57 = 0 ∨ x57 = 1 then some (x57, z57) else none
    ) else
    (gI 9 37 z a0).bind fun x62 =>
    if x62 = (99 : Int32) then (
      some ((0 : Int32), z)
    ) else (
      (fX10_goesOn a0 z).bind fun z73 =>
      some ((1 : Int32), z73)
    )
  else none
set_option maxHeartbeats 4000000 in
set_option maxRecDepth 100000 in
theorem ctX10_does (l : Launch) (G : GW) (a0 : Nat) (l1 : Int32) (l2 : Int32) (l3 : Int32) (z : AH) {r : Int32} {z' : AH} (h : fX10_does a0 l1 l2 l3 z = some (r, z')) : Met l yX10_does (wy yX10_does cX10_does 4 (some .boolean)) rmX10_does (Pz G [.ref (gB G + a0), .int l1, .int l2, .int l3] z) (Qi G r z') 0 0 (AA G) := by
  refine wz_ent (own := RX10) (by decide +kernel) rfl (fun p e s m below meth c ls C hlk hr hin hW hl => ?_) (Nat.le_of_ble_eq_true rfl)
  have hl : lv_has ls 4 [(0, .ref (gB G + a0)), (1, .int l1), (2, .int l2), (3, .int l3)] := hl
  have hx := C.1
  have hb := C.2.1
  unfold fX10_does at h
  obtain ⟨-, h⟩ := ck h
  refine lv_iload_n hx hb dX10_does_0 rfl (lv_at hl 1 rfl) ?_
  by_cases c1_0 : l1 = (0 : Int32)
  · have h := ite_t c1_0 h
    refine wz_sw (0 : Int32) (tgt := 32) hx hb dX10_does_1 c1_0 (by decide) rfl (by decide) ?_
    refine lv_aload_n hx hb dX10_does_32 rfl (lv_at hl 0 rfl) ?_
    refine lv_iload_n hx hb dX10_does_33 rfl (lv_at hl 2 rfl) ?_
    refine lv_iload_n hx hb dX10_does_34 rfl (lv_at hl 3 rfl) ?_
    obtain ⟨x35, z35, hq, h⟩ := ob2 h
    refine wz_rI (c' := 0) (s' := 0) hW (wz_runV (rest := []) C hW lVX10_354 (ck hq).1 rfl (ctX10_looks l G a0 l2 l3 z hq) ⟨⟨rfl, rfl⟩, Nat.le_of_ble_eq_true rfl, Nat.le_of_ble_eq_true rfl⟩ rfl hl.1 rfl (Nat.le_of_ble_eq_true rfl) dX10_does_35 ⟨Nat.le_of_ble_eq_true rfl, Nat.le_of_ble_eq_true rfl⟩) rfl rfl (fun H locs hW => ?_)
    obtain ⟨h01, h⟩ := ck h
    exact wz_zretE C hlk hr h01 (so2 h).1 (so2 h).2 hW dX10_does_38
  have h := ite_f c1_0 h
  by_cases c1_1 : l1 = (1 : Int32)
  · have h := ite_t c1_1 h
    refine wz_sw (1 : Int32) (tgt := 39) hx hb dX10_does_1 c1_1 (by decide) rfl (by decide) ?_
    refine lv_aload_n hx hb dX10_does_39 rfl (lv_at hl 0 rfl) ?_
    refine lv_iload_n hx hb dX10_does_40 rfl (lv_at hl 2 rfl) ?_
    refine lv_iload_n hx hb dX10_does_41 rfl (lv_at hl 1 rfl) ?_
    refine lv_iconst (v := 2) hx hb dX10_does_42 (by decide) ?_
    refine lv_icmp_ne (tgt := 50) hx hb dX10_does_43 (by decide) (fun c43 => ?_) (fun c43 => ?_)
    · have h := ite_f c43 h
      refine lv_iconst (v := 0) hx hb dX10_does_50 (by decide) ?_
      exact kbX10_does_51 C hlk hr a0 l2 (0 : Int32) h hW (lv_sub hl [] rfl)
    · have h := ite_t c43 h
      refine lv_iconst (v := 1) hx hb dX10_does_46 (by decide) ?_
      refine lv_goto (tgt := 51) hx hb dX10_does_47 (by decide) ?_
      exact kbX10_does_51 C hlk hr a0 l2 (1 : Int32) h hW (lv_sub hl [] rfl)
  have h := ite_f c1_1 h
  by_cases c1_2 : l1 = (2 : Int32)
  · have h := ite_t c1_2 h
    refine wz_sw (2 : Int32) (tgt := 39) hx hb dX10_does_1 c1_2 (by decide) rfl (by decide) ?_
    refine lv_aload_n hx hb dX10_does_39 rfl (lv_at hl 0 rfl) ?_
    refine lv_iload_n hx hb dX10_does_40 rfl (lv_at hl 2 rfl) ?_
    refine lv_iload_n hx hb dX10_does_41 rfl (lv_at hl 1 rfl) ?_
    refine lv_iconst (v := 2) hx hb dX10_does_42 (by decide) ?_
    refine lv_icmp_ne (tgt := 50) hx hb dX10_does_43 (by decide) (fun c43 => ?_) (fun c43 => ?_)
    · have h := ite_f c43 h
      refine lv_iconst (v := 0) hx hb dX10_does_50 (by decide) ?_
      exact kbX10_does_51 C hlk hr a0 l2 (0 : Int32) h hW (lv_sub hl [] rfl)
    · have h := ite_t c43 h
      refine lv_iconst (v := 1) hx hb dX10_does_46 (by decide) ?_
      refine lv_goto (tgt := 51) hx hb dX10_does_47 (by decide) ?_
      exact kbX10_does_51 C hlk hr a0 l2 (1 : Int32) h hW (lv_sub hl [] rfl)
  have h := ite_f c1_2 h
  by_cases c1_3 : l1 = (3 : Int32)
  · have h := ite_t c1_3 h
    refine wz_sw (3 : Int32) (tgt := 55) hx hb dX10_does_1 c1_3 (by decide) rfl (by decide) ?_
    refine lv_aload_n hx hb dX10_does_55 rfl (lv_at hl 0 rfl) ?_
    refine lv_iload_n hx hb dX10_does_56 rfl (lv_at hl 2 rfl) ?_
    obtain ⟨x57, z57, hq, h⟩ := ob2 h
    refine wz_rI (c' := 0) (s' := 0) hW (wz_runV (rest := []) C hW lVX10_361 (ck hq).1 rfl (ctX10_forges l G a0 l2 z hq) ⟨⟨rfl, rfl⟩, Nat.le_of_ble_eq_true rfl, Nat.le_of_ble_eq_true rfl⟩ rfl hl.1 rfl (Nat.le_of_ble_eq_true rfl) dX10_does_57 ⟨Nat.le_of_ble_eq_true rfl, Nat.le_of_ble_eq_true rfl⟩) rfl rfl (fun H locs hW => ?_)
    obtain ⟨h01, h⟩ := ck h
    exact wz_zretE C hlk hr h01 (so2 h).1 (so2 h).2 hW dX10_does_60
  have h := ite_f c1_3 h
  refine lv_tableOut (tgt := 61) hx hb dX10_does_1 (by have g0 := i32_ne c1_0 (z := 0) (by decide); have g1 := i32_ne c1_1 (z := 1) (by decide); have g2 := i32_ne c1_2 (z := 2) (by decide); have g3 := i32_ne c1_3 (z := 3) (by decide); omega) (by decide) ?_
  refine lv_aload_n hx hb dX10_does_61 rfl (lv_at hl 0 rfl) ?_
  obtain ⟨x62, hg, h⟩ := ob h
  refine wz_gI C hW flX10_306 hg dX10_does_62 ?_
  refine lv_bipush (v := 99) hx hb dX10_does_65 (by decide) ?_
  refine lv_icmp_ne (tgt := 72) hx hb dX10_does_67 (by decide) (fun c67 => ?_) (fun c67 => ?_)
  · have h := ite_f c67 h
    refine lv_aload_n hx hb dX10_does_72 rfl (lv_at hl 0 rfl) ?_
    obtain ⟨z73, hq, h⟩ := ob h
    refine wz_rV (c' := 0) (s' := 0) hW (wz_runV (rest := []) C hW lVX10_364 (ck hq).1 rfl (ctX10_goesOn l G a0 z hq) ⟨⟨rfl, rfl⟩, Nat.le_of_ble_eq_true rfl, Nat.le_of_ble_eq_true rfl⟩ rfl hl.1 rfl (Nat.le_of_ble_eq_true rfl) dX10_does_73 ⟨Nat.le_of_ble_eq_true rfl, Nat.le_of_ble_eq_true rfl⟩) rfl rfl (fun H locs hW => ?_)
    refine lv_iconst (v := 1) hx hb dX10_does_76 (by decide) ?_
    exact wz_zretE C hlk hr (Or.inr rfl) (so2 h).1 (so2 h).2 hW dX10_does_77
  · have h := ite_t c67 h
    refine lv_iconst (v := 0) hx hb dX10_does_70 (by decide) ?_
    exact wz_zretE C hlk hr (Or.inl rfl) (so2 h).1 (so2 h).2 hW dX10_does_71
theorem dX10_doesDeed_0 : decode cX10_doesDeed 0 = .ok (.aload_n 0, 1) := by decide +kernel
theorem dX10_doesDeed_1 : decode cX10_doesDeed 1 = .ok (.aload_n 0, 1) := by decide +kernel
theorem dX10_doesDeed_2 : decode cX10_doesDeed 2 = .ok (.iload_n 1, 1) := by decide +kernel
theorem dX10_doesDeed_3 : decode cX10_doesDeed 3 = .ok (.iconst 0, 1) := by decide +kernel
theorem dX10_doesDeed_4 : decode cX10_doesDeed 4 = .ok (.invokevirtual 342, 3) := by decide +kernel
theorem dX10_doesDeed_7 : decode cX10_doesDeed 7 = .ok (.aload_n 0, 1) := by decide +kernel
theorem dX10_doesDeed_8 : decode cX10_doesDeed 8 = .ok (.iload_n 1, 1) := by decide +kernel
theorem dX10_doesDeed_9 : decode cX10_doesDeed 9 = .ok (.iconst 1, 1) := by decide +kernel
theorem dX10_doesDeed_10 : decode cX10_doesDeed 10 = .ok (.invokevirtual 342, 3) := by decide +kernel
theorem dX10_doesDeed_13 : decode cX10_doesDeed 13 = .ok (.aload_n 0, 1) := by decide +kernel
theorem dX10_doesDeed_14 : decode cX10_doesDeed 14 = .ok (.iload_n 1, 1) := by decide +kernel
theorem dX10_doesDeed_15 : decode cX10_doesDeed 15 = .ok (.iconst 2, 1) := by decide +kernel
theorem dX10_doesDeed_16 : decode cX10_doesDeed 16 = .ok (.invokevirtual 342, 3) := by decide +kernel
theorem dX10_doesDeed_19 : decode cX10_doesDeed 19 = .ok (.invokevirtual 367, 3) := by decide +kernel
theorem dX10_doesDeed_22 : decode cX10_doesDeed 22 = .ok (.ireturn, 1) := by decide +kernel
theorem cdX10_does : Cond.code yX10_does cX10_does 4 (some .boolean) ∈ tz := tc7 23 rfl rfl
theorem lVX10_367 : LV RX10 367 yX10_does cX10_does 4 (some .boolean) 3 := ⟨tw 1579 (by decide +kernel) rfl, tw 1581 (by decide +kernel) rfl, tw 74 (by decide +kernel) rfl, tw 128 (by decide +kernel) rfl, cdX10_does, ⟨by decide +kernel, by decide +kernel, by decide +kernel⟩⟩
abbrev rmX10_doesDeed : Room := { frames := 5, cells := 0, slots := 0, locals := 110 }
def fX10_doesDeed (a0 : Nat) (l1 : Int32) (z : AH) : Option (Int32 × AH) :=
  if isO 9 z a0 = true then
    (fX10_deedOf a0 l1 (0 : Int32) z).bind fun x4 =>
    (fX10_deedOf a0 l1 (1 : Int32) z).bind fun x10 =>
    (fX10_deedOf a0 l1 (2 : Int32) z).bind fun x16 =>
    b2 (fX10_does a0 x4 x10 x16 z) fun x19 z19 =>
    if x19 = 0 ∨ x19 = 1 then some (x19, z19) else none
  else none
set_option maxHeartbeats 4000000 in
set_option maxRecDepth 100000 in
theorem ctX10_doesDeed (l : Launch) (G : GW) (a0 : Nat) (l1 : Int32) (z : AH) {r : Int32} {z' : AH} (h : fX10_doesDeed a0 l1 z = some (r, z')) : Met l yX10_doesDeed (wy yX10_doesDeed cX10_doesDeed 2 (some .boolean)) rmX10_doesDeed (Pz G [.ref (gB G + a0), .int l1] z) (Qi G r z') 0 0 (AA G) := by
  refine wz_ent (own := RX10) (by decide +kernel) rfl (fun p e s m below meth c ls C hlk hr hin hW hl => ?_) (Nat.le_of_ble_eq_true rfl)
  have hl : lv_has ls 2 [(0, .ref (gB G + a0)), (1, .int l1)] := hl
  have hx := C.1
  have hb := C.2.1
  unfold fX10_doesDeed at h
  obtain ⟨-, h⟩ := ck h
  refine lv_aload_n hx hb dX10_doesDeed_0 rfl (lv_at hl 0 rfl) ?_
  refine lv_aload_n hx hb dX10_doesDeed_1 rfl (lv_at hl 0 rfl) ?_
  refine lv_iload_n hx hb dX10_doesDeed_2 rfl (lv_at hl 1 rfl) ?_
  refine lv_iconst (v := 0) hx hb dX10_doesDeed_3 (by decide) ?_
  obtain ⟨x4, hq, h⟩ := ob h
  refine wz_rI (c' := 0) (s' := 0) hW (wz_runV (rest := [.ref (gB G + a0)]) C hW lVX10_342 (ck hq).1 rfl (ctX10_deedOf l G a0 l1 (0 : Int32) z hq) ⟨⟨rfl, rfl⟩, Nat.le_of_ble_eq_true rfl, Nat.le_of_ble_eq_true rfl⟩ rfl hl.1 rfl (Nat.le_of_ble_eq_true rfl) dX10_doesDeed_4 ⟨Nat.le_of_ble_eq_true rfl, Nat.le_of_ble_eq_true rfl⟩) rfl rfl (fun H locs hW => ?_)
  refine lv_aload_n hx hb dX10_doesDeed_7 rfl (lv_at hl 0 rfl) ?_
  refine lv_iload_n hx hb dX10_doesDeed_8 rfl (lv_at hl 1 rfl) ?_
  refine lv_iconst (v := 1) hx hb dX10_doesDeed_9 (by decide) ?_
  obtain ⟨x10, hq, h⟩ := ob h
  refine wz_rI (c' := 0) (s' := 0) hW (wz_runV (rest := [.int x4, .ref (gB G + a0)]) C hW lVX10_342 (ck hq).1 rfl (ctX10_deedOf l G a0 l1 (1 : Int32) z hq) ⟨⟨rfl, rfl⟩, Nat.le_of_ble_eq_true rfl, Nat.le_of_ble_eq_true rfl⟩ rfl hl.1 rfl (Nat.le_of_ble_eq_true rfl) dX10_doesDeed_10 ⟨Nat.le_of_ble_eq_true rfl, Nat.le_of_ble_eq_true rfl⟩) rfl rfl (fun H locs hW => ?_)
  refine lv_aload_n hx hb dX10_doesDeed_13 rfl (lv_at hl 0 rfl) ?_
  refine lv_iload_n hx hb dX10_doesDeed_14 rfl (lv_at hl 1 rfl) ?_
  refine lv_iconst (v := 2) hx hb dX10_doesDeed_15 (by decide) ?_
  obtain ⟨x16, hq, h⟩ := ob h
  refine wz_rI (c' := 0) (s' := 0) hW (wz_runV (rest := [.int x10, .int x4, .ref (gB G + a0)]) C hW lVX10_342 (ck hq).1 rfl (ctX10_deedOf l G a0 l1 (2 : Int32) z hq) ⟨⟨rfl, rfl⟩, Nat.le_of_ble_eq_true rfl, Nat.le_of_ble_eq_true rfl⟩ rfl hl.1 rfl (Nat.le_of_ble_eq_true rfl) dX10_doesDeed_16 ⟨Nat.le_of_ble_eq_true rfl, Nat.le_of_ble_eq_true rfl⟩) rfl rfl (fun H locs hW => ?_)
  obtain ⟨x19, z19, hq, h⟩ := ob2 h
  refine wz_rI (c' := 0) (s' := 0) hW (wz_runV (rest := []) C hW lVX10_367 (ck hq).1 rfl (ctX10_does l G a0 x4 x10 x16 z hq) ⟨⟨rfl, rfl⟩, Nat.le_of_ble_eq_true rfl, Nat.le_of_ble_eq_true rfl⟩ rfl hl.1 rfl (Nat.le_of_ble_eq_true rfl) dX10_doesDeed_19 ⟨Nat.le_of_ble_eq_true rfl, Nat.le_of_ble_eq_true rfl⟩) rfl rfl (fun H locs hW => ?_)
  obtain ⟨h01, h⟩ := ck h
  exact wz_zretE C hlk hr h01 (so2 h).1 (so2 h).2 hW dX10_doesDeed_22
theorem dX10_play_0 : decode cX10_play 0 = .ok (.iconst 0, 1) := by decide +kernel
theorem dX10_play_1 : decode cX10_play 1 = .ok (.istore_n 2, 1) := by decide +kernel
theorem dX10_play_2 : decode cX10_play 2 = .ok (.iload_n 2, 1) := by decide +kernel
theorem dX10_play_3 : decode cX10_play 3 = .ok (.iload_n 1, 1) := by decide +kernel
theorem dX10_play_4 : decode cX10_play 4 = .ok (.if_icmp .ge 17, 3) := by decide +kernel
theorem dX10_play_7 : decode cX10_play 7 = .ok (.aload_n 0, 1) := by decide +kernel
theorem dX10_play_8 : decode cX10_play 8 = .ok (.iload_n 2, 1) := by decide +kernel
theorem dX10_play_9 : decode cX10_play 9 = .ok (.invokevirtual 370, 3) := by decide +kernel
theorem dX10_play_12 : decode cX10_play 12 = .ok (.ifCond .eq 9, 3) := by decide +kernel
theorem dX10_play_15 : decode cX10_play 15 = .ok (.iinc 2 1, 3) := by decide +kernel
theorem dX10_play_18 : decode cX10_play 18 = .ok (.goto (-16), 3) := by decide +kernel
theorem dX10_play_21 : decode cX10_play 21 = .ok (.iload_n 2, 1) := by decide +kernel
theorem dX10_play_22 : decode cX10_play 22 = .ok (.ireturn, 1) := by decide +kernel
theorem cdX10_doesDeed : Cond.code yX10_doesDeed cX10_doesDeed 2 (some .boolean) ∈ tz := tc7 19 rfl rfl
theorem lVX10_370 : LV RX10 370 yX10_doesDeed cX10_doesDeed 2 (some .boolean) 1 := ⟨tw 1575 (by decide +kernel) rfl, tw 1577 (by decide +kernel) rfl, tw 73 (by decide +kernel) rfl, tw 128 (by decide +kernel) rfl, cdX10_doesDeed, ⟨by decide +kernel, by decide +kernel, by decide +kernel⟩⟩
abbrev rmX10_play : Room := { frames := 6, cells := 0, slots := 0, locals := 131 }
def bX10_play_2 (k2 : Nat → Int32 → Int32 → AH → Option (Int32 × AH)) (a0 : Nat) (l1 : Int32) (l2 : Int32) (z : AH) : Option (Int32 × AH) :=
  if l1 ≤ l2 then (
    some (l2, z)
  ) else (
    b2 (fX10_doesDeed a0 l2 z) fun x9 z9 =>
    if x9 = (0 : Int32) then (
      some (l2, z9)
    ) else (
      nm (l2 + (1 : Int32)) fun v15 =>
      k2 a0 l1 v15 z9
    )
  )
set_option maxHeartbeats 4000000 in
set_option maxRecDepth 100000 in
theorem kbX10_play_2 {p : Program} {l : Launch} {e : Env} {s : State} {m : MethodId} {args : Array Value} {below : List Frame} {meth : Method} {c : Code} {G : GW} {r : Int32} {z' : AH} (C : Cx p m c cX10_play 3 s args RX10 G) (hlk : meth.locks = false) (hr : meth.sig.returnType = (some .int)) (k2 : Nat → Int32 → Int32 → AH → Option (Int32 × AH)) (hk2 : ∀ (a0 : Nat) (l1 : Int32) (l2 : Int32) (z : AH) (H : Heap) (locs : List Loc) (ls : Array Slot), k2 a0 l1 l2 z = some (r, z') → Wb G z s H locs → lv_has ls 3 [(0, .ref (gB G + a0)), (1, .int l1), (2, .int l2)] → W p l e rmX10_play s m args below meth c H locs 0 0 (MQ below (Qi G r z') args s 0 0 (AA G)) (F0 m 2 ls [])) (a0 : Nat) (l1 : Int32) (l2 : Int32) {z : AH} {H : Heap} {locs : List Loc} {ls : Array Slot} (h : bX10_play_2 k2 a0 l1 l2 z = some (r, z')) (hW : Wb G z s H locs) (hl : lv_has ls 3 [(0, .ref (gB G + a0)), (1, .int l1), (2, .int l2)]) : W p l e rmX10_play s m args below meth c H locs 0 0 (MQ below (Qi G r z') args s 0 0 (AA G)) (F0 m 2 ls []) := by
  have hx := C.1
  have hb := C.2.1
  unfold bX10_play_2 at h
  refine lv_iload_n hx hb dX10_play_2 rfl (lv_at hl 2 rfl) ?_
  refine lv_iload_n hx hb dX10_play_3 rfl (lv_at hl 1 rfl) ?_
  refine lv_icmp_ge (tgt := 21) hx hb dX10_play_4 (by decide) (fun c4 => ?_) (fun c4 => ?_)
  · have h := ite_t c4 h
    refine lv_iload_n hx hb dX10_play_21 rfl (lv_at hl 2 rfl) ?_
    exact wz_iretE C hlk hr (so2 h).1 (so2 h).2 hW dX10_play_22
  · have h := ite_f c4 h
    refine lv_aload_n hx hb dX10_play_7 rfl (lv_at hl 0 rfl) ?_
    refine lv_iload_n hx hb dX10_play_8 rfl (lv_at hl 2 rfl) ?_
    obtain ⟨x9, z9, hq, h⟩ := ob2 h
    refine wz_rI (c' := 0) (s' := 0) hW (wz_runV (rest := []) C hW lVX10_370 (ck hq).1 rfl (ctX10_doesDeed l G a0 l2 z hq) ⟨⟨rfl, rfl⟩, Nat.le_of_ble_eq_true rfl, Nat.le_of_ble_eq_true rfl⟩ rfl hl.1 rfl (Nat.le_of_ble_eq_true rfl) dX10_play_9 ⟨Nat.le_of_ble_eq_true rfl, Nat.le_of_ble_eq_true rfl⟩) rfl rfl (fun H locs hW => ?_)
    refine lv_if_eq (tgt := 21) hx hb dX10_play_12 (by decide) (fun c12 => ?_) (fun c12 => ?_)
    · have h := ite_t c12 h
      refine lv_iload_n hx hb dX10_play_21 rfl (lv_at hl 2 rfl) ?_
      exact wz_iretE C hlk hr (so2 h).1 (so2 h).2 hW dX10_play_22
    · have h := ite_f c12 h
      obtain ⟨v15, ev15⟩ : ∃ y : Int32, y = (l2 + (1 : Int32)) := ⟨_, rfl⟩
      have h := nm_to h ev15
      refine lv_iinc (v := v15) (lv' := [(2, .int v15), (0, .ref (gB G + a0)), (1, .int l1)]) hx hb dX10_play_15 hl (k := 2) rfl (by rw [ev15]; rfl) (by decide) rfl (fun ls hl => ?_)
      refine lv_goto (tgt := 2) hx hb dX10_play_18 (by decide) ?_
      exact hk2 a0 l1 v15 z9 _ _ _ h hW (lv_sub hl [1, 2, 0] rfl)
def fX10_play_2 : Nat → Nat → Int32 → Int32 → AH → Option (Int32 × AH)
  | 0, _, _, _, _ => none
  | n + 1, a0, l1, l2, z => bX10_play_2 (fX10_play_2 n) a0 l1 l2 z
theorem klX10_play_2 {p : Program} {l : Launch} {e : Env} {s : State} {m : MethodId} {args : Array Value} {below : List Frame} {meth : Method} {c : Code} {G : GW} {r : Int32} {z' : AH} (C : Cx p m c cX10_play 3 s args RX10 G) (hlk : meth.locks = false) (hr : meth.sig.returnType = (some .int)) : ∀ (n : Nat) (a0 : Nat) (l1 : Int32) (l2 : Int32) (z : AH) (H : Heap) (locs : List Loc) (ls : Array Slot), fX10_play_2 n a0 l1 l2 z = some (r, z') → Wb G z s H locs → lv_has ls 3 [(0, .ref (gB G + a0)), (1, .int l1), (2, .int l2)] → W p l e rmX10_play s m args below meth c H locs 0 0 (MQ below (Qi G r z') args s 0 0 (AA G)) (F0 m 2 ls []) := by
  intro n
  induction n with
  | zero => intro a0 l1 l2 z H locs ls h; have h : (none : Option (Int32 × AH)) = some (r, z') := h; cases h
  | succ n ih => intro a0 l1 l2 z H locs ls h hW hl; exact kbX10_play_2 C hlk hr (fX10_play_2 n) (fun a0 l1 l2 z H locs ls h hW hl => ih a0 l1 l2 z H locs ls h hW hl) a0 l1 l2 h hW hl
def fX10_play (a0 : Nat) (l1 : Int32) (z : AH) : Option (Int32 × AH) :=
  if isO 9 z a0 = true then
    fX10_play_2 FU a0 l1 (0 : Int32) z
  else none
set_option maxHeartbeats 4000000 in
set_option maxRecDepth 100000 in
theorem ctX10_play (l : Launch) (G : GW) (a0 : Nat) (l1 : Int32) (z : AH) {r : Int32} {z' : AH} (h : fX10_play a0 l1 z = some (r, z')) : Met l yX10_play (wy yX10_play cX10_play 3 (some .int)) rmX10_play (Pz G [.ref (gB G + a0), .int l1] z) (Qi G r z') 0 0 (AA G) := by
  refine wz_ent (own := RX10) (by decide +kernel) rfl (fun p e s m below meth c ls C hlk hr hin hW hl => ?_) (Nat.le_of_ble_eq_true rfl)
  have hl : lv_has ls 3 [(0, .ref (gB G + a0)), (1, .int l1)] := hl
  have hx := C.1
  have hb := C.2.1
  unfold fX10_play at h
  obtain ⟨-, h⟩ := ck h
  refine lv_iconst (v := 0) hx hb dX10_play_0 (by decide) ?_
  refine lv_istore_n (lv' := [(2, .int (0 : Int32)), (0, .ref (gB G + a0)), (1, .int l1)]) hx hb dX10_play_1 rfl hl (by decide) rfl (fun ls hl => ?_)
  exact klX10_play_2 C hlk hr FU a0 l1 (0 : Int32) z _ _ _ h hW (lv_sub hl [1, 2, 0] rfl)
theorem dX10_layAll_0 : decode cX10_layAll 0 = .ok (.aload_n 0, 1) := by decide +kernel
theorem dX10_layAll_1 : decode cX10_layAll 1 = .ok (.iload_n 2, 1) := by decide +kernel
theorem dX10_layAll_2 : decode cX10_layAll 2 = .ok (.invokevirtual 336, 3) := by decide +kernel
theorem dX10_layAll_5 : decode cX10_layAll 5 = .ok (.ifCond .eq 15, 3) := by decide +kernel
theorem dX10_layAll_8 : decode cX10_layAll 8 = .ok (.aload_n 0, 1) := by decide +kernel
theorem dX10_layAll_9 : decode cX10_layAll 9 = .ok (.iload_n 1, 1) := by decide +kernel
theorem dX10_layAll_10 : decode cX10_layAll 10 = .ok (.invokevirtual 330, 3) := by decide +kernel
theorem dX10_layAll_13 : decode cX10_layAll 13 = .ok (.ifCond .eq 7, 3) := by decide +kernel
theorem dX10_layAll_16 : decode cX10_layAll 16 = .ok (.iconst 1, 1) := by decide +kernel
theorem dX10_layAll_17 : decode cX10_layAll 17 = .ok (.goto 4, 3) := by decide +kernel
theorem dX10_layAll_20 : decode cX10_layAll 20 = .ok (.iconst 0, 1) := by decide +kernel
theorem dX10_layAll_21 : decode cX10_layAll 21 = .ok (.ireturn, 1) := by decide +kernel
abbrev rmX10_layAll : Room := { frames := 4, cells := 0, slots := 0, locals := 89 }
def fX10_layAll (a0 : Nat) (l1 : Int32) (l2 : Int32) (z : AH) : Option (Int32 × AH) :=
  if isO 9 z a0 = true then
    b2 (fX10_hasYear a0 l2 z) fun x2 z2 =>
    if x2 = (0 : Int32) then (
      some ((0 : Int32), z2)
    ) else (
      b2 (fX10_hand a0 l1 z2) fun x10 z10 =>
      if x10 = (0 : Int32) then (
        some ((0 : Int32), z10)
      ) else (
        some ((1 : Int32), z10)
      )
    )
  else none
set_option maxHeartbeats 4000000 in
set_option maxRecDepth 100000 in
theorem ctX10_layAll (l : Launch) (G : GW) (a0 : Nat) (l1 : Int32) (l2 : Int32) (z : AH) {r : Int32} {z' : AH} (h : fX10_layAll a0 l1 l2 z = some (r, z')) : Met l yX10_layAll (wy yX10_layAll cX10_layAll 3 (some .boolean)) rmX10_layAll (Pz G [.ref (gB G + a0), .int l1, .int l2] z) (Qi G r z') 0 0 (AA G) := by
  refine wz_ent (own := RX10) (by decide +kernel) rfl (fun p e s m below meth c ls C hlk hr hin hW hl => ?_) (Nat.le_of_ble_eq_true rfl)
  have hl : lv_has ls 3 [(0, .ref (gB G + a0)), (1, .int l1), (2, .int l2)] := hl
  have hx := C.1
  have hb := C.2.1
  unfold fX10_layAll at h
  obtain ⟨-, h⟩ := ck h
  refine lv_aload_n hx hb dX10_layAll_0 rfl (lv_at hl 0 rfl) ?_
  refine lv_iload_n hx hb dX10_layAll_1 rfl (lv_at hl 2 rfl) ?_
  obtain ⟨x2, z2, hq, h⟩ := ob2 h
  refine wz_rI (c' := 0) (s' := 0) hW (wz_runV (rest := []) C hW lVX10_336 (ck hq).1 rfl (ctX10_hasYear l G a0 l2 z hq) ⟨⟨rfl, rfl⟩, Nat.le_of_ble_eq_true rfl, Nat.le_of_ble_eq_true rfl⟩ rfl hl.1 rfl (Nat.le_of_ble_eq_true rfl) dX10_layAll_2 ⟨Nat.le_of_ble_eq_true rfl, Nat.le_of_ble_eq_true rfl⟩) rfl rfl (fun H locs hW => ?_)
  refine lv_if_eq (tgt := 20) hx hb dX10_layAll_5 (by decide) (fun c5 => ?_) (fun c5 => ?_)
  · have h := ite_t c5 h
    refine lv_iconst (v := 0) hx hb dX10_layAll_20 (by decide) ?_
    exact wz_zretE C hlk hr (Or.inl rfl) (so2 h).1 (so2 h).2 hW dX10_layAll_21
  · have h := ite_f c5 h
    refine lv_aload_n hx hb dX10_layAll_8 rfl (lv_at hl 0 rfl) ?_
    refine lv_iload_n hx hb dX10_layAll_9 rfl (lv_at hl 1 rfl) ?_
    obtain ⟨x10, z10, hq, h⟩ := ob2 h
    refine wz_rI (c' := 0) (s' := 0) hW (wz_runV (rest := []) C hW lVX10_330 (ck hq).1 rfl (ctX10_hand l G a0 l1 z2 hq) ⟨⟨rfl, rfl⟩, Nat.le_of_ble_eq_true rfl, Nat.le_of_ble_eq_true rfl⟩ rfl hl.1 rfl (Nat.le_of_ble_eq_true rfl) dX10_layAll_10 ⟨Nat.le_of_ble_eq_true rfl, Nat.le_of_ble_eq_true rfl⟩) rfl rfl (fun H locs hW => ?_)
    refine lv_if_eq (tgt := 20) hx hb dX10_layAll_13 (by decide) (fun c13 => ?_) (fun c13 => ?_)
    · have h := ite_t c13 h
      refine lv_iconst (v := 0) hx hb dX10_layAll_20 (by decide) ?_
      exact wz_zretE C hlk hr (Or.inl rfl) (so2 h).1 (so2 h).2 hW dX10_layAll_21
    · have h := ite_f c13 h
      refine lv_iconst (v := 1) hx hb dX10_layAll_16 (by decide) ?_
      refine lv_goto (tgt := 21) hx hb dX10_layAll_17 (by decide) ?_
      exact wz_zretE C hlk hr (Or.inr rfl) (so2 h).1 (so2 h).2 hW dX10_layAll_21
theorem dX10_till_0 : decode cX10_till 0 = .ok (.aload_n 0, 1) := by decide +kernel
theorem dX10_till_1 : decode cX10_till 1 = .ok (.iconst 0, 1) := by decide +kernel
theorem dX10_till_2 : decode cX10_till 2 = .ok (.putfield 81, 3) := by decide +kernel
theorem dX10_till_5 : decode cX10_till 5 = .ok (.aload_n 0, 1) := by decide +kernel
theorem dX10_till_6 : decode cX10_till 6 = .ok (.iload_n 1, 1) := by decide +kernel
theorem dX10_till_7 : decode cX10_till 7 = .ok (.iload_n 2, 1) := by decide +kernel
theorem dX10_till_8 : decode cX10_till 8 = .ok (.invokevirtual 373, 3) := by decide +kernel
theorem dX10_till_11 : decode cX10_till 11 = .ok (.ifCond .eq 14, 3) := by decide +kernel
theorem dX10_till_14 : decode cX10_till 14 = .ok (.aload_n 0, 1) := by decide +kernel
theorem dX10_till_15 : decode cX10_till 15 = .ok (.aload_n 0, 1) := by decide +kernel
theorem dX10_till_16 : decode cX10_till 16 = .ok (.invokevirtual 339, 3) := by decide +kernel
theorem dX10_till_19 : decode cX10_till 19 = .ok (.invokevirtual 376, 3) := by decide +kernel
theorem dX10_till_22 : decode cX10_till 22 = .ok (.goto 4, 3) := by decide +kernel
theorem dX10_till_25 : decode cX10_till 25 = .ok (.iconst (-1), 1) := by decide +kernel
theorem dX10_till_26 : decode cX10_till 26 = .ok (.ireturn, 1) := by decide +kernel
theorem cdX10_layAll : Cond.code yX10_layAll cX10_layAll 3 (some .boolean) ∈ tz := tc7 11 rfl rfl
theorem lVX10_373 : LV RX10 373 yX10_layAll cX10_layAll 3 (some .boolean) 2 := ⟨tw 1567 (by decide +kernel) rfl, tw 1569 (by decide +kernel) rfl, tw 71 (by decide +kernel) rfl, tw 128 (by decide +kernel) rfl, cdX10_layAll, ⟨by decide +kernel, by decide +kernel, by decide +kernel⟩⟩
theorem cdX10_play : Cond.code yX10_play cX10_play 3 (some .int) ∈ tz := tc7 15 rfl rfl
theorem lVX10_376 : LV RX10 376 yX10_play cX10_play 3 (some .int) 1 := ⟨tw 1571 (by decide +kernel) rfl, tw 1573 (by decide +kernel) rfl, tw 72 (by decide +kernel) rfl, tw 128 (by decide +kernel) rfl, cdX10_play, ⟨by decide +kernel, by decide +kernel, by decide +kernel⟩⟩
abbrev rmX10_till : Room := { frames := 7, cells := 0, slots := 0, locals := 153 }
def fX10_till (a0 : Nat) (l1 : Int32) (l2 : Int32) (z : AH) : Option (Int32 × AH) :=
  if isO 9 z a0 = true then
    (pF 9 0 z a0 (.int (0 : Int32))).bind fun z2 =>
    b2 (fX10_layAll a0 l1 l2 z2) fun x8 z8 =>
    if x8 = (0 : Int32) then (
      some ((-1 : Int32), z8)
    ) else (
      (fX10_deeds a0 z8).bind fun x16 =>
      b2 (fX10_play a0 x16 z8) fun x19 z19 =>
      some (x19, z19)
    )
  else none
set_option maxHeartbeats 4000000 in
set_option maxRecDepth 100000 in
theorem ctX10_till (l : Launch) (G : GW) (a0 : Nat) (l1 : Int32) (l2 : Int32) (z : AH) {r : Int32} {z' : AH} (h : fX10_till a0 l1 l2 z = some (r, z')) : Met l yX10_till (wy yX10_till cX10_till 3 (some .int)) rmX10_till (Pz G [.ref (gB G + a0), .int l1, .int l2] z) (Qi G r z') 0 0 (AA G) := by
  refine wz_ent (own := RX10) (by decide +kernel) rfl (fun p e s m below meth c ls C hlk hr hin hW hl => ?_) (Nat.le_of_ble_eq_true rfl)
  have hl : lv_has ls 3 [(0, .ref (gB G + a0)), (1, .int l1), (2, .int l2)] := hl
  have hx := C.1
  have hb := C.2.1
  unfold fX10_till at h
  obtain ⟨-, h⟩ := ck h
  refine lv_aload_n hx hb dX10_till_0 rfl (lv_at hl 0 rfl) ?_
  refine lv_iconst (v := 0) hx hb dX10_till_1 (by decide) ?_
  obtain ⟨z2, hg, h⟩ := ob h
  refine wz_put (v := (.int (0 : Int32))) C hW flX10_81 rfl rfl hg dX10_till_2 (fun H locs hW => ?_)
  refine lv_aload_n hx hb dX10_till_5 rfl (lv_at hl 0 rfl) ?_
  refine lv_iload_n hx hb dX10_till_6 rfl (lv_at hl 1 rfl) ?_
  refine lv_iload_n hx hb dX10_till_7 rfl (lv_at hl 2 rfl) ?_
  obtain ⟨x8, z8, hq, h⟩ := ob2 h
  refine wz_rI (c' := 0) (s' := 0) hW (wz_runV (rest := []) C hW lVX10_373 (ck hq).1 rfl (ctX10_layAll l G a0 l1 l2 z2 hq) ⟨⟨rfl, rfl⟩, Nat.le_of_ble_eq_true rfl, Nat.le_of_ble_eq_true rfl⟩ rfl hl.1 rfl (Nat.le_of_ble_eq_true rfl) dX10_till_8 ⟨Nat.le_of_ble_eq_true rfl, Nat.le_of_ble_eq_true rfl⟩) rfl rfl (fun H locs hW => ?_)
  refine lv_if_eq (tgt := 25) hx hb dX10_till_11 (by decide) (fun c11 => ?_) (fun c11 => ?_)
  · have h := ite_t c11 h
    refine lv_iconst (v := -1) hx hb dX10_till_25 (by decide) ?_
    exact wz_iretE C hlk hr (so2 h).1 (so2 h).2 hW dX10_till_26
  · have h := ite_f c11 h
    refine lv_aload_n hx hb dX10_till_14 rfl (lv_at hl 0 rfl) ?_
    refine lv_aload_n hx hb dX10_till_15 rfl (lv_at hl 0 rfl) ?_
    obtain ⟨x16, hq, h⟩ := ob h
    refine wz_rI (c' := 0) (s' := 0) hW (wz_runV (rest := [.ref (gB G + a0)]) C hW lVX10_339 (ck hq).1 rfl (ctX10_deeds l G a0 z8 hq) ⟨⟨rfl, rfl⟩, Nat.le_of_ble_eq_true rfl, Nat.le_of_ble_eq_true rfl⟩ rfl hl.1 rfl (Nat.le_of_ble_eq_true rfl) dX10_till_16 ⟨Nat.le_of_ble_eq_true rfl, Nat.le_of_ble_eq_true rfl⟩) rfl rfl (fun H locs hW => ?_)
    obtain ⟨x19, z19, hq, h⟩ := ob2 h
    refine wz_rI (c' := 0) (s' := 0) hW (wz_runV (rest := []) C hW lVX10_376 (ck hq).1 rfl (ctX10_play l G a0 x16 z8 hq) ⟨⟨rfl, rfl⟩, Nat.le_of_ble_eq_true rfl, Nat.le_of_ble_eq_true rfl⟩ rfl hl.1 rfl (Nat.le_of_ble_eq_true rfl) dX10_till_19 ⟨Nat.le_of_ble_eq_true rfl, Nat.le_of_ble_eq_true rfl⟩) rfl rfl (fun H locs hW => ?_)
    refine lv_goto (tgt := 26) hx hb dX10_till_22 (by decide) ?_
    exact wz_iretE C hlk hr (so2 h).1 (so2 h).2 hW dX10_till_26
theorem dX10_ofState_0 : decode cX10_ofState 0 = .ok (.iload_n 1, 1) := by decide +kernel
theorem dX10_ofState_1 : decode cX10_ofState 1 = .ok (.bipush 10, 2) := by decide +kernel
theorem dX10_ofState_3 : decode cX10_ofState 3 = .ok (.irem, 1) := by decide +kernel
theorem dX10_ofState_4 : decode cX10_ofState 4 = .ok (.istore_n 2, 1) := by decide +kernel
theorem dX10_ofState_5 : decode cX10_ofState 5 = .ok (.iload_n 1, 1) := by decide +kernel
theorem dX10_ofState_6 : decode cX10_ofState 6 = .ok (.bipush 10, 2) := by decide +kernel
theorem dX10_ofState_8 : decode cX10_ofState 8 = .ok (.idiv, 1) := by decide +kernel
theorem dX10_ofState_9 : decode cX10_ofState 9 = .ok (.tableswitch 152 0 3 #[31, 93, 113, 133], 31) := by decide +kernel
theorem dX10_ofState_40 : decode cX10_ofState 40 = .ok (.iload_n 1, 1) := by decide +kernel
theorem dX10_ofState_41 : decode cX10_ofState 41 = .ok (.ifCond .ne 10, 3) := by decide +kernel
theorem dX10_ofState_44 : decode cX10_ofState 44 = .ok (.aload_n 0, 1) := by decide +kernel
theorem dX10_ofState_45 : decode cX10_ofState 45 = .ok (.getfield 306, 3) := by decide +kernel
theorem dX10_ofState_48 : decode cX10_ofState 48 = .ok (.goto 53, 3) := by decide +kernel
theorem dX10_ofState_51 : decode cX10_ofState 51 = .ok (.iload_n 1, 1) := by decide +kernel
theorem dX10_ofState_52 : decode cX10_ofState 52 = .ok (.iconst 1, 1) := by decide +kernel
theorem dX10_ofState_53 : decode cX10_ofState 53 = .ok (.if_icmp .ne 10, 3) := by decide +kernel
theorem dX10_ofState_56 : decode cX10_ofState 56 = .ok (.aload_n 0, 1) := by decide +kernel
theorem dX10_ofState_57 : decode cX10_ofState 57 = .ok (.getfield 288, 3) := by decide +kernel
theorem dX10_ofState_60 : decode cX10_ofState 60 = .ok (.goto 41, 3) := by decide +kernel
theorem dX10_ofState_63 : decode cX10_ofState 63 = .ok (.iload_n 1, 1) := by decide +kernel
theorem dX10_ofState_64 : decode cX10_ofState 64 = .ok (.iconst 2, 1) := by decide +kernel
theorem dX10_ofState_65 : decode cX10_ofState 65 = .ok (.if_icmp .ne 10, 3) := by decide +kernel
theorem dX10_ofState_68 : decode cX10_ofState 68 = .ok (.aload_n 0, 1) := by decide +kernel
theorem dX10_ofState_69 : decode cX10_ofState 69 = .ok (.getfield 291, 3) := by decide +kernel
theorem dX10_ofState_72 : decode cX10_ofState 72 = .ok (.goto 29, 3) := by decide +kernel
theorem dX10_ofState_75 : decode cX10_ofState 75 = .ok (.iload_n 1, 1) := by decide +kernel
theorem dX10_ofState_76 : decode cX10_ofState 76 = .ok (.iconst 3, 1) := by decide +kernel
theorem dX10_ofState_77 : decode cX10_ofState 77 = .ok (.if_icmp .ne 10, 3) := by decide +kernel
theorem dX10_ofState_80 : decode cX10_ofState 80 = .ok (.aload_n 0, 1) := by decide +kernel
theorem dX10_ofState_81 : decode cX10_ofState 81 = .ok (.getfield 294, 3) := by decide +kernel
theorem dX10_ofState_84 : decode cX10_ofState 84 = .ok (.goto 17, 3) := by decide +kernel
theorem dX10_ofState_87 : decode cX10_ofState 87 = .ok (.iload_n 1, 1) := by decide +kernel
theorem dX10_ofState_88 : decode cX10_ofState 88 = .ok (.iconst 4, 1) := by decide +kernel
theorem dX10_ofState_89 : decode cX10_ofState 89 = .ok (.if_icmp .ne 10, 3) := by decide +kernel
theorem dX10_ofState_92 : decode cX10_ofState 92 = .ok (.aload_n 0, 1) := by decide +kernel
theorem dX10_ofState_93 : decode cX10_ofState 93 = .ok (.getfield 297, 3) := by decide +kernel
theorem dX10_ofState_96 : decode cX10_ofState 96 = .ok (.goto 5, 3) := by decide +kernel
theorem dX10_ofState_99 : decode cX10_ofState 99 = .ok (.bipush (-2), 2) := by decide +kernel
theorem dX10_ofState_101 : decode cX10_ofState 101 = .ok (.ireturn, 1) := by decide +kernel
theorem dX10_ofState_102 : decode cX10_ofState 102 = .ok (.iload_n 2, 1) := by decide +kernel
theorem dX10_ofState_103 : decode cX10_ofState 103 = .ok (.aload_n 0, 1) := by decide +kernel
theorem dX10_ofState_104 : decode cX10_ofState 104 = .ok (.getfield 276, 3) := by decide +kernel
theorem dX10_ofState_107 : decode cX10_ofState 107 = .ok (.if_icmp .ge 12, 3) := by decide +kernel
theorem dX10_ofState_110 : decode cX10_ofState 110 = .ok (.aload_n 0, 1) := by decide +kernel
theorem dX10_ofState_111 : decode cX10_ofState 111 = .ok (.getfield 44, 3) := by decide +kernel
theorem dX10_ofState_114 : decode cX10_ofState 114 = .ok (.iload_n 2, 1) := by decide +kernel
theorem dX10_ofState_115 : decode cX10_ofState 115 = .ok (.iaload, 1) := by decide +kernel
theorem dX10_ofState_116 : decode cX10_ofState 116 = .ok (.goto 5, 3) := by decide +kernel
theorem dX10_ofState_119 : decode cX10_ofState 119 = .ok (.bipush (-2), 2) := by decide +kernel
theorem dX10_ofState_121 : decode cX10_ofState 121 = .ok (.ireturn, 1) := by decide +kernel
theorem dX10_ofState_122 : decode cX10_ofState 122 = .ok (.iload_n 2, 1) := by decide +kernel
theorem dX10_ofState_123 : decode cX10_ofState 123 = .ok (.aload_n 0, 1) := by decide +kernel
theorem dX10_ofState_124 : decode cX10_ofState 124 = .ok (.getfield 276, 3) := by decide +kernel
theorem dX10_ofState_127 : decode cX10_ofState 127 = .ok (.if_icmp .ge 12, 3) := by decide +kernel
theorem dX10_ofState_130 : decode cX10_ofState 130 = .ok (.aload_n 0, 1) := by decide +kernel
theorem dX10_ofState_131 : decode cX10_ofState 131 = .ok (.getfield 47, 3) := by decide +kernel
theorem dX10_ofState_134 : decode cX10_ofState 134 = .ok (.iload_n 2, 1) := by decide +kernel
theorem dX10_ofState_135 : decode cX10_ofState 135 = .ok (.iaload, 1) := by decide +kernel
theorem dX10_ofState_136 : decode cX10_ofState 136 = .ok (.goto 5, 3) := by decide +kernel
theorem dX10_ofState_139 : decode cX10_ofState 139 = .ok (.bipush (-2), 2) := by decide +kernel
theorem dX10_ofState_141 : decode cX10_ofState 141 = .ok (.ireturn, 1) := by decide +kernel
theorem dX10_ofState_142 : decode cX10_ofState 142 = .ok (.iload_n 2, 1) := by decide +kernel
theorem dX10_ofState_143 : decode cX10_ofState 143 = .ok (.aload_n 0, 1) := by decide +kernel
theorem dX10_ofState_144 : decode cX10_ofState 144 = .ok (.getfield 276, 3) := by decide +kernel
theorem dX10_ofState_147 : decode cX10_ofState 147 = .ok (.if_icmp .ge 11, 3) := by decide +kernel
theorem dX10_ofState_150 : decode cX10_ofState 150 = .ok (.aload_n 0, 1) := by decide +kernel
theorem dX10_ofState_151 : decode cX10_ofState 151 = .ok (.iload_n 2, 1) := by decide +kernel
theorem dX10_ofState_152 : decode cX10_ofState 152 = .ok (.invokevirtual 312, 3) := by decide +kernel
theorem dX10_ofState_155 : decode cX10_ofState 155 = .ok (.goto 5, 3) := by decide +kernel
theorem dX10_ofState_158 : decode cX10_ofState 158 = .ok (.bipush (-2), 2) := by decide +kernel
theorem dX10_ofState_160 : decode cX10_ofState 160 = .ok (.ireturn, 1) := by decide +kernel
theorem dX10_ofState_161 : decode cX10_ofState 161 = .ok (.bipush (-2), 2) := by decide +kernel
theorem dX10_ofState_163 : decode cX10_ofState 163 = .ok (.ireturn, 1) := by decide +kernel
abbrev rmX10_ofState : Room := { frames := 2, cells := 0, slots := 0, locals := 44 }
def fX10_ofState (a0 : Nat) (l1 : Int32) (z : AH) : Option (Int32) :=
  if isO 9 z a0 = true then
    nm (irem l1 (10 : Int32)) fun v4 =>
    if (l1 / (10 : Int32)) = (0 : Int32) then (
      if l1 = (0 : Int32) then (
        (gI 9 37 z a0).bind fun x45 =>
        some x45
      ) else (
        if l1 = (1 : Int32) then (
          (gI 9 31 z a0).bind fun x57 =>
          some x57
        ) else (
          if l1 = (2 : Int32) then (
            (gI 9 32 z a0).bind fun x69 =>
            some x69
          ) else (
            if l1 = (3 : Int32) then (
              (gI 9 33 z a0).bind fun x81 =>
              some x81
            ) else (
              if l1 = (4 : Int32) then (
                (gI 9 34 z a0).bind fun x93 =>
                some x93
              ) else (
                some (-2 : Int32)
              )
            )
          )
        )
      )
    ) else
    if (l1 / (10 : Int32)) = (1 : Int32) then (
      (gI 9 26 z a0).bind fun x104 =>
      if x104 ≤ v4 then (
        some (-2 : Int32)
      ) else (
        (gN 9 28 z a0).bind fun b111 =>
        (ixI 0 z b111 v4).bind fun x115 =>
        some x115
      )
    ) else
    if (l1 / (10 : Int32)) = (2 : Int32) then (
      (gI 9 26 z a0).bind fun x124 =>
      if x124 ≤ v4 then (
        some (-2 : Int32)
      ) else (
        (gN 9 29 z a0).bind fun b131 =>
        (ixI 0 z b131 v4).bind fun x135 =>
        some x135
      )
    ) else
    if (l1 / (10 : Int32)) = (3 : Int32) then (
      (gI 9 26 z a0).bind fun x144 =>
      if x144 ≤ v4 then (
        some (-2 : Int32)
      ) else (
        (fX10_bears a0 v4 z).bind fun x152 =>
        some x152
      )
    ) else
    some (-2 : Int32)
  else none
set_option maxHeartbeats 4000000 in
set_option maxRecDepth 100000 in
theorem ctX10_ofState (l : Launch) (G : GW) (a0 : Nat) (l1 : Int32) (z : AH) {r : Int32} (h : fX10_ofState a0 l1 z = some r) : Met l yX10_ofState (wy yX10_ofState cX10_ofState 3 (some .int)) rmX10_ofState (Pz G [.ref (gB G + a0), .int l1] z) (Qi G r z) 0 0 (AA G) := by
  refine wz_ent (own := RX10) (by decide +kernel) rfl (fun p e s m below meth c ls C hlk hr hin hW hl => ?_) (Nat.le_of_ble_eq_true rfl)
  have hl : lv_has ls 3 [(0, .ref (gB G + a0)), (1, .int l1)] := hl
  have hx := C.1
  have hb := C.2.1
  unfold fX10_ofState at h
  obtain ⟨-, h⟩ := ck h
  refine lv_iload_n hx hb dX10_ofState_0 rfl (lv_at hl 1 rfl) ?_
  refine lv_bipush (v := 10) hx hb dX10_ofState_1 (by decide) ?_
  refine wz_irem hx hb dX10_ofState_3 (by decide) ?_
  refine lv_topi (fun v4 ev4 => ?_)
  have h := nm_to h ev4
  refine lv_istore_n (lv' := [(2, .int v4), (0, .ref (gB G + a0)), (1, .int l1)]) hx hb dX10_ofState_4 rfl hl (by decide) rfl (fun ls hl => ?_)
  refine lv_iload_n hx hb dX10_ofState_5 rfl (lv_at hl 2 rfl) ?_
  refine lv_bipush (v := 10) hx hb dX10_ofState_6 (by decide) ?_
  refine lv_idiv hx hb dX10_ofState_8 (by decide) ?_
  by_cases c9_0 : (l1 / (10 : Int32)) = (0 : Int32)
  · have h := ite_t c9_0 h
    refine wz_sw (0 : Int32) (tgt := 40) hx hb dX10_ofState_9 c9_0 (by decide) rfl (by decide) ?_
    refine lv_iload_n hx hb dX10_ofState_40 rfl (lv_at hl 2 rfl) ?_
    refine lv_if_ne (tgt := 51) hx hb dX10_ofState_41 (by decide) (fun c41 => ?_) (fun c41 => ?_)
    · have h := ite_f c41 h
      refine lv_iload_n hx hb dX10_ofState_51 rfl (lv_at hl 2 rfl) ?_
      refine lv_iconst (v := 1) hx hb dX10_ofState_52 (by decide) ?_
      refine lv_icmp_ne (tgt := 63) hx hb dX10_ofState_53 (by decide) (fun c53 => ?_) (fun c53 => ?_)
      · have h := ite_f c53 h
        refine lv_iload_n hx hb dX10_ofState_63 rfl (lv_at hl 2 rfl) ?_
        refine lv_iconst (v := 2) hx hb dX10_ofState_64 (by decide) ?_
        refine lv_icmp_ne (tgt := 75) hx hb dX10_ofState_65 (by decide) (fun c65 => ?_) (fun c65 => ?_)
        · have h := ite_f c65 h
          refine lv_iload_n hx hb dX10_ofState_75 rfl (lv_at hl 2 rfl) ?_
          refine lv_iconst (v := 3) hx hb dX10_ofState_76 (by decide) ?_
          refine lv_icmp_ne (tgt := 87) hx hb dX10_ofState_77 (by decide) (fun c77 => ?_) (fun c77 => ?_)
          · have h := ite_f c77 h
            refine lv_iload_n hx hb dX10_ofState_87 rfl (lv_at hl 2 rfl) ?_
            refine lv_iconst (v := 4) hx hb dX10_ofState_88 (by decide) ?_
            refine lv_icmp_ne (tgt := 99) hx hb dX10_ofState_89 (by decide) (fun c89 => ?_) (fun c89 => ?_)
            · have h := ite_f c89 h
              refine lv_bipush (v := -2) hx hb dX10_ofState_99 (by decide) ?_
              exact wz_iretE C hlk hr (Option.some.inj h) rfl hW dX10_ofState_101
            · have h := ite_t c89 h
              refine lv_aload_n hx hb dX10_ofState_92 rfl (lv_at hl 1 rfl) ?_
              obtain ⟨x93, hg, h⟩ := ob h
              refine wz_gI C hW flX10_297 hg dX10_ofState_93 ?_
              refine lv_goto (tgt := 101) hx hb dX10_ofState_96 (by decide) ?_
              exact wz_iretE C hlk hr (Option.some.inj h) rfl hW dX10_ofState_101
          · have h := ite_t c77 h
            refine lv_aload_n hx hb dX10_ofState_80 rfl (lv_at hl 1 rfl) ?_
            obtain ⟨x81, hg, h⟩ := ob h
            refine wz_gI C hW flX10_294 hg dX10_ofState_81 ?_
            refine lv_goto (tgt := 101) hx hb dX10_ofState_84 (by decide) ?_
            exact wz_iretE C hlk hr (Option.some.inj h) rfl hW dX10_ofState_101
        · have h := ite_t c65 h
          refine lv_aload_n hx hb dX10_ofState_68 rfl (lv_at hl 1 rfl) ?_
          obtain ⟨x69, hg, h⟩ := ob h
          refine wz_gI C hW flX10_291 hg dX10_ofState_69 ?_
          refine lv_goto (tgt := 101) hx hb dX10_ofState_72 (by decide) ?_
          exact wz_iretE C hlk hr (Option.some.inj h) rfl hW dX10_ofState_101
      · have h := ite_t c53 h
        refine lv_aload_n hx hb dX10_ofState_56 rfl (lv_at hl 1 rfl) ?_
        obtain ⟨x57, hg, h⟩ := ob h
        refine wz_gI C hW flX10_288 hg dX10_ofState_57 ?_
        refine lv_goto (tgt := 101) hx hb dX10_ofState_60 (by decide) ?_
        exact wz_iretE C hlk hr (Option.some.inj h) rfl hW dX10_ofState_101
    · have h := ite_t c41 h
      refine lv_aload_n hx hb dX10_ofState_44 rfl (lv_at hl 1 rfl) ?_
      obtain ⟨x45, hg, h⟩ := ob h
      refine wz_gI C hW flX10_306 hg dX10_ofState_45 ?_
      refine lv_goto (tgt := 101) hx hb dX10_ofState_48 (by decide) ?_
      exact wz_iretE C hlk hr (Option.some.inj h) rfl hW dX10_ofState_101
  have h := ite_f c9_0 h
  by_cases c9_1 : (l1 / (10 : Int32)) = (1 : Int32)
  · have h := ite_t c9_1 h
    refine wz_sw (1 : Int32) (tgt := 102) hx hb dX10_ofState_9 c9_1 (by decide) rfl (by decide) ?_
    refine lv_iload_n hx hb dX10_ofState_102 rfl (lv_at hl 0 rfl) ?_
    refine lv_aload_n hx hb dX10_ofState_103 rfl (lv_at hl 1 rfl) ?_
    obtain ⟨x104, hg, h⟩ := ob h
    refine wz_gI C hW flX10_276 hg dX10_ofState_104 ?_
    refine lv_icmp_ge (tgt := 119) hx hb dX10_ofState_107 (by decide) (fun c107 => ?_) (fun c107 => ?_)
    · have h := ite_t c107 h
      refine lv_bipush (v := -2) hx hb dX10_ofState_119 (by decide) ?_
      exact wz_iretE C hlk hr (Option.some.inj h) rfl hW dX10_ofState_121
    · have h := ite_f c107 h
      refine lv_aload_n hx hb dX10_ofState_110 rfl (lv_at hl 1 rfl) ?_
      obtain ⟨b111, hg, h⟩ := ob h
      refine wz_gN C hW flX10_44 hg dX10_ofState_111 ?_
      refine lv_iload_n hx hb dX10_ofState_114 rfl (lv_at hl 0 rfl) ?_
      obtain ⟨x115, hg, h⟩ := ob h
      refine wz_ald C hW hg dX10_ofState_115 ?_
      refine lv_goto (tgt := 121) hx hb dX10_ofState_116 (by decide) ?_
      exact wz_iretE C hlk hr (Option.some.inj h) rfl hW dX10_ofState_121
  have h := ite_f c9_1 h
  by_cases c9_2 : (l1 / (10 : Int32)) = (2 : Int32)
  · have h := ite_t c9_2 h
    refine wz_sw (2 : Int32) (tgt := 122) hx hb dX10_ofState_9 c9_2 (by decide) rfl (by decide) ?_
    refine lv_iload_n hx hb dX10_ofState_122 rfl (lv_at hl 0 rfl) ?_
    refine lv_aload_n hx hb dX10_ofState_123 rfl (lv_at hl 1 rfl) ?_
    obtain ⟨x124, hg, h⟩ := ob h
    refine wz_gI C hW flX10_276 hg dX10_ofState_124 ?_
    refine lv_icmp_ge (tgt := 139) hx hb dX10_ofState_127 (by decide) (fun c127 => ?_) (fun c127 => ?_)
    · have h := ite_t c127 h
      refine lv_bipush (v := -2) hx hb dX10_ofState_139 (by decide) ?_
      exact wz_iretE C hlk hr (Option.some.inj h) rfl hW dX10_ofState_141
    · have h := ite_f c127 h
      refine lv_aload_n hx hb dX10_ofState_130 rfl (lv_at hl 1 rfl) ?_
      obtain ⟨b131, hg, h⟩ := ob h
      refine wz_gN C hW flX10_47 hg dX10_ofState_131 ?_
      refine lv_iload_n hx hb dX10_ofState_134 rfl (lv_at hl 0 rfl) ?_
      obtain ⟨x135, hg, h⟩ := ob h
      refine wz_ald C hW hg dX10_ofState_135 ?_
      refine lv_goto (tgt := 141) hx hb dX10_ofState_136 (by decide) ?_
      exact wz_iretE C hlk hr (Option.some.inj h) rfl hW dX10_ofState_141
  have h := ite_f c9_2 h
  by_cases c9_3 : (l1 / (10 : Int32)) = (3 : Int32)
  · have h := ite_t c9_3 h
    refine wz_sw (3 : Int32) (tgt := 142) hx hb dX10_ofState_9 c9_3 (by decide) rfl (by decide) ?_
    refine lv_iload_n hx hb dX10_ofState_142 rfl (lv_at hl 0 rfl) ?_
    refine lv_aload_n hx hb dX10_ofState_143 rfl (lv_at hl 1 rfl) ?_
    obtain ⟨x144, hg, h⟩ := ob h
    refine wz_gI C hW flX10_276 hg dX10_ofState_144 ?_
    refine lv_icmp_ge (tgt := 158) hx hb dX10_ofState_147 (by decide) (fun c147 => ?_) (fun c147 => ?_)
    · have h := ite_t c147 h
      refine lv_bipush (v := -2) hx hb dX10_ofState_158 (by decide) ?_
      exact wz_iretE C hlk hr (Option.some.inj h) rfl hW dX10_ofState_160
    · have h := ite_f c147 h
      refine lv_aload_n hx hb dX10_ofState_150 rfl (lv_at hl 1 rfl) ?_
      refine lv_iload_n hx hb dX10_ofState_151 rfl (lv_at hl 0 rfl) ?_
      obtain ⟨x152, hq, h⟩ := ob h
      refine wz_rI (c' := 0) (s' := 0) hW (wz_runV (rest := []) C hW lVX10_312 (ck hq).1 rfl (ctX10_bears l G a0 v4 z hq) ⟨⟨rfl, rfl⟩, Nat.le_of_ble_eq_true rfl, Nat.le_of_ble_eq_true rfl⟩ rfl hl.1 rfl (Nat.le_of_ble_eq_true rfl) dX10_ofState_152 ⟨Nat.le_of_ble_eq_true rfl, Nat.le_of_ble_eq_true rfl⟩) rfl rfl (fun H locs hW => ?_)
      refine lv_goto (tgt := 160) hx hb dX10_ofState_155 (by decide) ?_
      exact wz_iretE C hlk hr (Option.some.inj h) rfl hW dX10_ofState_160
  have h := ite_f c9_3 h
  refine lv_tableOut (tgt := 161) hx hb dX10_ofState_9 (by have g0 := i32_ne c9_0 (z := 0) (by decide); have g1 := i32_ne c9_1 (z := 1) (by decide); have g2 := i32_ne c9_2 (z := 2) (by decide); have g3 := i32_ne c9_3 (z := 3) (by decide); omega) (by decide) ?_
  refine lv_bipush (v := -2) hx hb dX10_ofState_161 (by decide) ?_
  exact wz_iretE C hlk hr (Option.some.inj h) rfl hW dX10_ofState_163
theorem dX10_state_0 : decode cX10_state 0 = .ok (.aload_n 0, 1) := by decide +kernel
theorem dX10_state_1 : decode cX10_state 1 = .ok (.iconst 0, 1) := by decide +kernel
theorem dX10_state_2 : decode cX10_state 2 = .ok (.putfield 81, 3) := by decide +kernel
theorem dX10_state_5 : decode cX10_state 5 = .ok (.aload_n 0, 1) := by decide +kernel
theorem dX10_state_6 : decode cX10_state 6 = .ok (.iload_n 1, 1) := by decide +kernel
theorem dX10_state_7 : decode cX10_state 7 = .ok (.iload_n 2, 1) := by decide +kernel
theorem dX10_state_8 : decode cX10_state 8 = .ok (.invokevirtual 373, 3) := by decide +kernel
theorem dX10_state_11 : decode cX10_state 11 = .ok (.ifCond .eq 33, 3) := by decide +kernel
theorem dX10_state_14 : decode cX10_state 14 = .ok (.iload_n 3, 1) := by decide +kernel
theorem dX10_state_15 : decode cX10_state 15 = .ok (.iconst 0, 1) := by decide +kernel
theorem dX10_state_16 : decode cX10_state 16 = .ok (.aload_n 0, 1) := by decide +kernel
theorem dX10_state_17 : decode cX10_state 17 = .ok (.invokevirtual 339, 3) := by decide +kernel
theorem dX10_state_20 : decode cX10_state 20 = .ok (.invokestatic 93, 3) := by decide +kernel
theorem dX10_state_23 : decode cX10_state 23 = .ok (.ifCond .eq 21, 3) := by decide +kernel
theorem dX10_state_26 : decode cX10_state 26 = .ok (.aload_n 0, 1) := by decide +kernel
theorem dX10_state_27 : decode cX10_state 27 = .ok (.iload_n 3, 1) := by decide +kernel
theorem dX10_state_28 : decode cX10_state 28 = .ok (.invokevirtual 376, 3) := by decide +kernel
theorem dX10_state_31 : decode cX10_state 31 = .ok (.iload_n 3, 1) := by decide +kernel
theorem dX10_state_32 : decode cX10_state 32 = .ok (.if_icmp .ne 12, 3) := by decide +kernel
theorem dX10_state_35 : decode cX10_state 35 = .ok (.aload_n 0, 1) := by decide +kernel
theorem dX10_state_36 : decode cX10_state 36 = .ok (.iload 4, 2) := by decide +kernel
theorem dX10_state_38 : decode cX10_state 38 = .ok (.invokevirtual 379, 3) := by decide +kernel
theorem dX10_state_41 : decode cX10_state 41 = .ok (.goto 5, 3) := by decide +kernel
theorem dX10_state_44 : decode cX10_state 44 = .ok (.bipush (-2), 2) := by decide +kernel
theorem dX10_state_46 : decode cX10_state 46 = .ok (.ireturn, 1) := by decide +kernel
theorem cdX10_ofState : Cond.code yX10_ofState cX10_ofState 3 (some .int) ∈ tz := tc7 77 rfl rfl
theorem lVX10_379 : LV RX10 379 yX10_ofState cX10_ofState 3 (some .int) 1 := ⟨tw 1633 (by decide +kernel) rfl, tw 1635 (by decide +kernel) rfl, tw 85 (by decide +kernel) rfl, tw 128 (by decide +kernel) rfl, cdX10_ofState, ⟨by decide +kernel, by decide +kernel, by decide +kernel⟩⟩
abbrev rmX10_state : Room := { frames := 7, cells := 0, slots := 0, locals := 153 }
def fX10_state (a0 : Nat) (l1 : Int32) (l2 : Int32) (l3 : Int32) (l4 : Int32) (z : AH) : Option (Int32 × AH) :=
  if isO 9 z a0 = true then
    (pF 9 0 z a0 (.int (0 : Int32))).bind fun z2 =>
    b2 (fX10_layAll a0 l1 l2 z2) fun x8 z8 =>
    if x8 = (0 : Int32) then (
      some ((-2 : Int32), z8)
    ) else (
      (fX10_deeds a0 z8).bind fun x17 =>
      if (fX10_in l3 (0 : Int32) x17) = (0 : Int32) then (
        some ((-2 : Int32), z8)
      ) else (
        b2 (fX10_play a0 l3 z8) fun x28 z28 =>
        if x28 = l3 then (
          (fX10_ofState a0 l4 z28).bind fun x38 =>
          some (x38, z28)
        ) else (
          some ((-2 : Int32), z28)
        )
      )
    )
  else none
set_option maxHeartbeats 4000000 in
set_option maxRecDepth 100000 in
theorem ctX10_state (l : Launch) (G : GW) (a0 : Nat) (l1 : Int32) (l2 : Int32) (l3 : Int32) (l4 : Int32) (z : AH) {r : Int32} {z' : AH} (h : fX10_state a0 l1 l2 l3 l4 z = some (r, z')) : Met l yX10_state (wy yX10_state cX10_state 5 (some .int)) rmX10_state (Pz G [.ref (gB G + a0), .int l1, .int l2, .int l3, .int l4] z) (Qi G r z') 0 0 (AA G) := by
  refine wz_ent (own := RX10) (by decide +kernel) rfl (fun p e s m below meth c ls C hlk hr hin hW hl => ?_) (Nat.le_of_ble_eq_true rfl)
  have hl : lv_has ls 5 [(0, .ref (gB G + a0)), (1, .int l1), (2, .int l2), (3, .int l3), (4, .int l4)] := hl
  have hx := C.1
  have hb := C.2.1
  unfold fX10_state at h
  obtain ⟨-, h⟩ := ck h
  refine lv_aload_n hx hb dX10_state_0 rfl (lv_at hl 0 rfl) ?_
  refine lv_iconst (v := 0) hx hb dX10_state_1 (by decide) ?_
  obtain ⟨z2, hg, h⟩ := ob h
  refine wz_put (v := (.int (0 : Int32))) C hW flX10_81 rfl rfl hg dX10_state_2 (fun H locs hW => ?_)
  refine lv_aload_n hx hb dX10_state_5 rfl (lv_at hl 0 rfl) ?_
  refine lv_iload_n hx hb dX10_state_6 rfl (lv_at hl 1 rfl) ?_
  refine lv_iload_n hx hb dX10_state_7 rfl (lv_at hl 2 rfl) ?_
  obtain ⟨x8, z8, hq, h⟩ := ob2 h
  refine wz_rI (c' := 0) (s' := 0) hW (wz_runV (rest := []) C hW lVX10_373 (ck hq).1 rfl (ctX10_layAll l G a0 l1 l2 z2 hq) ⟨⟨rfl, rfl⟩, Nat.le_of_ble_eq_true rfl, Nat.le_of_ble_eq_true rfl⟩ rfl hl.1 rfl (Nat.le_of_ble_eq_true rfl) dX10_state_8 ⟨Nat.le_of_ble_eq_true rfl, Nat.le_of_ble_eq_true rfl⟩) rfl rfl (fun H locs hW => ?_)
  refine lv_if_eq (tgt := 44) hx hb dX10_state_11 (by decide) (fun c11 => ?_) (fun c11 => ?_)
  · have h := ite_t c11 h
    refine lv_bipush (v := -2) hx hb dX10_state_44 (by decide) ?_
    exact wz_iretE C hlk hr (so2 h).1 (so2 h).2 hW dX10_state_46
  · have h := ite_f c11 h
    refine lv_iload_n hx hb dX10_state_14 rfl (lv_at hl 3 rfl) ?_
    refine lv_iconst (v := 0) hx hb dX10_state_15 (by decide) ?_
    refine lv_aload_n hx hb dX10_state_16 rfl (lv_at hl 0 rfl) ?_
    obtain ⟨x17, hq, h⟩ := ob h
    refine wz_rI (c' := 0) (s' := 0) hW (wz_runV (rest := [.int (0 : Int32), .int l3]) C hW lVX10_339 (ck hq).1 rfl (ctX10_deeds l G a0 z8 hq) ⟨⟨rfl, rfl⟩, Nat.le_of_ble_eq_true rfl, Nat.le_of_ble_eq_true rfl⟩ rfl hl.1 rfl (Nat.le_of_ble_eq_true rfl) dX10_state_17 ⟨Nat.le_of_ble_eq_true rfl, Nat.le_of_ble_eq_true rfl⟩) rfl rfl (fun H locs hW => ?_)
    refine wz_rI (c' := 0) (s' := 0) hW (wz_runS (rest := []) C hW lTX10_93 (ctX10_in l G l3 (0 : Int32) x17 z8 rfl) ⟨⟨rfl, rfl⟩, Nat.le_of_ble_eq_true rfl, Nat.le_of_ble_eq_true rfl⟩ rfl hl.1 rfl (Nat.le_of_ble_eq_true rfl) dX10_state_20 ⟨Nat.le_of_ble_eq_true rfl, Nat.le_of_ble_eq_true rfl⟩) rfl rfl (fun H locs hW => ?_)
    refine lv_if_eq (tgt := 44) hx hb dX10_state_23 (by decide) (fun c23 => ?_) (fun c23 => ?_)
    · have h := ite_t c23 h
      refine lv_bipush (v := -2) hx hb dX10_state_44 (by decide) ?_
      exact wz_iretE C hlk hr (so2 h).1 (so2 h).2 hW dX10_state_46
    · have h := ite_f c23 h
      refine lv_aload_n hx hb dX10_state_26 rfl (lv_at hl 0 rfl) ?_
      refine lv_iload_n hx hb dX10_state_27 rfl (lv_at hl 3 rfl) ?_
      obtain ⟨x28, z28, hq, h⟩ := ob2 h
      refine wz_rI (c' := 0) (s' := 0) hW (wz_runV (rest := []) C hW lVX10_376 (ck hq).1 rfl (ctX10_play l G a0 l3 z8 hq) ⟨⟨rfl, rfl⟩, Nat.le_of_ble_eq_true rfl, Nat.le_of_ble_eq_true rfl⟩ rfl hl.1 rfl (Nat.le_of_ble_eq_true rfl) dX10_state_28 ⟨Nat.le_of_ble_eq_true rfl, Nat.le_of_ble_eq_true rfl⟩) rfl rfl (fun H locs hW => ?_)
      refine lv_iload_n hx hb dX10_state_31 rfl (lv_at hl 3 rfl) ?_
      refine lv_icmp_ne (tgt := 44) hx hb dX10_state_32 (by decide) (fun c32 => ?_) (fun c32 => ?_)
      · have h := ite_f c32 h
        refine lv_bipush (v := -2) hx hb dX10_state_44 (by decide) ?_
        exact wz_iretE C hlk hr (so2 h).1 (so2 h).2 hW dX10_state_46
      · have h := ite_t c32 h
        refine lv_aload_n hx hb dX10_state_35 rfl (lv_at hl 0 rfl) ?_
        refine lv_iload hx hb dX10_state_36 (lv_at hl 4 rfl) ?_
        obtain ⟨x38, hq, h⟩ := ob h
        refine wz_rI (c' := 0) (s' := 0) hW (wz_runV (rest := []) C hW lVX10_379 (ck hq).1 rfl (ctX10_ofState l G a0 l4 z28 hq) ⟨⟨rfl, rfl⟩, Nat.le_of_ble_eq_true rfl, Nat.le_of_ble_eq_true rfl⟩ rfl hl.1 rfl (Nat.le_of_ble_eq_true rfl) dX10_state_38 ⟨Nat.le_of_ble_eq_true rfl, Nat.le_of_ble_eq_true rfl⟩) rfl rfl (fun H locs hW => ?_)
        refine lv_goto (tgt := 46) hx hb dX10_state_41 (by decide) ?_
        exact wz_iretE C hlk hr (so2 h).1 (so2 h).2 hW dX10_state_46
theorem dX10_lasts_0 : decode cX10_lasts 0 = .ok (.aload_n 0, 1) := by decide +kernel
theorem dX10_lasts_1 : decode cX10_lasts 1 = .ok (.iconst 0, 1) := by decide +kernel
theorem dX10_lasts_2 : decode cX10_lasts 2 = .ok (.putfield 81, 3) := by decide +kernel
theorem dX10_lasts_5 : decode cX10_lasts 5 = .ok (.aload_n 0, 1) := by decide +kernel
theorem dX10_lasts_6 : decode cX10_lasts 6 = .ok (.iload_n 1, 1) := by decide +kernel
theorem dX10_lasts_7 : decode cX10_lasts 7 = .ok (.invokevirtual 330, 3) := by decide +kernel
theorem dX10_lasts_10 : decode cX10_lasts 10 = .ok (.ifCond .eq 11, 3) := by decide +kernel
theorem dX10_lasts_13 : decode cX10_lasts 13 = .ok (.aload_n 0, 1) := by decide +kernel
theorem dX10_lasts_14 : decode cX10_lasts 14 = .ok (.iload_n 2, 1) := by decide +kernel
theorem dX10_lasts_15 : decode cX10_lasts 15 = .ok (.invokevirtual 309, 3) := by decide +kernel
theorem dX10_lasts_18 : decode cX10_lasts 18 = .ok (.ifCond .ne 5, 3) := by decide +kernel
theorem dX10_lasts_21 : decode cX10_lasts 21 = .ok (.iconst (-1), 1) := by decide +kernel
theorem dX10_lasts_22 : decode cX10_lasts 22 = .ok (.ireturn, 1) := by decide +kernel
theorem dX10_lasts_23 : decode cX10_lasts 23 = .ok (.aload_n 0, 1) := by decide +kernel
theorem dX10_lasts_24 : decode cX10_lasts 24 = .ok (.getfield 306, 3) := by decide +kernel
theorem dX10_lasts_27 : decode cX10_lasts 27 = .ok (.bipush 99, 2) := by decide +kernel
theorem dX10_lasts_29 : decode cX10_lasts 29 = .ok (.if_icmp .ge 21, 3) := by decide +kernel
theorem dX10_lasts_32 : decode cX10_lasts 32 = .ok (.aload_n 0, 1) := by decide +kernel
theorem dX10_lasts_33 : decode cX10_lasts 33 = .ok (.getfield 288, 3) := by decide +kernel
theorem dX10_lasts_36 : decode cX10_lasts 36 = .ok (.iload_n 2, 1) := by decide +kernel
theorem dX10_lasts_37 : decode cX10_lasts 37 = .ok (.invokestatic 85, 3) := by decide +kernel
theorem dX10_lasts_40 : decode cX10_lasts 40 = .ok (.ifCond .ne 10, 3) := by decide +kernel
theorem dX10_lasts_43 : decode cX10_lasts 43 = .ok (.aload_n 0, 1) := by decide +kernel
theorem dX10_lasts_44 : decode cX10_lasts 44 = .ok (.invokevirtual 364, 3) := by decide +kernel
theorem dX10_lasts_47 : decode cX10_lasts 47 = .ok (.goto (-24), 3) := by decide +kernel
theorem dX10_lasts_50 : decode cX10_lasts 50 = .ok (.aload_n 0, 1) := by decide +kernel
theorem dX10_lasts_51 : decode cX10_lasts 51 = .ok (.getfield 288, 3) := by decide +kernel
theorem dX10_lasts_54 : decode cX10_lasts 54 = .ok (.iload_n 2, 1) := by decide +kernel
theorem dX10_lasts_55 : decode cX10_lasts 55 = .ok (.invokestatic 85, 3) := by decide +kernel
theorem dX10_lasts_58 : decode cX10_lasts 58 = .ok (.ifCond .eq 10, 3) := by decide +kernel
theorem dX10_lasts_61 : decode cX10_lasts 61 = .ok (.aload_n 0, 1) := by decide +kernel
theorem dX10_lasts_62 : decode cX10_lasts 62 = .ok (.getfield 306, 3) := by decide +kernel
theorem dX10_lasts_65 : decode cX10_lasts 65 = .ok (.goto 4, 3) := by decide +kernel
theorem dX10_lasts_68 : decode cX10_lasts 68 = .ok (.iconst (-1), 1) := by decide +kernel
theorem dX10_lasts_69 : decode cX10_lasts 69 = .ok (.ireturn, 1) := by decide +kernel
abbrev rmX10_lasts : Room := { frames := 4, cells := 0, slots := 0, locals := 89 }
def bX10_lasts_50 (a0 : Nat) (l2 : Int32) (z : AH) : Option (Int32 × AH) :=
  (gI 9 31 z a0).bind fun x51 =>
  if (fX10_has x51 l2) = (0 : Int32) then (
    some ((-1 : Int32), z)
  ) else (
    (gI 9 37 z a0).bind fun x62 =>
    some (x62, z)
  )
set_option maxHeartbeats 4000000 in
set_option maxRecDepth 100000 in
theorem kbX10_lasts_50 {p : Program} {l : Launch} {e : Env} {s : State} {m : MethodId} {args : Array Value} {below : List Frame} {meth : Method} {c : Code} {G : GW} {r : Int32} {z' : AH} (C : Cx p m c cX10_lasts 3 s args RX10 G) (hlk : meth.locks = false) (hr : meth.sig.returnType = (some .int)) (a0 : Nat) (l2 : Int32) {z : AH} {H : Heap} {locs : List Loc} {ls : Array Slot} (h : bX10_lasts_50 a0 l2 z = some (r, z')) (hW : Wb G z s H locs) (hl : lv_has ls 3 [(0, .ref (gB G + a0)), (2, .int l2)]) : W p l e rmX10_lasts s m args below meth c H locs 0 0 (MQ below (Qi G r z') args s 0 0 (AA G)) (F0 m 50 ls []) := by
  have hx := C.1
  have hb := C.2.1
  unfold bX10_lasts_50 at h
  refine lv_aload_n hx hb dX10_lasts_50 rfl (lv_at hl 0 rfl) ?_
  obtain ⟨x51, hg, h⟩ := ob h
  refine wz_gI C hW flX10_288 hg dX10_lasts_51 ?_
  refine lv_iload_n hx hb dX10_lasts_54 rfl (lv_at hl 1 rfl) ?_
  refine wz_rI (c' := 0) (s' := 0) hW (wz_runS (rest := []) C hW lTX10_85 (ctX10_has l G x51 l2 z rfl) ⟨⟨rfl, rfl⟩, Nat.le_of_ble_eq_true rfl, Nat.le_of_ble_eq_true rfl⟩ rfl hl.1 rfl (Nat.le_of_ble_eq_true rfl) dX10_lasts_55 ⟨Nat.le_of_ble_eq_true rfl, Nat.le_of_ble_eq_true rfl⟩) rfl rfl (fun H locs hW => ?_)
  refine lv_if_eq (tgt := 68) hx hb dX10_lasts_58 (by decide) (fun c58 => ?_) (fun c58 => ?_)
  · have h := ite_t c58 h
    refine lv_iconst (v := -1) hx hb dX10_lasts_68 (by decide) ?_
    exact wz_iretE C hlk hr (so2 h).1 (so2 h).2 hW dX10_lasts_69
  · have h := ite_f c58 h
    refine lv_aload_n hx hb dX10_lasts_61 rfl (lv_at hl 0 rfl) ?_
    obtain ⟨x62, hg, h⟩ := ob h
    refine wz_gI C hW flX10_306 hg dX10_lasts_62 ?_
    refine lv_goto (tgt := 69) hx hb dX10_lasts_65 (by decide) ?_
    exact wz_iretE C hlk hr (so2 h).1 (so2 h).2 hW dX10_lasts_69
def bX10_lasts_23 (k23 : Nat → Int32 → AH → Option (Int32 × AH)) (a0 : Nat) (l2 : Int32) (z : AH) : Option (Int32 × AH) :=
  (gI 9 37 z a0).bind fun x24 =>
  if (99 : Int32) ≤ x24 then (
    bX10_lasts_50 a0 l2 z
  ) else (
    (gI 9 31 z a0).bind fun x33 =>
    if (fX10_has x33 l2) = (0 : Int32) then (
      (fX10_goesOn a0 z).bind fun z44 =>
      k23 a0 l2 z44
    ) else (
      bX10_lasts_50 a0 l2 z
    )
  )
set_option maxHeartbeats 4000000 in
set_option maxRecDepth 100000 in
theorem kbX10_lasts_23 {p : Program} {l : Launch} {e : Env} {s : State} {m : MethodId} {args : Array Value} {below : List Frame} {meth : Method} {c : Code} {G : GW} {r : Int32} {z' : AH} (C : Cx p m c cX10_lasts 3 s args RX10 G) (hlk : meth.locks = false) (hr : meth.sig.returnType = (some .int)) (k23 : Nat → Int32 → AH → Option (Int32 × AH)) (hk23 : ∀ (a0 : Nat) (l2 : Int32) (z : AH) (H : Heap) (locs : List Loc) (ls : Array Slot), k23 a0 l2 z = some (r, z') → Wb G z s H locs → lv_has ls 3 [(0, .ref (gB G + a0)), (2, .int l2)] → W p l e rmX10_lasts s m args below meth c H locs 0 0 (MQ below (Qi G r z') args s 0 0 (AA G)) (F0 m 23 ls [])) (a0 : Nat) (l2 : Int32) {z : AH} {H : Heap} {locs : List Loc} {ls : Array Slot} (h : bX10_lasts_23 k23 a0 l2 z = some (r, z')) (hW : Wb G z s H locs) (hl : lv_has ls 3 [(0, .ref (gB G + a0)), (2, .int l2)]) : W p l e rmX10_lasts s m args below meth c H locs 0 0 (MQ below (Qi G r z') args s 0 0 (AA G)) (F0 m 23 ls []) := by
  have hx := C.1
  have hb := C.2.1
  unfold bX10_lasts_23 at h
  refine lv_aload_n hx hb dX10_lasts_23 rfl (lv_at hl 0 rfl) ?_
  obtain ⟨x24, hg, h⟩ := ob h
  refine wz_gI C hW flX10_306 hg dX10_lasts_24 ?_
  refine lv_bipush (v := 99) hx hb dX10_lasts_27 (by decide) ?_
  refine lv_icmp_ge (tgt := 50) hx hb dX10_lasts_29 (by decide) (fun c29 => ?_) (fun c29 => ?_)
  · have h := ite_t c29 h
    exact kbX10_lasts_50 C hlk hr a0 l2 h hW (lv_sub hl [0, 1] rfl)
  · have h := ite_f c29 h
    refine lv_aload_n hx hb dX10_lasts_32 rfl (lv_at hl 0 rfl) ?_
    obtain ⟨x33, hg, h⟩ := ob h
    refine wz_gI C hW flX10_288 hg dX10_lasts_33 ?_
    refine lv_iload_n hx hb dX10_lasts_36 rfl (lv_at hl 1 rfl) ?_
    refine wz_rI (c' := 0) (s' := 0) hW (wz_runS (rest := []) C hW lTX10_85 (ctX10_has l G x33 l2 z rfl) ⟨⟨rfl, rfl⟩, Nat.le_of_ble_eq_true rfl, Nat.le_of_ble_eq_true rfl⟩ rfl hl.1 rfl (Nat.le_of_ble_eq_true rfl) dX10_lasts_37 ⟨Nat.le_of_ble_eq_true rfl, Nat.le_of_ble_eq_true rfl⟩) rfl rfl (fun H locs hW => ?_)
    refine lv_if_ne (tgt := 50) hx hb dX10_lasts_40 (by decide) (fun c40 => ?_) (fun c40 => ?_)
    · have h := ite_f c40 h
      exact kbX10_lasts_50 C hlk hr a0 l2 h hW (lv_sub hl [0, 1] rfl)
    · have h := ite_t c40 h
      refine lv_aload_n hx hb dX10_lasts_43 rfl (lv_at hl 0 rfl) ?_
      obtain ⟨z44, hq, h⟩ := ob h
      refine wz_rV (c' := 0) (s' := 0) hW (wz_runV (rest := []) C hW lVX10_364 (ck hq).1 rfl (ctX10_goesOn l G a0 z hq) ⟨⟨rfl, rfl⟩, Nat.le_of_ble_eq_true rfl, Nat.le_of_ble_eq_true rfl⟩ rfl hl.1 rfl (Nat.le_of_ble_eq_true rfl) dX10_lasts_44 ⟨Nat.le_of_ble_eq_true rfl, Nat.le_of_ble_eq_true rfl⟩) rfl rfl (fun H locs hW => ?_)
      refine lv_goto (tgt := 23) hx hb dX10_lasts_47 (by decide) ?_
      exact hk23 a0 l2 z44 _ _ _ h hW (lv_sub hl [0, 1] rfl)
def fX10_lasts_23 : Nat → Nat → Int32 → AH → Option (Int32 × AH)
  | 0, _, _, _ => none
  | n + 1, a0, l2, z => bX10_lasts_23 (fX10_lasts_23 n) a0 l2 z
theorem klX10_lasts_23 {p : Program} {l : Launch} {e : Env} {s : State} {m : MethodId} {args : Array Value} {below : List Frame} {meth : Method} {c : Code} {G : GW} {r : Int32} {z' : AH} (C : Cx p m c cX10_lasts 3 s args RX10 G) (hlk : meth.locks = false) (hr : meth.sig.returnType = (some .int)) : ∀ (n : Nat) (a0 : Nat) (l2 : Int32) (z : AH) (H : Heap) (locs : List Loc) (ls : Array Slot), fX10_lasts_23 n a0 l2 z = some (r, z') → Wb G z s H locs → lv_has ls 3 [(0, .ref (gB G + a0)), (2, .int l2)] → W p l e rmX10_lasts s m args below meth c H locs 0 0 (MQ below (Qi G r z') args s 0 0 (AA G)) (F0 m 23 ls []) := by
  intro n
  induction n with
  | zero => intro a0 l2 z H locs ls h; have h : (none : Option (Int32 × AH)) = some (r, z') := h; cases h
  | succ n ih => intro a0 l2 z H locs ls h hW hl; exact kbX10_lasts_23 C hlk hr (fX10_lasts_23 n) (fun a0 l2 z H locs ls h hW hl => ih a0 l2 z H locs ls h hW hl) a0 l2 h hW hl
def fX10_lasts (a0 : Nat) (l1 : Int32) (l2 : Int32) (z : AH) : Option (Int32 × AH) :=
  if isO 9 z a0 = true then
    (pF 9 0 z a0 (.int (0 : Int32))).bind fun z2 =>
    b2 (fX10_hand a0 l1 z2) fun x7 z7 =>
    if x7 = (0 : Int32) then (
      some ((-1 : Int32), z7)
    ) else (
      (fX10_isThing a0 l2 z7).bind fun x15 =>
      if x15 = (0 : Int32) then (
        some ((-1 : Int32), z7)
      ) else (
        fX10_lasts_23 FU a0 l2 z7
      )
    )
  else none
set_option maxHeartbeats 4000000 in
set_option maxRecDepth 100000 in
theorem ctX10_lasts (l : Launch) (G : GW) (a0 : Nat) (l1 : Int32) (l2 : Int32) (z : AH) {r : Int32} {z' : AH} (h : fX10_lasts a0 l1 l2 z = some (r, z')) : Met l yX10_lasts (wy yX10_lasts cX10_lasts 3 (some .int)) rmX10_lasts (Pz G [.ref (gB G + a0), .int l1, .int l2] z) (Qi G r z') 0 0 (AA G) := by
  refine wz_ent (own := RX10) (by decide +kernel) rfl (fun p e s m below meth c ls C hlk hr hin hW hl => ?_) (Nat.le_of_ble_eq_true rfl)
  have hl : lv_has ls 3 [(0, .ref (gB G + a0)), (1, .int l1), (2, .int l2)] := hl
  have hx := C.1
  have hb := C.2.1
  unfold fX10_lasts at h
  obtain ⟨-, h⟩ := ck h
  refine lv_aload_n hx hb dX10_lasts_0 rfl (lv_at hl 0 rfl) ?_
  refine lv_iconst (v := 0) hx hb dX10_lasts_1 (by decide) ?_
  obtain ⟨z2, hg, h⟩ := ob h
  refine wz_put (v := (.int (0 : Int32))) C hW flX10_81 rfl rfl hg dX10_lasts_2 (fun H locs hW => ?_)
  refine lv_aload_n hx hb dX10_lasts_5 rfl (lv_at hl 0 rfl) ?_
  refine lv_iload_n hx hb dX10_lasts_6 rfl (lv_at hl 1 rfl) ?_
  obtain ⟨x7, z7, hq, h⟩ := ob2 h
  refine wz_rI (c' := 0) (s' := 0) hW (wz_runV (rest := []) C hW lVX10_330 (ck hq).1 rfl (ctX10_hand l G a0 l1 z2 hq) ⟨⟨rfl, rfl⟩, Nat.le_of_ble_eq_true rfl, Nat.le_of_ble_eq_true rfl⟩ rfl hl.1 rfl (Nat.le_of_ble_eq_true rfl) dX10_lasts_7 ⟨Nat.le_of_ble_eq_true rfl, Nat.le_of_ble_eq_true rfl⟩) rfl rfl (fun H locs hW => ?_)
  refine lv_if_eq (tgt := 21) hx hb dX10_lasts_10 (by decide) (fun c10 => ?_) (fun c10 => ?_)
  · have h := ite_t c10 h
    refine lv_iconst (v := -1) hx hb dX10_lasts_21 (by decide) ?_
    exact wz_iretE C hlk hr (so2 h).1 (so2 h).2 hW dX10_lasts_22
  · have h := ite_f c10 h
    refine lv_aload_n hx hb dX10_lasts_13 rfl (lv_at hl 0 rfl) ?_
    refine lv_iload_n hx hb dX10_lasts_14 rfl (lv_at hl 2 rfl) ?_
    obtain ⟨x15, hq, h⟩ := ob h
    refine wz_rI (c' := 0) (s' := 0) hW (wz_runV (rest := []) C hW lVX10_309 (ck hq).1 rfl (ctX10_isThing l G a0 l2 z7 hq) ⟨⟨rfl, rfl⟩, Nat.le_of_ble_eq_true rfl, Nat.le_of_ble_eq_true rfl⟩ rfl hl.1 rfl (Nat.le_of_ble_eq_true rfl) dX10_lasts_15 ⟨Nat.le_of_ble_eq_true rfl, Nat.le_of_ble_eq_true rfl⟩) rfl rfl (fun H locs hW => ?_)
    refine lv_if_ne (tgt := 23) hx hb dX10_lasts_18 (by decide) (fun c18 => ?_) (fun c18 => ?_)
    · have h := ite_f c18 h
      exact klX10_lasts_23 C hlk hr FU a0 l2 z7 _ _ _ h hW (lv_sub hl [0, 2] rfl)
    · have h := ite_t c18 h
      refine lv_iconst (v := -1) hx hb dX10_lasts_21 (by decide) ?_
      exact wz_iretE C hlk hr (so2 h).1 (so2 h).2 hW dX10_lasts_22
theorem dX10_layRow_0 : decode cX10_layRow 0 = .ok (.iload_n 1, 1) := by decide +kernel
theorem dX10_layRow_1 : decode cX10_layRow 1 = .ok (.istore_n 2, 1) := by decide +kernel
theorem dX10_layRow_2 : decode cX10_layRow 2 = .ok (.iconst 0, 1) := by decide +kernel
theorem dX10_layRow_3 : decode cX10_layRow 3 = .ok (.istore_n 3, 1) := by decide +kernel
theorem dX10_layRow_4 : decode cX10_layRow 4 = .ok (.aload_n 0, 1) := by decide +kernel
theorem dX10_layRow_5 : decode cX10_layRow 5 = .ok (.getfield 279, 3) := by decide +kernel
theorem dX10_layRow_8 : decode cX10_layRow 8 = .ok (.iconst 1, 1) := by decide +kernel
theorem dX10_layRow_9 : decode cX10_layRow 9 = .ok (.isub, 1) := by decide +kernel
theorem dX10_layRow_10 : decode cX10_layRow 10 = .ok (.istore 4, 2) := by decide +kernel
theorem dX10_layRow_12 : decode cX10_layRow 12 = .ok (.iload 4, 2) := by decide +kernel
theorem dX10_layRow_14 : decode cX10_layRow 14 = .ok (.ifCond .lt 95, 3) := by decide +kernel
theorem dX10_layRow_17 : decode cX10_layRow 17 = .ok (.aload_n 0, 1) := by decide +kernel
theorem dX10_layRow_18 : decode cX10_layRow 18 = .ok (.getfield 53, 3) := by decide +kernel
theorem dX10_layRow_21 : decode cX10_layRow 21 = .ok (.iload 4, 2) := by decide +kernel
theorem dX10_layRow_23 : decode cX10_layRow 23 = .ok (.iload_n 2, 1) := by decide +kernel
theorem dX10_layRow_24 : decode cX10_layRow 24 = .ok (.bipush 9, 2) := by decide +kernel
theorem dX10_layRow_26 : decode cX10_layRow 26 = .ok (.irem, 1) := by decide +kernel
theorem dX10_layRow_27 : decode cX10_layRow 27 = .ok (.iastore, 1) := by decide +kernel
theorem dX10_layRow_28 : decode cX10_layRow 28 = .ok (.iload_n 2, 1) := by decide +kernel
theorem dX10_layRow_29 : decode cX10_layRow 29 = .ok (.bipush 9, 2) := by decide +kernel
theorem dX10_layRow_31 : decode cX10_layRow 31 = .ok (.idiv, 1) := by decide +kernel
theorem dX10_layRow_32 : decode cX10_layRow 32 = .ok (.istore_n 2, 1) := by decide +kernel
theorem dX10_layRow_33 : decode cX10_layRow 33 = .ok (.aload_n 0, 1) := by decide +kernel
theorem dX10_layRow_34 : decode cX10_layRow 34 = .ok (.getfield 53, 3) := by decide +kernel
theorem dX10_layRow_37 : decode cX10_layRow 37 = .ok (.iload 4, 2) := by decide +kernel
theorem dX10_layRow_39 : decode cX10_layRow 39 = .ok (.iaload, 1) := by decide +kernel
theorem dX10_layRow_40 : decode cX10_layRow 40 = .ok (.bipush 8, 2) := by decide +kernel
theorem dX10_layRow_42 : decode cX10_layRow 42 = .ok (.if_icmp .ge 33, 3) := by decide +kernel
theorem dX10_layRow_45 : decode cX10_layRow 45 = .ok (.aload_n 0, 1) := by decide +kernel
theorem dX10_layRow_46 : decode cX10_layRow 46 = .ok (.aload_n 0, 1) := by decide +kernel
theorem dX10_layRow_47 : decode cX10_layRow 47 = .ok (.getfield 53, 3) := by decide +kernel
theorem dX10_layRow_50 : decode cX10_layRow 50 = .ok (.iload 4, 2) := by decide +kernel
theorem dX10_layRow_52 : decode cX10_layRow 52 = .ok (.iaload, 1) := by decide +kernel
theorem dX10_layRow_53 : decode cX10_layRow 53 = .ok (.invokevirtual 348, 3) := by decide +kernel
theorem dX10_layRow_56 : decode cX10_layRow 56 = .ok (.ifCond .eq 17, 3) := by decide +kernel
theorem dX10_layRow_59 : decode cX10_layRow 59 = .ok (.iload_n 3, 1) := by decide +kernel
theorem dX10_layRow_60 : decode cX10_layRow 60 = .ok (.aload_n 0, 1) := by decide +kernel
theorem dX10_layRow_61 : decode cX10_layRow 61 = .ok (.getfield 53, 3) := by decide +kernel
theorem dX10_layRow_64 : decode cX10_layRow 64 = .ok (.iload 4, 2) := by decide +kernel
theorem dX10_layRow_66 : decode cX10_layRow 66 = .ok (.iaload, 1) := by decide +kernel
theorem dX10_layRow_67 : decode cX10_layRow 67 = .ok (.invokestatic 85, 3) := by decide +kernel
theorem dX10_layRow_70 : decode cX10_layRow 70 = .ok (.ifCond .eq 5, 3) := by decide +kernel
theorem dX10_layRow_73 : decode cX10_layRow 73 = .ok (.iconst 0, 1) := by decide +kernel
theorem dX10_layRow_74 : decode cX10_layRow 74 = .ok (.ireturn, 1) := by decide +kernel
theorem dX10_layRow_75 : decode cX10_layRow 75 = .ok (.iload_n 3, 1) := by decide +kernel
theorem dX10_layRow_76 : decode cX10_layRow 76 = .ok (.aload_n 0, 1) := by decide +kernel
theorem dX10_layRow_77 : decode cX10_layRow 77 = .ok (.getfield 53, 3) := by decide +kernel
theorem dX10_layRow_80 : decode cX10_layRow 80 = .ok (.iload 4, 2) := by decide +kernel
theorem dX10_layRow_82 : decode cX10_layRow 82 = .ok (.iaload, 1) := by decide +kernel
theorem dX10_layRow_83 : decode cX10_layRow 83 = .ok (.bipush 8, 2) := by decide +kernel
theorem dX10_layRow_85 : decode cX10_layRow 85 = .ok (.if_icmp .ge 15, 3) := by decide +kernel
theorem dX10_layRow_88 : decode cX10_layRow 88 = .ok (.iconst 1, 1) := by decide +kernel
theorem dX10_layRow_89 : decode cX10_layRow 89 = .ok (.aload_n 0, 1) := by decide +kernel
theorem dX10_layRow_90 : decode cX10_layRow 90 = .ok (.getfield 53, 3) := by decide +kernel
theorem dX10_layRow_93 : decode cX10_layRow 93 = .ok (.iload 4, 2) := by decide +kernel
theorem dX10_layRow_95 : decode cX10_layRow 95 = .ok (.iaload, 1) := by decide +kernel
theorem dX10_layRow_96 : decode cX10_layRow 96 = .ok (.ishl, 1) := by decide +kernel
theorem dX10_layRow_97 : decode cX10_layRow 97 = .ok (.goto 4, 3) := by decide +kernel
theorem dX10_layRow_100 : decode cX10_layRow 100 = .ok (.iconst 0, 1) := by decide +kernel
theorem dX10_layRow_101 : decode cX10_layRow 101 = .ok (.ior, 1) := by decide +kernel
theorem dX10_layRow_102 : decode cX10_layRow 102 = .ok (.istore_n 3, 1) := by decide +kernel
theorem dX10_layRow_103 : decode cX10_layRow 103 = .ok (.iinc 4 (-1), 3) := by decide +kernel
theorem dX10_layRow_106 : decode cX10_layRow 106 = .ok (.goto (-94), 3) := by decide +kernel
theorem dX10_layRow_109 : decode cX10_layRow 109 = .ok (.iconst 1, 1) := by decide +kernel
theorem dX10_layRow_110 : decode cX10_layRow 110 = .ok (.ireturn, 1) := by decide +kernel
abbrev rmX10_layRow : Room := { frames := 3, cells := 0, slots := 0, locals := 64 }
def bX10_layRow_75 (k12 : Nat → Int32 → Int32 → Int32 → AH → Option (Int32 × AH)) (a0 : Nat) (l2 : Int32) (l3 : Int32) (l4 : Int32) (z : AH) : Option (Int32 × AH) :=
  (gN 9 39 z a0).bind fun b77 =>
  (ixI 0 z b77 l4).bind fun x82 =>
  if (8 : Int32) ≤ x82 then (
    nm (l3 ||| (0 : Int32)) fun v102 =>
    nm (l4 + (-1 : Int32)) fun v103 =>
    k12 a0 l2 v102 v103 z
  ) else (
    (gN 9 39 z a0).bind fun b90 =>
    (ixI 0 z b90 l4).bind fun x95 =>
    nm (l3 ||| (shl (1 : Int32) x95)) fun v102 =>
    nm (l4 + (-1 : Int32)) fun v103 =>
    k12 a0 l2 v102 v103 z
  )
set_option maxHeartbeats 4000000 in
set_option maxRecDepth 100000 in
theorem kbX10_layRow_75 {p : Program} {l : Launch} {e : Env} {s : State} {m : MethodId} {args : Array Value} {below : List Frame} {meth : Method} {c : Code} {G : GW} {r : Int32} {z' : AH} (C : Cx p m c cX10_layRow 5 s args RX10 G) (hlk : meth.locks = false) (hr : meth.sig.returnType = (some .boolean)) (k12 : Nat → Int32 → Int32 → Int32 → AH → Option (Int32 × AH)) (hk12 : ∀ (a0 : Nat) (l2 : Int32) (l3 : Int32) (l4 : Int32) (z : AH) (H : Heap) (locs : List Loc) (ls : Array Slot), k12 a0 l2 l3 l4 z = some (r, z') → Wb G z s H locs → lv_has ls 5 [(0, .ref (gB G + a0)), (2, .int l2), (3, .int l3), (4, .int l4)] → W p l e rmX10_layRow s m args below meth c H locs 0 0 (MQ below (Qi G r z') args s 0 0 (AA G)) (F0 m 12 ls [])) (a0 : Nat) (l2 : Int32) (l3 : Int32) (l4 : Int32) {z : AH} {H : Heap} {locs : List Loc} {ls : Array Slot} (h : bX10_layRow_75 k12 a0 l2 l3 l4 z = some (r, z')) (hW : Wb G z s H locs) (hl : lv_has ls 5 [(0, .ref (gB G + a0)), (2, .int l2), (3, .int l3), (4, .int l4)]) : W p l e rmX10_layRow s m args below meth c H locs 0 0 (MQ below (Qi G r z') args s 0 0 (AA G)) (F0 m 75 ls []) := by
  have hx := C.1
  have hb := C.2.1
  unfold bX10_layRow_75 at h
  refine lv_iload_n hx hb dX10_layRow_75 rfl (lv_at hl 2 rfl) ?_
  refine lv_aload_n hx hb dX10_layRow_76 rfl (lv_at hl 0 rfl) ?_
  obtain ⟨b77, hg, h⟩ := ob h
  refine wz_gN C hW flX10_53 hg dX10_layRow_77 ?_
  refine lv_iload hx hb dX10_layRow_80 (lv_at hl 3 rfl) ?_
  obtain ⟨x82, hg, h⟩ := ob h
  refine wz_ald C hW hg dX10_layRow_82 ?_
  refine lv_bipush (v := 8) hx hb dX10_layRow_83 (by decide) ?_
  refine lv_icmp_ge (tgt := 100) hx hb dX10_layRow_85 (by decide) (fun c85 => ?_) (fun c85 => ?_)
  · have h := ite_t c85 h
    refine lv_iconst (v := 0) hx hb dX10_layRow_100 (by decide) ?_
    refine lv_ior hx hb dX10_layRow_101 ?_
    refine lv_topi (fun v102 ev102 => ?_)
    have h := nm_to h ev102
    refine lv_istore_n (lv' := [(3, .int v102), (0, .ref (gB G + a0)), (2, .int l2), (4, .int l4)]) hx hb dX10_layRow_102 rfl hl (by decide) rfl (fun ls hl => ?_)
    obtain ⟨v103, ev103⟩ : ∃ y : Int32, y = (l4 + (-1 : Int32)) := ⟨_, rfl⟩
    have h := nm_to h ev103
    refine lv_iinc (v := v103) (lv' := [(4, .int v103), (3, .int v102), (0, .ref (gB G + a0)), (2, .int l2)]) hx hb dX10_layRow_103 hl (k := 3) rfl (by rw [ev103]; rfl) (by decide) rfl (fun ls hl => ?_)
    refine lv_goto (tgt := 12) hx hb dX10_layRow_106 (by decide) ?_
    exact hk12 a0 l2 v102 v103 z _ _ _ h hW (lv_sub hl [2, 3, 1, 0] rfl)
  · have h := ite_f c85 h
    refine lv_iconst (v := 1) hx hb dX10_layRow_88 (by decide) ?_
    refine lv_aload_n hx hb dX10_layRow_89 rfl (lv_at hl 0 rfl) ?_
    obtain ⟨b90, hg, h⟩ := ob h
    refine wz_gN C hW flX10_53 hg dX10_layRow_90 ?_
    refine lv_iload hx hb dX10_layRow_93 (lv_at hl 3 rfl) ?_
    obtain ⟨x95, hg, h⟩ := ob h
    refine wz_ald C hW hg dX10_layRow_95 ?_
    refine wz_shl hx hb dX10_layRow_96 ?_
    refine lv_goto (tgt := 101) hx hb dX10_layRow_97 (by decide) ?_
    refine lv_ior hx hb dX10_layRow_101 ?_
    refine lv_topi (fun v102 ev102 => ?_)
    have h := nm_to h ev102
    refine lv_istore_n (lv' := [(3, .int v102), (0, .ref (gB G + a0)), (2, .int l2), (4, .int l4)]) hx hb dX10_layRow_102 rfl hl (by decide) rfl (fun ls hl => ?_)
    obtain ⟨v103, ev103⟩ : ∃ y : Int32, y = (l4 + (-1 : Int32)) := ⟨_, rfl⟩
    have h := nm_to h ev103
    refine lv_iinc (v := v103) (lv' := [(4, .int v103), (3, .int v102), (0, .ref (gB G + a0)), (2, .int l2)]) hx hb dX10_layRow_103 hl (k := 3) rfl (by rw [ev103]; rfl) (by decide) rfl (fun ls hl => ?_)
    refine lv_goto (tgt := 12) hx hb dX10_layRow_106 (by decide) ?_
    exact hk12 a0 l2 v102 v103 z _ _ _ h hW (lv_sub hl [2, 3, 1, 0] rfl)
def bX10_layRow_12 (k12 : Nat → Int32 → Int32 → Int32 → AH → Option (Int32 × AH)) (a0 : Nat) (l2 : Int32) (l3 : Int32) (l4 : Int32) (z : AH) : Option (Int32 × AH) :=
  if l4 < (0 : Int32) then (
    some ((1 : Int32), z)
  ) else (
    (gN 9 39 z a0).bind fun b18 =>
    (stI 0 z b18 l4 (irem l2 (9 : Int32))).bind fun z27 =>
    nm (l2 / (9 : Int32)) fun v32 =>
    (gN 9 39 z27 a0).bind fun b34 =>
    (ixI 0 z27 b34 l4).bind fun x39 =>
    if (8 : Int32) ≤ x39 then (
      bX10_layRow_75 k12 a0 v32 l3 l4 z27
    ) else (
      (gN 9 39 z27 a0).bind fun b47 =>
      (ixI 0 z27 b47 l4).bind fun x52 =>
      (fX10_isThere a0 x52 z27).bind fun x53 =>
      if x53 = (0 : Int32) then (
        some ((0 : Int32), z27)
      ) else (
        (gN 9 39 z27 a0).bind fun b61 =>
        (ixI 0 z27 b61 l4).bind fun x66 =>
        if (fX10_has l3 x66) = (0 : Int32) then (
          bX10_layRow_75 k12 a0 v32 l3 l4 z27
        ) else (
          some ((0 : Int32), z27)
        )
      )
    )
  )
set_option maxHeartbeats 4000000 in
set_option maxRecDepth 100000 in
theorem kbX10_layRow_12 {p : Program} {l : Launch} {e : Env} {s : State} {m : MethodId} {args : Array Value} {below : List Frame} {meth : Method} {c : Code} {G : GW} {r : Int32} {z' : AH} (C : Cx p m c cX10_layRow 5 s args RX10 G) (hlk : meth.locks = false) (hr : meth.sig.returnType = (some .boolean)) (k12 : Nat → Int32 → Int32 → Int32 → AH → Option (Int32 × AH)) (hk12 : ∀ (a0 : Nat) (l2 : Int32) (l3 : Int32) (l4 : Int32) (z : AH) (H : Heap) (locs : List Loc) (ls : Array Slot), k12 a0 l2 l3 l4 z = some (r, z') → Wb G z s H locs → lv_has ls 5 [(0, .ref (gB G + a0)), (2, .int l2), (3, .int l3), (4, .int l4)] → W p l e rmX10_layRow s m args below meth c H locs 0 0 (MQ below (Qi G r z') args s 0 0 (AA G)) (F0 m 12 ls [])) (a0 : Nat) (l2 : Int32) (l3 : Int32) (l4 : Int32) {z : AH} {H : Heap} {locs : List Loc} {ls : Array Slot} (h : bX10_layRow_12 k12 a0 l2 l3 l4 z = some (r, z')) (hW : Wb G z s H locs) (hl : lv_has ls 5 [(0, .ref (gB G + a0)), (2, .int l2), (3, .int l3), (4, .int l4)]) : W p l e rmX10_layRow s m args below meth c H locs 0 0 (MQ below (Qi G r z') args s 0 0 (AA G)) (F0 m 12 ls []) := by
  have hx := C.1
  have hb := C.2.1
  unfold bX10_layRow_12 at h
  refine lv_iload hx hb dX10_layRow_12 (lv_at hl 3 rfl) ?_
  refine lv_if_lt (tgt := 109) hx hb dX10_layRow_14 (by decide) (fun c14 => ?_) (fun c14 => ?_)
  · have h := ite_t c14 h
    refine lv_iconst (v := 1) hx hb dX10_layRow_109 (by decide) ?_
    exact wz_zretE C hlk hr (Or.inr rfl) (so2 h).1 (so2 h).2 hW dX10_layRow_110
  · have h := ite_f c14 h
    refine lv_aload_n hx hb dX10_layRow_17 rfl (lv_at hl 0 rfl) ?_
    obtain ⟨b18, hg, h⟩ := ob h
    refine wz_gN C hW flX10_53 hg dX10_layRow_18 ?_
    refine lv_iload hx hb dX10_layRow_21 (lv_at hl 3 rfl) ?_
    refine lv_iload_n hx hb dX10_layRow_23 rfl (lv_at hl 1 rfl) ?_
    refine lv_bipush (v := 9) hx hb dX10_layRow_24 (by decide) ?_
    refine wz_irem hx hb dX10_layRow_26 (by decide) ?_
    obtain ⟨z27, hg, h⟩ := ob h
    refine wz_ast C hW hg dX10_layRow_27 (fun H locs hW => ?_)
    refine lv_iload_n hx hb dX10_layRow_28 rfl (lv_at hl 1 rfl) ?_
    refine lv_bipush (v := 9) hx hb dX10_layRow_29 (by decide) ?_
    refine lv_idiv hx hb dX10_layRow_31 (by decide) ?_
    refine lv_topi (fun v32 ev32 => ?_)
    have h := nm_to h ev32
    refine lv_istore_n (lv' := [(2, .int v32), (0, .ref (gB G + a0)), (3, .int l3), (4, .int l4)]) hx hb dX10_layRow_32 rfl hl (by decide) rfl (fun ls hl => ?_)
    refine lv_aload_n hx hb dX10_layRow_33 rfl (lv_at hl 1 rfl) ?_
    obtain ⟨b34, hg, h⟩ := ob h
    refine wz_gN C hW flX10_53 hg dX10_layRow_34 ?_
    refine lv_iload hx hb dX10_layRow_37 (lv_at hl 3 rfl) ?_
    obtain ⟨x39, hg, h⟩ := ob h
    refine wz_ald C hW hg dX10_layRow_39 ?_
    refine lv_bipush (v := 8) hx hb dX10_layRow_40 (by decide) ?_
    refine lv_icmp_ge (tgt := 75) hx hb dX10_layRow_42 (by decide) (fun c42 => ?_) (fun c42 => ?_)
    · have h := ite_t c42 h
      exact kbX10_layRow_75 C hlk hr k12 hk12 a0 v32 l3 l4 h hW (lv_sub hl [1, 0, 2, 3] rfl)
    · have h := ite_f c42 h
      refine lv_aload_n hx hb dX10_layRow_45 rfl (lv_at hl 1 rfl) ?_
      refine lv_aload_n hx hb dX10_layRow_46 rfl (lv_at hl 1 rfl) ?_
      obtain ⟨b47, hg, h⟩ := ob h
      refine wz_gN C hW flX10_53 hg dX10_layRow_47 ?_
      refine lv_iload hx hb dX10_layRow_50 (lv_at hl 3 rfl) ?_
      obtain ⟨x52, hg, h⟩ := ob h
      refine wz_ald C hW hg dX10_layRow_52 ?_
      obtain ⟨x53, hq, h⟩ := ob h
      refine wz_rI (c' := 0) (s' := 0) hW (wz_runV (rest := []) C hW lVX10_348 (ck hq).1 rfl (ctX10_isThere l G a0 x52 z27 hq) ⟨⟨rfl, rfl⟩, Nat.le_of_ble_eq_true rfl, Nat.le_of_ble_eq_true rfl⟩ rfl hl.1 rfl (Nat.le_of_ble_eq_true rfl) dX10_layRow_53 ⟨Nat.le_of_ble_eq_true rfl, Nat.le_of_ble_eq_true rfl⟩) rfl rfl (fun H locs hW => ?_)
      refine lv_if_eq (tgt := 73) hx hb dX10_layRow_56 (by decide) (fun c56 => ?_) (fun c56 => ?_)
      · have h := ite_t c56 h
        refine lv_iconst (v := 0) hx hb dX10_layRow_73 (by decide) ?_
        exact wz_zretE C hlk hr (Or.inl rfl) (so2 h).1 (so2 h).2 hW dX10_layRow_74
      · have h := ite_f c56 h
        refine lv_iload_n hx hb dX10_layRow_59 rfl (lv_at hl 2 rfl) ?_
        refine lv_aload_n hx hb dX10_layRow_60 rfl (lv_at hl 1 rfl) ?_
        obtain ⟨b61, hg, h⟩ := ob h
        refine wz_gN C hW flX10_53 hg dX10_layRow_61 ?_
        refine lv_iload hx hb dX10_layRow_64 (lv_at hl 3 rfl) ?_
        obtain ⟨x66, hg, h⟩ := ob h
        refine wz_ald C hW hg dX10_layRow_66 ?_
        refine wz_rI (c' := 0) (s' := 0) hW (wz_runS (rest := []) C hW lTX10_85 (ctX10_has l G l3 x66 z27 rfl) ⟨⟨rfl, rfl⟩, Nat.le_of_ble_eq_true rfl, Nat.le_of_ble_eq_true rfl⟩ rfl hl.1 rfl (Nat.le_of_ble_eq_true rfl) dX10_layRow_67 ⟨Nat.le_of_ble_eq_true rfl, Nat.le_of_ble_eq_true rfl⟩) rfl rfl (fun H locs hW => ?_)
        refine lv_if_eq (tgt := 75) hx hb dX10_layRow_70 (by decide) (fun c70 => ?_) (fun c70 => ?_)
        · have h := ite_t c70 h
          exact kbX10_layRow_75 C hlk hr k12 hk12 a0 v32 l3 l4 h hW (lv_sub hl [1, 0, 2, 3] rfl)
        · have h := ite_f c70 h
          refine lv_iconst (v := 0) hx hb dX10_layRow_73 (by decide) ?_
          exact wz_zretE C hlk hr (Or.inl rfl) (so2 h).1 (so2 h).2 hW dX10_layRow_74
def fX10_layRow_12 : Nat → Nat → Int32 → Int32 → Int32 → AH → Option (Int32 × AH)
  | 0, _, _, _, _, _ => none
  | n + 1, a0, l2, l3, l4, z => bX10_layRow_12 (fX10_layRow_12 n) a0 l2 l3 l4 z
theorem klX10_layRow_12 {p : Program} {l : Launch} {e : Env} {s : State} {m : MethodId} {args : Array Value} {below : List Frame} {meth : Method} {c : Code} {G : GW} {r : Int32} {z' : AH} (C : Cx p m c cX10_layRow 5 s args RX10 G) (hlk : meth.locks = false) (hr : meth.sig.returnType = (some .boolean)) : ∀ (n : Nat) (a0 : Nat) (l2 : Int32) (l3 : Int32) (l4 : Int32) (z : AH) (H : Heap) (locs : List Loc) (ls : Array Slot), fX10_layRow_12 n a0 l2 l3 l4 z = some (r, z') → Wb G z s H locs → lv_has ls 5 [(0, .ref (gB G + a0)), (2, .int l2), (3, .int l3), (4, .int l4)] → W p l e rmX10_layRow s m args below meth c H locs 0 0 (MQ below (Qi G r z') args s 0 0 (AA G)) (F0 m 12 ls []) := by
  intro n
  induction n with
  | zero => intro a0 l2 l3 l4 z H locs ls h; have h : (none : Option (Int32 × AH)) = some (r, z') := h; cases h
  | succ n ih => intro a0 l2 l3 l4 z H locs ls h hW hl; exact kbX10_layRow_12 C hlk hr (fX10_layRow_12 n) (fun a0 l2 l3 l4 z H locs ls h hW hl => ih a0 l2 l3 l4 z H locs ls h hW hl) a0 l2 l3 l4 h hW hl
def fX10_layRow (a0 : Nat) (l1 : Int32) (z : AH) : Option (Int32 × AH) :=
  if isO 9 z a0 = true then
    (gI 9 27 z a0).bind fun x5 =>
    nm (x5 - (1 : Int32)) fun v10 =>
    fX10_layRow_12 FU a0 l1 (0 : Int32) v10 z
  else none
set_option maxHeartbeats 4000000 in
set_option maxRecDepth 100000 in
theorem ctX10_layRow (l : Launch) (G : GW) (a0 : Nat) (l1 : Int32) (z : AH) {r : Int32} {z' : AH} (h : fX10_layRow a0 l1 z = some (r, z')) : Met l yX10_layRow (wy yX10_layRow cX10_layRow 5 (some .boolean)) rmX10_layRow (Pz G [.ref (gB G + a0), .int l1] z) (Qi G r z') 0 0 (AA G) := by
  refine wz_ent (own := RX10) (by decide +kernel) rfl (fun p e s m below meth c ls C hlk hr hin hW hl => ?_) (Nat.le_of_ble_eq_true rfl)
  have hl : lv_has ls 5 [(0, .ref (gB G + a0)), (1, .int l1)] := hl
  have hx := C.1
  have hb := C.2.1
  unfold fX10_layRow at h
  obtain ⟨-, h⟩ := ck h
  refine lv_iload_n hx hb dX10_layRow_0 rfl (lv_at hl 1 rfl) ?_
  refine lv_istore_n (lv' := [(2, .int l1), (0, .ref (gB G + a0)), (1, .int l1)]) hx hb dX10_layRow_1 rfl hl (by decide) rfl (fun ls hl => ?_)
  refine lv_iconst (v := 0) hx hb dX10_layRow_2 (by decide) ?_
  refine lv_istore_n (lv' := [(3, .int (0 : Int32)), (2, .int l1), (0, .ref (gB G + a0)), (1, .int l1)]) hx hb dX10_layRow_3 rfl hl (by decide) rfl (fun ls hl => ?_)
  refine lv_aload_n hx hb dX10_layRow_4 rfl (lv_at hl 2 rfl) ?_
  obtain ⟨x5, hg, h⟩ := ob h
  refine wz_gI C hW flX10_279 hg dX10_layRow_5 ?_
  refine lv_iconst (v := 1) hx hb dX10_layRow_8 (by decide) ?_
  refine lv_isub hx hb dX10_layRow_9 ?_
  refine lv_topi (fun v10 ev10 => ?_)
  have h := nm_to h ev10
  refine lv_istore (lv' := [(4, .int v10), (3, .int (0 : Int32)), (2, .int l1), (0, .ref (gB G + a0)), (1, .int l1)]) hx hb dX10_layRow_10 hl (by decide) rfl (fun ls hl => ?_)
  exact klX10_layRow_12 C hlk hr FU a0 l1 (0 : Int32) v10 z _ _ _ h hW (lv_sub hl [3, 2, 1, 0] rfl)
theorem dX10_tryRow_0 : decode cX10_tryRow 0 = .ok (.iconst 0, 1) := by decide +kernel
theorem dX10_tryRow_1 : decode cX10_tryRow 1 = .ok (.istore_n 2, 1) := by decide +kernel
theorem dX10_tryRow_2 : decode cX10_tryRow 2 = .ok (.iconst 0, 1) := by decide +kernel
theorem dX10_tryRow_3 : decode cX10_tryRow 3 = .ok (.istore_n 3, 1) := by decide +kernel
theorem dX10_tryRow_4 : decode cX10_tryRow 4 = .ok (.iload_n 3, 1) := by decide +kernel
theorem dX10_tryRow_5 : decode cX10_tryRow 5 = .ok (.aload_n 0, 1) := by decide +kernel
theorem dX10_tryRow_6 : decode cX10_tryRow 6 = .ok (.getfield 279, 3) := by decide +kernel
