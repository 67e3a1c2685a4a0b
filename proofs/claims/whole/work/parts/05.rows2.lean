/-! ===== rows: making rows, copying, references, calls, returns ===== -/
section ZS
variable {p : Program} {l : Launch} {e : Env} {R : Room} {s : State} {m : MethodId} {args : Array Value} {below : List Frame} {meth : Method} {c : Code} {H : Heap} {locs : List Loc} {cells slots : Nat} {Q : State → Prop}
variable {cc : ByteArray} {pc : Nat} {ls : Array Slot} {rest : List Value} {nL : Nat} {own : String} {G : GW} {ah ah' : AH}
theorem wz_newI {n : Int32} {N : Nat} (hw : Cond.arrayClass .int ∈ tz) (C : Cx p m c cc nL s args own G) (hW : Wb G ah s H locs) (hn : ¬ n < 0) (hN : n.toNatClampNeg = N) (hN2 : N ≤ 65536) (hr : cells + 1 ≤ R.cells ∧ slots + N ≤ R.slots) (hd : decode cc pc = .ok (.newarray .int, 2))
    (kk : ∀ (H1 : Heap), Wb G (ah ++ [.inl (0, N, fun _ => 0)]) s H1 locs → W p l e R s m args below meth c H1 locs (cells + 1) (slots + N) Q (F0 m (pc + 2) ls (.ref (gB G + ah.length) :: rest))) : W p l e R s m args below meth c H locs cells slots Q (F0 m pc ls (.int n :: rest)) := by
  obtain ⟨hx, hb, -, -, hts, hK, -⟩ := C
  refine va_newaK (atype := .int) hx hb (hts _ hw) rfl hd rfl hn hN (by show N * 4 ≤ _; omega) hr.1 hr.2 hW.1.2 fun H1 cA e1 z1 o1 hAr hNm => ?_
  have hcA : cA = G.2.1 0 := Option.some.inj (hNm.symm.trans (hK.1.2 0 _ rfl).2)
  subst hcA
  exact kk H1 (hW.push _ (by show H1[_]? = some (vp_cell _ _); rw [vp_cell_i]; exact e1) (by rw [z1, hW.1.2]) (fun q hq => o1 q (by rw [← hW.1.2]; exact hq)))
theorem wz_newB {n : Int32} {N : Nat} (hw : Cond.arrayClass .byte ∈ tz) (C : Cx p m c cc nL s args own G) (hW : Wb G ah s H locs) (hn : ¬ n < 0) (hN : n.toNatClampNeg = N) (hN2 : N ≤ 65536) (hr : cells + 1 ≤ R.cells ∧ slots + N ≤ R.slots) (hd : decode cc pc = .ok (.newarray .byte, 2))
    (kk : ∀ (H1 : Heap), Wb G (ah ++ [.inl (1, N, fun _ => 0)]) s H1 locs → W p l e R s m args below meth c H1 locs (cells + 1) (slots + N) Q (F0 m (pc + 2) ls (.ref (gB G + ah.length) :: rest))) : W p l e R s m args below meth c H locs cells slots Q (F0 m pc ls (.int n :: rest)) := by
  obtain ⟨hx, hb, -, -, hts, hK, -⟩ := C
  refine va_newaK (atype := .byte) hx hb (hts _ hw) rfl hd rfl hn hN (by show N * 1 ≤ _; omega) hr.1 hr.2 hW.1.2 fun H1 cA e1 z1 o1 hAr hNm => ?_
  have hcA : cA = G.2.1 1 := Option.some.inj (hNm.symm.trans (hK.1.2 1 _ rfl).2)
  subst hcA
  exact kk H1 (hW.push _ (by show H1[_]? = some (vp_cell _ _); rw [vp_cell_i]; exact e1) (by rw [z1, hW.1.2]) (fun q hq => o1 q (by rw [← hW.1.2]; exact hq)))
theorem wz_newZ {n : Int32} {N : Nat} (hw : Cond.arrayClass .boolean ∈ tz) (C : Cx p m c cc nL s args own G) (hW : Wb G ah s H locs) (hn : ¬ n < 0) (hN : n.toNatClampNeg = N) (hN2 : N ≤ 65536) (hr : cells + 1 ≤ R.cells ∧ slots + N ≤ R.slots) (hd : decode cc pc = .ok (.newarray .boolean, 2))
    (kk : ∀ (H1 : Heap), Wb G (ah ++ [.inl (2, N, fun _ => 0)]) s H1 locs → W p l e R s m args below meth c H1 locs (cells + 1) (slots + N) Q (F0 m (pc + 2) ls (.ref (gB G + ah.length) :: rest))) : W p l e R s m args below meth c H locs cells slots Q (F0 m pc ls (.int n :: rest)) := by
  obtain ⟨hx, hb, -, -, hts, hK, -⟩ := C
  refine va_newaK (atype := .boolean) hx hb (hts _ hw) rfl hd rfl hn hN (by show N * 1 ≤ _; omega) hr.1 hr.2 hW.1.2 fun H1 cA e1 z1 o1 hAr hNm => ?_
  have hcA : cA = G.2.1 2 := Option.some.inj (hNm.symm.trans (hK.1.2 2 _ rfl).2)
  subst hcA
  exact kk H1 (hW.push _ (by show H1[_]? = some (vp_cell _ _); rw [vp_cell_i]; exact e1) (by rw [z1, hW.1.2]) (fun q hq => o1 q (by rw [← hW.1.2]; exact hq)))
theorem wz_newQ {n : Int32} {N t idx : Nat} (ht : t = 0 ∨ t = 4 ∨ t = 5 ∨ t = 6) (hw : Cond.classLink own idx (qC t) ∈ tz) (C : Cx p m c cc nL s args own G) (hW : Wb G ah s H locs) (hn : ¬ n < 0) (hN : n.toNatClampNeg = N) (hN2 : N ≤ 65536) (hr : cells + 1 ≤ R.cells ∧ slots + N ≤ R.slots) (hd : decode cc pc = .ok (.anewarray idx, 3))
    (kk : ∀ (H1 : Heap), Wb G (ah ++ [.inr (.inl (t, N, fun _ => none))]) s H1 locs → W p l e R s m args below meth c H1 locs (cells + 1) (slots + N) Q (F0 m (pc + 3) ls (.ref (gB G + ah.length) :: rest))) : W p l e R s m args below meth c H locs cells slots Q (F0 m pc ls (.int n :: rest)) := by
  obtain ⟨hx, hb, -, hown, hts, hK, -⟩ := C
  have hao : va_AO (qC t) s := hK.2.2.1 _ (by rcases ht with rfl | rfl | rfl | rfl <;> simp [qC])
  subst hN
  refine W.anew hx hb hown (hts _ hw) (va_AO.use hao) rfl hd rfl hn (by omega) hr.1 hr.2 fun cA kA comp f1 f2 f3 f4 => ?_
  obtain ⟨kA', comp', k1, k2, k3, k4⟩ := (hK.1.2 (qT t) _ (qT_ok ht)).2
  have hcA : cA = G.2.2.1 t := Option.some.inj (f1.symm.trans k4)
  subst hcA
  generalize hH1 : H.push ({ cls := G.2.2.1 t, slots := Array.replicate n.toNatClampNeg .null, vm := .none } : Cell) = H1
  have z1 : H1.size = H.size + 1 := by rw [← hH1, Array.size_push]
  have e1 : H1[H.size]? = some (arrV (G.2.2.1 t) n.toNatClampNeg (fun _ => .null)) := by rw [← hH1, Array.getElem?_push_size, ← arrV_new]
  have o1 : ∀ q : Nat, q < H.size → H1[q]? = H[q]? := fun q hq => by rw [← hH1, Array.getElem?_push, if_neg (Nat.ne_of_lt hq)]
  rw [hW.1.2] at e1 ⊢
  exact kk H1 (hW.push _ (by show H1[_]? = some (vp_cell _ _); rw [vp_cell_q]; exact e1) z1 o1)
/-! arraycopy -/
theorem wz_cpy {t a b idx : Nat} {i j n : Int32} (ht : t = 0 ∨ t = 1) (hk : Cond.methodLink own idx arraycopyName ∈ tz ∧ Cond.native arraycopyName ∈ tz ∧ Cond.static arraycopyName ∈ tz ∧ Cond.initialized "java/lang/System" ∈ tz) (C : Cx p m c cc nL s args own G) (hsz : ls.size = nL) (hW : Wb G ah s H locs) (hv : cpI t ah a i b j n = some ah') (hr : 1 ≤ R.frames ∧ (rest.map fun v => v.category).sum + (nativeFrameWords "java/lang/System" "arraycopy" 5 + 11) ≤ R.locals) (hd : decode cc pc = .ok (.invokestatic idx, 3))
    (kk : ∀ (H1 : Heap) (locs1 : List Loc), Wb G ah' s H1 locs1 → W p l e R s m args below meth c H1 locs1 cells slots Q (F0 m (pc + 3) ls rest)) : W p l e R s m args below meth c H locs cells slots Q (F0 m pc ls (.int n :: .int j :: .ref (gB G + b) :: .int i :: .ref (gB G + a) :: rest)) := by
  obtain ⟨hx, hb, hml, hown, hts, hK, -⟩ := C
  obtain ⟨n0, n1, f, g, ha0, ha1, ⟨h1, h2, h3⟩, ⟨h4, h5⟩, hfit, rfl⟩ := cpI_of hv
  have nn : ∀ z : Int32, ¬ z < 0 → z.toInt = (z.toNatClampNeg : Int) := by
    intro z hz
    have hz0 : (0 : Int) ≤ z.toInt := by
      have := Int32.not_lt.mp hz
      simpa using Int32.le_iff_toInt_le.mp this
    show z.toInt = ((z.toInt.toNat : Nat) : Int)
    omega
  have htt : ∃ ty : FieldType, (tysZ G)[t]? = some (G.2.1 t, ty) ∧ refKind ty = false ∧ ∀ k, k < n.toNatClampNeg → fits ty (.int (f (i.toNatClampNeg + k))) = true := by
    rcases ht with rfl | rfl
    · exact ⟨.int, rfl, rfl, fun _ _ => rfl⟩
    · refine ⟨.byte, rfl, rfl, ?_⟩
      rcases hfit with h | h
      · cases h
      · exact h
  obtain ⟨ty, htz, hprim, hfit⟩ := htt
  intro T hT X
  have hc0 : H[gB G + a]? = some (vp_cell (G.2.1 t) (n0, .inl f)) := hW.1.1 a _ (wsZ_at ha0)
  have hc1 : H[gB G + b]? = some (vp_cell (G.2.1 t) (n1, .inl g)) := hW.1.1 b _ (wsZ_at ha1)
  obtain ⟨-, k0, hk0, cm0, hkk0⟩ := (hK.1.2 t _ htz).1 n0 (fun j => .int (f j))
  obtain ⟨-, k1, hk1, cm1, hkk1⟩ := (hK.1.2 t _ htz).1 n1 (fun j => .int (g j))
  obtain ⟨vm', X', step⟩ := X.arraycopy hx hown (hts _ hk.1) (hts _ hk.2.1) (hts _ hk.2.2.1) (hts _ hk.2.2.2) (src := gB G + a) (dst := gB G + b) (cs := vp_cell (G.2.1 t) (n0, .inl f)) (cd := vp_cell (G.2.1 t) (n1, .inl g)) (srcPos := i) (destPos := j) (n := n) (by rw [hT]; exact hc0) (by rw [hT]; exact hc1)
    (fun _ h => by cases h) (fun _ h => by cases h) (fun h => by cases h) (fun h => by cases h) hk0 hk1 hkk0 hkk1 (by simp [hprim]) h1 h2 h3
    (by rw [nn i h1, nn n h3]; show ¬ _ > ((arrV (G.2.1 t) n0 (fun j => .int (f j))).slots.size : Int); rw [arrV_size]; omega)
    (by rw [nn j h2, nn n h3]; show ¬ _ > ((arrV (G.2.1 t) n1 (fun j => .int (g j))).slots.size : Int); rw [arrV_size]; omega)
    (fun vm₁ _ k hk => by
      have e : (vp_cell (G.2.1 t) (n0, .inl f)).slots.getD (i.toNatClampNeg + k) .null = .int (f (i.toNatClampNeg + k)) := by
        show (arrV (G.2.1 t) n0 (fun j => .int (f j))).slots.getD _ _ = _
        rw [Array.getD_eq_getD_getElem?, arrV_read _ _ (by omega)]
        rfl
      refine ⟨?_, ?_⟩
      · rw [e]
        exact hfit k hk
      · rw [e]
        exact trivial)
    (g := F0 m pc ls (.int n :: .int j :: .ref (gB G + b) :: .int i :: .ref (gB G + a) :: rest)) rfl (by rw [hml]; exact hsz) (rest := rest) rfl (by rw [hb]; exact hd) hr.1 (by have := hr.2; show 2 * 0 + _ + _ ≤ _; omega)
  have e1 : copied (vp_cell (G.2.1 t) (n0, .inl f)) (vp_cell (G.2.1 t) (n1, .inl g)) i j n = vp_cell (G.2.1 t) (n1, .inl (va_cpy f g i.toNatClampNeg j.toNatClampNeg n.toNatClampNeg)) := va_copied (fun z => .int z) _ _ f g h4
  rw [e1] at X' step
  have hl : gB G + b < H.size := (Array.getElem?_eq_some_iff.mp hc1).1
  have hheap : ((T.setVm vm').setCell (gB G + b) (vp_cell (G.2.1 t) (n1, .inl (va_cpy f g i.toNatClampNeg j.toNatClampNeg n.toNatClampNeg)))).heap = H.setIfInBounds (gB G + b) (vp_cell (G.2.1 t) (n1, .inl (va_cpy f g i.toNatClampNeg j.toNatClampNeg n.toNatClampNeg))) := by rw [← hT]; rfl
  have oq : ∀ q : Nat, q ≠ gB G + b → (H.setIfInBounds (gB G + b) (vp_cell (G.2.1 t) (n1, .inl (va_cpy f g i.toNatClampNeg j.toNatClampNeg n.toNatClampNeg))))[q]? = H[q]? := fun q hq => by simp [Array.getElem?_setIfInBounds, Ne.symm hq]
  obtain ⟨t2, a1, b1⟩ := kk _ _ ⟨⟨by rw [wsZ_set]; exact hW.1.1.set hW.D (wsZ_at ha1) (show (H.setIfInBounds (gB G + b) _)[gB G + b]? = some _ by simp [Array.getElem?_setIfInBounds, hl]) oq, by rw [Array.size_setIfInBounds, List.length_set]; exact hW.1.2⟩, by simp; exact hW.2.1, fun q g1 g2 => by
      rw [oq q (fun e => g2 (by rw [e]; exact Nat.le_add_right _ _))]
      exact hW.2.2.1 q g1 g2, fun q hq => by
      rcases List.mem_append.mp hq with h | h
      · exact hW.2.2.2 q h
      · obtain ⟨z, -, hz⟩ := List.mem_map.mp h
        rw [← hz]
        exact Nat.le_add_right _ _⟩ _ hheap X'
  exact ⟨t2, step t2 a1, b1⟩
/-! references compared; a reference from the heap that is looked at -/
theorem wz_acmp_ne {r1 r2 : Option Nat} {off : Int} {tgt : Nat} (C : Cx p m c cc nL s args own G) (hd : decode cc pc = .ok (.if_acmp .ne off, 3)) (ht : (pc : Int) + off = (tgt : Int))
    (k1 : ¬ r1 = r2 → W p l e R s m args below meth c H locs cells slots Q (F0 m tgt ls rest)) (k2 : r1 = r2 → W p l e R s m args below meth c H locs cells slots Q (F0 m (pc + 3) ls rest)) : W p l e R s m args below meth c H locs cells slots Q (F0 m pc ls (rv G r2 :: rv G r1 :: rest)) := by
  refine lv_acmp_ne C.1 C.2.1 hd ht (fun h => k1 ?_) (fun h => k2 ?_)
  · intro h2; subst h2; exact h rfl
  · revert h
    cases r1 <;> cases r2 <;> simp
/-! a call: what it needs, how it runs, how it goes on -/
def LV (own : String) (idx : Nat) (y : MethodName) (b : ByteArray) (mL : Nat) (ret : Option FieldType) (n : Nat) : Prop :=
  Cond.methodLink own idx y ∈ tz ∧ Cond.instanceMethod y ∈ tz ∧ Cond.selects y.cls y y ∈ tz ∧ Cond.initialized y.cls ∈ tz ∧ Cond.code y b mL ret ∈ tz ∧ (y.cls ≠ "java/lang/invoke/MethodHandle" ∧ y.cls ≠ "java/lang/invoke/VarHandle" ∧ (parseMethodDescriptor y.desc).map (fun d => d.parameters.length) = some n)
def LT (own : String) (idx : Nat) (y : MethodName) (b : ByteArray) (mL : Nat) (ret : Option FieldType) (n : Nat) : Prop :=
  Cond.methodLink own idx y ∈ tz ∧ Cond.static y ∈ tz ∧ Cond.initialized y.cls ∈ tz ∧ Cond.code y b mL ret ∈ tz ∧ (y.cls ≠ "java/lang/invoke/MethodHandle" ∧ y.cls ≠ "java/lang/invoke/VarHandle" ∧ (parseMethodDescriptor y.desc).map (fun d => d.parameters.length) = some n)
def LI (own : String) (idx : Nat) (y : MethodName) (b : ByteArray) (mL : Nat) (n : Nat) : Prop :=
  Cond.methodLink own idx y ∈ tz ∧ Cond.instanceMethod y ∈ tz ∧ y.name = "<init>" ∧ Cond.initialized y.cls ∈ tz ∧ Cond.code y b mL none ∈ tz ∧ (y.cls ≠ "java/lang/invoke/MethodHandle" ∧ y.cls ≠ "java/lang/invoke/VarHandle" ∧ (parseMethodDescriptor y.desc).map (fun d => d.parameters.length) = some n)
def LN (own : String) (idx : Nat) (y : MethodName) (b : ByteArray) (mL : Nat) (ret : Option FieldType) (n : Nat) : Prop :=
  (own, idx, y) ∈ nestW ∧ Cond.static y ∈ tz ∧ Cond.initialized y.cls ∈ tz ∧ Cond.code y b mL ret ∈ tz ∧ (y.cls ≠ "java/lang/invoke/MethodHandle" ∧ y.cls ≠ "java/lang/invoke/VarHandle" ∧ (parseMethodDescriptor y.desc).map (fun d => d.parameters.length) = some n)
def clN (ci : Nat) : String := match vwCl[ci]? with
  | some q => q.1
  | none => ""
def okR (rm R : Room) (mc ms mL : Nat) : Prop := (rm.cells = mc ∧ rm.slots = ms) ∧ rm.frames + 1 ≤ R.frames ∧ 8 + (mL + 11) + rm.locals ≤ R.locals
theorem Wb.pre {av : List Value} (hW : Wb G ah s H locs) (hK : Kz G s) : ∀ U : State, U.heap = H → s.WarmedH U.vm → Pz G av ah av.toArray U := fun U hU hw => ⟨rfl, by rw [hU]; exact hW.1, hK.warm hw (fun q h1 h2 => by rw [hU]; exact hW.2.2.1 q h1 h2)⟩
variable {y : MethodName} {b : ByteArray} {mL n idx mc ms a : Nat} {ret : Option FieldType} {rm : Room} {Qc : Array Value → State → Outcome → State → Prop} {As st0 : List Value}
theorem wz_runV (C : Cx p m c cc nL s args own G) (hW : Wb G ah s H locs) (hL : LV own idx y b mL ret n) {ci : Nat} (ho : isO ci ah a = true) (hci : clN ci = y.cls) (hM : Met l y (wy y b mL ret) rm (Pz G (.ref (gB G + a) :: As) ah) Qc mc ms (AA G))
    (hR : okR rm R mc ms mL) (hn : As.length = n) (hsz : ls.size = nL) (hst : st0 = As.reverse ++ .ref (gB G + a) :: rest) (hw : (rest.map fun v => v.category).sum ≤ 8) (hd : decode cc pc = .ok (.invokevirtual idx, 3)) (hf : cells + mc ≤ R.cells ∧ slots + ms ≤ R.slots) :
    va_Run p l e R s m args below meth c H locs cells slots mc ms (F0 m pc ls st0) rest (Qc (Value.ref (gB G + a) :: As).toArray) (AA G) := by
  obtain ⟨l1, l2, l3, l4, l5, l6⟩ := hL
  obtain ⟨fs, h1⟩ := isO_of ho
  have hq : ∃ q : vw_C, vwCl[ci]? = some q ∧ q.1 = y.cls := by
    obtain ⟨r, h2, -⟩ := hW.1.1 a _ (wsZ_at h1)
    refine ⟨r, h2, ?_⟩
    rw [← hci]; unfold clN; rw [h2]
  obtain ⟨q, hq1, hq2⟩ := hq
  have hrecv := va_recv C.2.2.2.2.2.1.1 hW.1.1 hq1 (wsZ_at h1)
  rw [hq2] at hrecv
  have hG : GoodIn tz (wsV own idx y.cls y (wy y b mL ret)) := by
    intro w hw
    have h4 : w ∈ tz := by
      unfold wsV at hw
      simp only [List.cons_append, List.nil_append, List.mem_cons] at hw
      rcases hw with rfl | rfl | rfl | rfl | rfl | hw <;> assumption
    exact ⟨h4, good_of_word (List.mem_filter.mp h4).2⟩
  exact va_runV ⟨C.1, C.2.1, C.2.2.1, C.2.2.2.1, C.2.2.2.2.1⟩ hM (cwV n C.2.2.2.2.1 hG rfl hR.1.1 hR.1.2 ⟨rfl, l6⟩ hR.2) ⟨Pz.blind, hrecv, hW.pre C.2.2.2.2.2.1⟩ rfl hn hsz hst (lv_room hw) hd hf
theorem wz_runS (C : Cx p m c cc nL s args own G) (hW : Wb G ah s H locs) (hL : LT own idx y b mL ret n) (hM : Met l y (wy y b mL ret) rm (Pz G As ah) Qc mc ms (AA G))
    (hR : okR rm R mc ms mL) (hn : As.length = n) (hsz : ls.size = nL) (hst : st0 = As.reverse ++ rest) (hw : (rest.map fun v => v.category).sum ≤ 8) (hd : decode cc pc = .ok (.invokestatic idx, 3)) (hf : cells + mc ≤ R.cells ∧ slots + ms ≤ R.slots) :
    va_Run p l e R s m args below meth c H locs cells slots mc ms (F0 m pc ls st0) rest (Qc As.toArray) (AA G) := by
  obtain ⟨l1, l2, l4, l5, l6⟩ := hL
  have hts := C.2.2.2.2.1
  exact va_runS ⟨C.1, C.2.1, C.2.2.1, C.2.2.2.1, hts⟩ hM ⟨callB_of n hts (tz_good l5) rfl hR.1.1 hR.1.2 (hts _ l4) (hts _ l1) l6 hR.2, hts _ l2⟩ ⟨Pz.blind, hW.pre C.2.2.2.2.2.1⟩ rfl hn hsz hst (lv_room hw) hd hf
theorem wz_runI (C : Cx p m c cc nL s args own G) (hW : Wb G ah s H locs) (hL : LI own idx y b mL n) (hM : Met l y (wy y b mL none) rm (Pz G (.ref (gB G + a) :: As) ah) Qc mc ms (AA G))
    (hR : okR rm R mc ms mL) (hn : As.length = n) (hsz : ls.size = nL) (hst : st0 = As.reverse ++ .ref (gB G + a) :: rest) (hw : (rest.map fun v => v.category).sum ≤ 8) (hd : decode cc pc = .ok (.invokespecial idx, 3)) (hf : cells + mc ≤ R.cells ∧ slots + ms ≤ R.slots) :
    va_Run p l e R s m args below meth c H locs cells slots mc ms (F0 m pc ls st0) rest (Qc (Value.ref (gB G + a) :: As).toArray) (AA G) := by
  obtain ⟨l1, l2, l3, l4, l5, l6⟩ := hL
  have hts := C.2.2.2.2.1
  exact va_runI ⟨C.1, C.2.1, C.2.2.1, C.2.2.2.1, hts⟩ hM ⟨callB_of n hts (tz_good l5) rfl hR.1.1 hR.1.2 (hts _ l4) (hts _ l1) l6 hR.2, l3, hts _ l2⟩ ⟨Pz.blind, hW.pre C.2.2.2.2.2.1⟩ rfl hn hsz hst (lv_room hw) hd hf
theorem wz_runN (C : Cx p m c cc nL s args own G) (hW : Wb G ah s H locs) (hL : LN own idx y b mL ret n) (hM : Met l y (wy y b mL ret) rm (Pz G As ah) Qc mc ms (AA G))
    (hR : okR rm R mc ms mL) (hn : As.length = n) (hsz : ls.size = nL) (hst : st0 = As.reverse ++ rest) (hw : (rest.map fun v => v.category).sum ≤ 8) (hd : decode cc pc = .ok (.invokestatic idx, 3)) (hf : cells + mc ≤ R.cells ∧ slots + ms ≤ R.slots) :
    va_Run p l e R s m args below meth c H locs cells slots mc ms (F0 m pc ls st0) rest (Qc As.toArray) (AA G) := by
  obtain ⟨l1, l2, l4, l5, l6⟩ := hL
  have hts := C.2.2.2.2.1
  have hK := C.2.2.2.2.2.1
  exact va_runSN ⟨C.1, C.2.1, C.2.2.1, C.2.2.2.1, hts⟩ hM ⟨va_cnB n hts (tz_good l5) rfl hR.1.1 hR.1.2 (hK.2.1 _ l1) (hts _ l4) l6 hR.2, hts _ l2, trivial⟩ ⟨Pz.blind, hW.pre hK⟩ rfl hn hsz hst (lv_room hw) hd hf
variable {av : Array Value}
theorem wz_ri {r : Int32} (hW : Wb G ah s H locs) (hr : va_Run p l e R s m args below meth c H locs cells slots mc ms (F0 m pc ls st0) rest (Qi G r ah' av) (AA G))
    (kk : ∀ (H1 : Heap) (locs1 : List Loc), Wb G ah' s H1 locs1 → W p l e R s m args below meth c H1 locs1 (cells + mc) (slots + ms) Q (F0 m (pc + 3) ls (.int r :: rest))) : W p l e R s m args below meth c H locs cells slots Q (F0 m pc ls st0) := by
  refine va_calli hr hW.2 (fun _ _ h => h) (fun _ h => h) (fun r' u t H1 locs1 ht hvm hp hB hz hk hS => ?_)
  cases hp
  subst ht
  exact kk _ _ ⟨hB, hS⟩
theorem wz_rv (hW : Wb G ah s H locs) (hr : va_Run p l e R s m args below meth c H locs cells slots mc ms (F0 m pc ls st0) rest (Qv G ah' av) (AA G))
    (kk : ∀ (H1 : Heap) (locs1 : List Loc), Wb G ah' s H1 locs1 → W p l e R s m args below meth c H1 locs1 (cells + mc) (slots + ms) Q (F0 m (pc + 3) ls rest)) : W p l e R s m args below meth c H locs cells slots Q (F0 m pc ls st0) := by
  refine va_callv hr hW.2 (fun _ _ h => h) (fun _ h => h) (fun u t H1 locs1 ht hvm hp hB hz hk hS => ?_)
  subst ht
  exact kk _ _ ⟨hB, hS⟩
theorem wz_rq {r : Option Nat} (hW : Wb G ah s H locs) (hr : va_Run p l e R s m args below meth c H locs cells slots mc ms (F0 m pc ls st0) rest (Qq G r ah' av) (AA G))
    (kk : ∀ (H1 : Heap) (locs1 : List Loc), Wb G ah' s H1 locs1 → W p l e R s m args below meth c H1 locs1 (cells + mc) (slots + ms) Q (F0 m (pc + 3) ls (rv G r :: rest))) : W p l e R s m args below meth c H locs cells slots Q (F0 m pc ls st0) := by
  refine va_callq hr hW.2 (fun _ _ h => h) (fun _ h => h) (fun r' u t H1 locs1 ht hvm hp hB hz hk hS => ?_)
  cases hp
  subst ht
  exact kk _ _ ⟨hB, hS⟩
/-! returns -/
theorem wz_iret {r : Int32} (C : Cx p m c cc nL s args own G) (hlk : meth.locks = false) (hr : meth.sig.returnType = some .int) (hW : Wb G ah s H locs) (hd : decode cc pc = .ok (.ireturn, 1)) : W p l e R s m args below meth c H locs cells slots (MQ below (Qi G r ah) args s cells slots (AA G)) (F0 m pc ls [.int r]) :=
  W.iret C.1 C.2.1 hr (fun t ht _ => ⟨⟨r, (), rfl, rfl, (by show HZ G ah t.heap; rw [ht]; exact hW.1)⟩, hW.2.F ht⟩) hW.free hd hlk
theorem wz_zret {r : Int32} (C : Cx p m c cc nL s args own G) (hlk : meth.locks = false) (hr : meth.sig.returnType = some .boolean) (hz : r = 0 ∨ r = 1) (hW : Wb G ah s H locs) (hd : decode cc pc = .ok (.ireturn, 1)) : W p l e R s m args below meth c H locs cells slots (MQ below (Qi G r ah) args s cells slots (AA G)) (F0 m pc ls [.int r]) :=
  W.zret C.1 C.2.1 hr (by rcases hz with rfl | rfl <;> rfl) (fun t ht _ => ⟨⟨r, (), rfl, rfl, (by show HZ G ah t.heap; rw [ht]; exact hW.1)⟩, hW.2.F ht⟩) hW.free hd hlk
theorem wz_vret (C : Cx p m c cc nL s args own G) (hlk : meth.locks = false) (hr : meth.sig.returnType = none) (hW : Wb G ah s H locs) (hd : decode cc pc = .ok (.return_, 1)) : W p l e R s m args below meth c H locs cells slots (MQ below (Qv G ah) args s cells slots (AA G)) (F0 m pc ls []) :=
  W.vret C.1 C.2.1 hr (fun t ht _ => ⟨⟨(), rfl, trivial, (by show HZ G ah t.heap; rw [ht]; exact hW.1)⟩, hW.2.F ht⟩) hW.free hd hlk
theorem wz_aret {r : Option Nat} {CC : String} (C : Cx p m c cc nL s args own G) (hlk : meth.locks = false) (hr : meth.sig.returnType = some (.object CC)) (hW : Wb G ah s H locs) (hd : decode cc pc = .ok (.areturn, 1)) : W p l e R s m args below meth c H locs cells slots (MQ below (Qq G r ah) args s cells slots (AA G)) (F0 m pc ls [rv G r]) :=
  W.aret C.1 C.2.1 hr (Or.inl ⟨_, rfl⟩) (va_rf_or _) (fun t ht _ => ⟨⟨_, (), rfl, rfl, (by show HZ G ah t.heap; rw [ht]; exact hW.1)⟩, hW.2.F ht⟩) hW.free hd hlk
/-- a method's entry -/
theorem wz_ent {av : List Value} (hy : plainName y.cls = true) (hown : y.cls = own)
    (body : ∀ (p : Program) (e : Env) (s : State) (m : MethodId) (below : List Frame) (meth : Method) (c : Code) (ls : Array Slot), Cx p m c b mL s av.toArray own G → meth.locks = false → meth.sig.returnType = ret → meth.name = y.name → Wb G ah s s.heap [] → lv_has ls mL (lv_args 0 av) →
      W p l e rm s m av.toArray below meth c s.heap [] 0 0 (MQ below Qc av.toArray s mc ms (AA G)) (F0 m 0 ls [])) (hal : (lg_sl av).length ≤ mL) : Met l y (wy y b mL ret) rm (Pz G av ah) Qc mc ms (AA G) := by
  refine Met.ofW (cc := b) (maxL := mL) (ret := ret) hy rfl ?_
  intro p e s m args below meth c s₁ B hml hv
  obtain ⟨rfl, hH, hK⟩ := hv
  have hts : ∀ w ∈ wy y b mL ret, w.before av.toArray s = true := atoms_spec (ws := wy y b mL ret) B.pre
  have hfc : s.vm.findClass own = some m.cls := by rw [← hown]; exact findClass_of_methodNamed B.named
  rw [lg_entry_eq]
  exact body p e s m below meth c _ ⟨B.exec, B.bytes, hml, hfc, fun w hw => hts w (List.mem_cons_of_mem _ hw), hK, fun q hq => Nat.le_trans (by rw [hH.2]; exact Nat.le_add_right _ _) hq⟩ B.notSynchronized B.returns (name_of_methodNamed B.named B.method).1 ⟨hH, va_S.rf⟩ (lv_entry av hal)
end ZS
