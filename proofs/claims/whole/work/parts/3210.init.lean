/-! ===== the world at the law's entry ===== -/
set_option maxRecDepth 100000 in
theorem nr_arr : ∀ i, i < 6 → Cond.arrayOf (.static RX4 (sNam i) "[I") .int ∈ flatC (Jvm.Cond.and given_1 narrow_1) := by decide +kernel
set_option maxRecDepth 100000 in
theorem nr_len : ∀ i, i < 6 → Cond.eq (.length (.static RX4 (sNam i) "[I")) (.int (Int32.ofNat (sLen i))) ∈ flatC (Jvm.Cond.and given_1 narrow_1) := by decide +kernel
set_option maxRecDepth 100000 in
theorem nr_lay : ∀ i, i < 6 → Cond.laysStatic RX4 (sNam i) "[I" ∈ lw_tbl := by decide +kernel
set_option maxRecDepth 100000 in
theorem nr_s1 : ∀ i, i < 4 → Cond.exactly (.string RX4 (sCp.getD i 0)) "java/lang/String" ∈ flatC (Jvm.Cond.and given_1 narrow_1) ∧ Cond.eq (.field (.string RX4 (sCp.getD i 0)) "java/lang/String" "coder" "B") (.int 0) ∈ flatC (Jvm.Cond.and given_1 narrow_1) ∧ Cond.arrayOf (.field (.string RX4 (sCp.getD i 0)) "java/lang/String" "value" "[B") .byte ∈ flatC (Jvm.Cond.and given_1 narrow_1) ∧ Cond.eq (.length (.field (.string RX4 (sCp.getD i 0)) "java/lang/String" "value" "[B")) (.int (Int32.ofNat (strL.getD i 0))) ∈ flatC (Jvm.Cond.and given_1 narrow_1) := by decide +kernel
theorem nr_s20 : ∀ j, j < strL.getD 0 0 → Cond.eq (.elem (.field (.string RX4 (sCp.getD 0 0)) "java/lang/String" "value" "[B") (.int (Int32.ofNat j))) (.int ((strB.getD 0 []).getD j 0)) ∈ flatC (Jvm.Cond.and given_1 narrow_1) := by
  intro j hj
  have hj : j < 52 := hj
  by_cases h : j < 26
  · have := nr_s20a j h
    rwa [Nat.zero_add] at this
  · have := nr_s20b (j - 26) (by omega)
    rwa [show 26 + (j - 26) = j by omega] at this
theorem nr_s2 : ∀ i, i < 4 → ∀ j, j < strL.getD i 0 → Cond.eq (.elem (.field (.string RX4 (sCp.getD i 0)) "java/lang/String" "value" "[B") (.int (Int32.ofNat j))) (.int ((strB.getD i []).getD j 0)) ∈ flatC (Jvm.Cond.and given_1 narrow_1) := by
  intro i hi
  match i, hi with
  | 0, _ => exact nr_s20
  | 1, _ => exact nr_s21
  | 2, _ => exact nr_s22
  | 3, _ => exact nr_s23
  | i + 4, h => omega
set_option maxRecDepth 100000 in
theorem nr_s3 : ∀ i, i < 4 → ∀ j, j < 4 → i ≠ j → Cond.not (Cond.eq (.string RX4 (sCp.getD i 0)) (.string RX4 (sCp.getD j 0))) ∈ flatC (Jvm.Cond.and given_1 narrow_1) ∨ Cond.not (Cond.eq (.string RX4 (sCp.getD j 0)) (.string RX4 (sCp.getD i 0))) ∈ flatC (Jvm.Cond.and given_1 narrow_1) := by decide +kernel
set_option maxRecDepth 100000 in
theorem nr_s4 : ∀ i, i < 4 → Cond.stringRef RX4 (sCp.getD i 0) (sTx.getD i "") ∈ lw_tbl := by decide +kernel
set_option maxRecDepth 100000 in
theorem nr_s5 : Cond.eq (.static "java/lang/String" "COMPACT_STRINGS" "Z") (.int 1) ∈ flatC (Jvm.Cond.and given_1 narrow_1) ∧ Cond.isRef (.static "jdk/internal/util/Preconditions" "SIOOBE_FORMATTER" "Ljava/util/function/BiFunction;") ∈ flatC (Jvm.Cond.and given_1 narrow_1) := by decide +kernel
set_option maxRecDepth 100000 in
theorem nr_s6 : Cond.laysStatic "java/lang/String" "COMPACT_STRINGS" "Z" ∈ lw_tbl ∧ Cond.initialized "java/lang/String" ∈ lw_tbl ∧ Cond.laysStatic "jdk/internal/util/Preconditions" "SIOOBE_FORMATTER" "Ljava/util/function/BiFunction;" ∈ lw_tbl ∧ Cond.initialized "jdk/internal/util/Preconditions" ∈ lw_tbl ∧ Cond.initialized RX4 ∈ lw_tbl := by decide +kernel
set_option maxRecDepth 100000 in
theorem nr_nest : ∀ q ∈ nestW, Cond.methodLinkNest q.1 q.2.1 q.2.2 "PairedViews" ∈ lw_tbl := by decide +kernel
set_option maxRecDepth 100000 in
theorem nr_over : ∀ C ∈ [RX0, RX5, RX6, RX7], Cond.arrayOver (.object C) ∈ lw_tbl := by decide +kernel
set_option maxRecDepth 100000 in
theorem nr_inst : Cond.instantiable RX0 20 ∈ lw_tbl ∧ Cond.instantiable RX1 3 ∈ lw_tbl ∧ Cond.instantiable RX2 2 ∈ lw_tbl ∧ Cond.instantiable RX4 15 ∈ lw_tbl ∧ Cond.instantiable RX5 4 ∈ lw_tbl ∧ Cond.instantiable RX6 15 ∈ lw_tbl ∧ Cond.instantiable RX7 7 ∈ lw_tbl ∧ Cond.instantiable RX8 8 ∈ lw_tbl ∧ Cond.instantiable RX9 8 ∈ lw_tbl ∧ Cond.instantiable RX10 56 ∈ lw_tbl := by decide +kernel
theorem lw_prim {args : Array Value} {s : State} {ty : FieldType} (h : (Cond.arrayClass ty).before args s = true) : ∃ cA, ArrOfT s cA ty ∧ s.vm.findClass ("[" ++ ty.toString) = some cA := by
  obtain ⟨cA, kA, comp, h1, h2, h3⟩ := Cond.arrayClass_spec h
  exact ⟨cA, fun n z => ⟨(fun k h => by cases h), kA, h2, comp, h3⟩, h1⟩
theorem lw_refs {args : Array Value} {s : State} {C : String} (h : (Cond.arrayOver (.object C)).before args s = true) : ∃ cA, ArrOfT s cA (.object C) ∧ va_RA s cA (.object C) := by
  obtain ⟨comp, c, k, h1, h2, h3, h4, h5⟩ := Cond.arrayOver_spec h
  exact ⟨c, fun n z => ⟨(fun k h => by cases h), k, h3, comp, h4⟩, k, comp, h3, h4, h1, h5⟩
theorem lw_sub {C : String} {T : u_T} {N : Nat} (h : (C, T, N) ∈ vwCl) : ∀ w ∈ u_ws C T N, w ∈ lw_tbl := fun w hw => (List.mem_filter.mp (tz_in _ h w hw)).1
set_option maxHeartbeats 4000000 in
set_option maxRecDepth 100000 in
theorem lw_world {s : State} {b : Nat} (hts : ∀ w ∈ lw_tbl, w.before #[Value.ref b] s = true) (hgv : (Jvm.Cond.and given_1 narrow_1).before #[Value.ref b] s = true) : ∃ G : GW, gB G = s.heap.size ∧ Kz G s := by
  have hs := flat_of_before _ hgv
  obtain ⟨n0, n1, n2, n3, n4, n5, n6, n7, n8, n9⟩ := nr_inst
  obtain ⟨c0, i0, k0⟩ := u_known (C := RX0) (T := TX0) (N := 20) (n := 20) hts (lw_sub (List.mem_of_getElem? (i := 0) rfl)) (hts _ n0)
  obtain ⟨c1, i1, k1⟩ := u_known (C := RX1) (T := TX1) (N := 3) (n := 3) hts (lw_sub (List.mem_of_getElem? (i := 1) rfl)) (hts _ n1)
  obtain ⟨c2, i2, k2⟩ := u_known (C := RX2) (T := TX2) (N := 2) (n := 2) hts (lw_sub (List.mem_of_getElem? (i := 2) rfl)) (hts _ n2)
  obtain ⟨c3, i3, k3⟩ := u_known (C := RX4) (T := TX4) (N := 15) (n := 15) hts (lw_sub (List.mem_of_getElem? (i := 3) rfl)) (hts _ n3)
  obtain ⟨c4, i4, k4⟩ := u_known (C := RX5) (T := TX5) (N := 4) (n := 4) hts (lw_sub (List.mem_of_getElem? (i := 4) rfl)) (hts _ n4)
  obtain ⟨c5, i5, k5⟩ := u_known (C := RX6) (T := TX6) (N := 15) (n := 15) hts (lw_sub (List.mem_of_getElem? (i := 5) rfl)) (hts _ n5)
  obtain ⟨c6, i6, k6⟩ := u_known (C := RX7) (T := TX7) (N := 7) (n := 7) hts (lw_sub (List.mem_of_getElem? (i := 6) rfl)) (hts _ n6)
  obtain ⟨c7, i7, k7⟩ := u_known (C := RX8) (T := TX8) (N := 8) (n := 8) hts (lw_sub (List.mem_of_getElem? (i := 7) rfl)) (hts _ n7)
  obtain ⟨c8, i8, k8⟩ := u_known (C := RX9) (T := TX9) (N := 8) (n := 8) hts (lw_sub (List.mem_of_getElem? (i := 8) rfl)) (hts _ n8)
  obtain ⟨c9, i9, k9⟩ := u_known (C := RX10) (T := TX10) (N := 56) (n := 56) hts (lw_sub (List.mem_of_getElem? (i := 9) rfl)) (hts _ n9)
  obtain ⟨aI, aI1, aI2⟩ := lw_prim (ty := .int) (hts _ (List.mem_of_getElem? (i := 247) (by decide +kernel)))
  obtain ⟨aB, aB1, aB2⟩ := lw_prim (ty := .byte) (hts _ (List.mem_of_getElem? (i := 284) (by decide +kernel)))
  obtain ⟨aZ, aZ1, aZ2⟩ := lw_prim (ty := .boolean) (hts _ (List.mem_of_getElem? (i := 342) (by decide +kernel)))
  obtain ⟨r0, r01, r02⟩ := lw_refs (C := RX0) (hts _ (nr_over _ (by simp)))
  obtain ⟨r4, r41, r42⟩ := lw_refs (C := RX5) (hts _ (nr_over _ (by simp)))
  obtain ⟨r5, r51, r52⟩ := lw_refs (C := RX6) (hts _ (nr_over _ (by simp)))
  obtain ⟨r6, r61, r62⟩ := lw_refs (C := RX7) (hts _ (nr_over _ (by simp)))
  have hA : ∀ a : Nat, a < s.heap.size → ¬ (fun q : Nat => s.heap.size ≤ q) a := fun a h q => Nat.lt_irrefl _ (Nat.lt_of_lt_of_le h q)
  have st0 : ∀ i : Nat, ∃ t : Nat, i < 6 → va_Z RX4 (sNam i) "[I" (.ref t) (fun q : Nat => s.heap.size ≤ q) s s.heap ∧ va_T .int t (sLen i) (fun j => .int (sVal i j)) (fun q : Nat => s.heap.size ≤ q) s s.heap := by
    intro i
    by_cases hi : i < 6
    · have hN : ∀ i, i < 6 → sLen i < 2 ^ 31 := by decide +kernel
      obtain ⟨t, ht, hT⟩ := va_Tof (args := #[Value.ref b]) (tm := .static RX4 (sNam i) "[I") (f := fun j => .int (sVal i j)) (hN i hi) (hs _ (nr_arr i hi)) (va_eqt (hs _ (nr_len i hi))) (fun j hj => va_eqt (hs _ (nr_el i hi j hj))) hA
      exact ⟨t, fun _ => ⟨va_Zof (hts _ (nr_lay i hi)) (hts _ nr_s6.2.2.2.2) ht hA, hT⟩⟩
    · exact ⟨0, fun h => absurd h hi⟩
  obtain ⟨st, hst⟩ := Classical.axiomOfChoice st0
  have hN4 : ∀ i, i < 4 → strL.getD i 0 < 2 ^ 31 := by decide +kernel
  obtain ⟨adK, adV, hvS, hvK⟩ := vk_Sof (args := #[Value.ref b]) (s := s) (N := 4) (tm := fun i => .string RX4 (sCp.getD i 0)) (len := strL) (byt := strB) (A := fun q : Nat => s.heap.size ≤ q) hN4 (fun i hi => hs _ (nr_s1 i hi).1) (fun i hi => hs _ (nr_s1 i hi).2.1) (fun i hi => hs _ (nr_s1 i hi).2.2.1) (fun i hi => hs _ (nr_s1 i hi).2.2.2) (fun i hi j hj => hs _ (nr_s2 i hi j hj)) (fun i j hi hj hij => (nr_s3 i hi j hj hij).imp (hs _) (hs _)) hA
  refine ⟨((fun k => match k with | 0 => c0 | 1 => c1 | 2 => c2 | 3 => c3 | 4 => c4 | 5 => c5 | 6 => c6 | 7 => c7 | 8 => c8 | _ => c9, fun k => match k with | 0 => i0 | 1 => i1 | 2 => i2 | 3 => i3 | 4 => i4 | 5 => i5 | 6 => i6 | 7 => i7 | 8 => i8 | _ => i9), (fun t => match t with | 0 => aI | 1 => aB | _ => aZ), (fun t => match t with | 0 => r0 | 4 => r4 | 5 => r5 | _ => r6), s.heap.size, st, adK, adV), rfl, ⟨?_, ?_⟩, ?_, ?_, ?_, ?_, ?_, ?_, ?_⟩
  · intro k q hq
    match k, hq with
    | 0, hq => cases hq; exact k0
    | 1, hq => cases hq; exact k1
    | 2, hq => cases hq; exact k2
    | 3, hq => cases hq; exact k3
    | 4, hq => cases hq; exact k4
    | 5, hq => cases hq; exact k5
    | 6, hq => cases hq; exact k6
    | 7, hq => cases hq; exact k7
    | 8, hq => cases hq; exact k8
    | 9, hq => cases hq; exact k9
    | k + 10, hq => simp [vwCl] at hq
  · intro k q hq
    match k, hq with
    | 0, hq => cases hq; exact ⟨aI1, aI2⟩
    | 1, hq => cases hq; exact ⟨aB1, aB2⟩
    | 2, hq => cases hq; exact ⟨aZ1, aZ2⟩
    | 3, hq => cases hq; exact ⟨r01, r02⟩
    | 4, hq => cases hq; exact ⟨r41, r42⟩
    | 5, hq => cases hq; exact ⟨r51, r52⟩
    | 6, hq => cases hq; exact ⟨r61, r62⟩
    | k + 7, hq => simp [tysZ] at hq
  · exact fun q hq => va_Nw.of rfl (hts _ (nr_nest q hq))
  · exact fun C hC => va_AO.of (hts _ (nr_over C hC))
  · exact fun i hi => hst i hi
  · exact fun i hi => vk_R.of (hts _ (nr_s4 i hi)) (hvK i hi)
  · exact hvS
  · exact va_Zof (hts _ nr_s6.1) (hts _ nr_s6.2.1) (va_eqi (hs _ nr_s5.1)) hA
  · exact va_Zqof (hts _ nr_s6.2.2.1) (hts _ nr_s6.2.2.2.1) (hs _ nr_s5.2) hA
