/-! ===== the JDK's text methods, over the reader's constants ===== -/
theorem dJ3_checkIndex_8e157_0 : decode cJ3_checkIndex_8e157 0 = .ok (.iload_n 0, 1) := by decide +kernel
theorem dJ3_checkIndex_8e157_1 : decode cJ3_checkIndex_8e157 1 = .ok (.ifCond .lt 8, 3) := by decide +kernel
theorem dJ3_checkIndex_8e157_4 : decode cJ3_checkIndex_8e157 4 = .ok (.iload_n 0, 1) := by decide +kernel
theorem dJ3_checkIndex_8e157_5 : decode cJ3_checkIndex_8e157 5 = .ok (.iload_n 1, 1) := by decide +kernel
theorem dJ3_checkIndex_8e157_6 : decode cJ3_checkIndex_8e157 6 = .ok (.if_icmp .lt 10, 3) := by decide +kernel
theorem dJ3_checkIndex_8e157_9 : decode cJ3_checkIndex_8e157 9 = .ok (.aload_n 2, 1) := by decide +kernel
theorem dJ3_checkIndex_8e157_10 : decode cJ3_checkIndex_8e157 10 = .ok (.iload_n 0, 1) := by decide +kernel
theorem dJ3_checkIndex_8e157_11 : decode cJ3_checkIndex_8e157 11 = .ok (.iload_n 1, 1) := by decide +kernel
theorem dJ3_checkIndex_8e157_12 : decode cJ3_checkIndex_8e157 12 = .ok (.invokestatic 95, 3) := by decide +kernel
theorem dJ3_checkIndex_8e157_15 : decode cJ3_checkIndex_8e157 15 = .ok (.athrow, 1) := by decide +kernel
theorem dJ3_checkIndex_8e157_16 : decode cJ3_checkIndex_8e157 16 = .ok (.iload_n 0, 1) := by decide +kernel
theorem dJ3_checkIndex_8e157_17 : decode cJ3_checkIndex_8e157 17 = .ok (.ireturn, 1) := by decide +kernel
theorem dJ0_checkIndex_df160_0 : decode cJ0_checkIndex_df160 0 = .ok (.iload_n 0, 1) := by decide +kernel
theorem dJ0_checkIndex_df160_1 : decode cJ0_checkIndex_df160 1 = .ok (.iload_n 1, 1) := by decide +kernel
theorem dJ0_checkIndex_df160_2 : decode cJ0_checkIndex_df160 2 = .ok (.getstatic 1053, 3) := by decide +kernel
theorem dJ0_checkIndex_df160_5 : decode cJ0_checkIndex_df160 5 = .ok (.invokestatic 1059, 3) := by decide +kernel
theorem dJ0_checkIndex_df160_8 : decode cJ0_checkIndex_df160 8 = .ok (.pop, 1) := by decide +kernel
theorem dJ0_checkIndex_df160_9 : decode cJ0_checkIndex_df160 9 = .ok (.return_, 1) := by decide +kernel
theorem dJ1_charAt_3b067_0 : decode cJ1_charAt_3b067 0 = .ok (.iload_n 1, 1) := by decide +kernel
theorem dJ1_charAt_3b067_1 : decode cJ1_charAt_3b067 1 = .ok (.aload_n 0, 1) := by decide +kernel
theorem dJ1_charAt_3b067_2 : decode cJ1_charAt_3b067 2 = .ok (.arraylength, 1) := by decide +kernel
theorem dJ1_charAt_3b067_3 : decode cJ1_charAt_3b067 3 = .ok (.invokestatic 9, 3) := by decide +kernel
theorem dJ1_charAt_3b067_6 : decode cJ1_charAt_3b067 6 = .ok (.aload_n 0, 1) := by decide +kernel
theorem dJ1_charAt_3b067_7 : decode cJ1_charAt_3b067 7 = .ok (.iload_n 1, 1) := by decide +kernel
theorem dJ1_charAt_3b067_8 : decode cJ1_charAt_3b067 8 = .ok (.baload, 1) := by decide +kernel
theorem dJ1_charAt_3b067_9 : decode cJ1_charAt_3b067 9 = .ok (.sipush 255, 3) := by decide +kernel
theorem dJ1_charAt_3b067_12 : decode cJ1_charAt_3b067 12 = .ok (.iand, 1) := by decide +kernel
theorem dJ1_charAt_3b067_13 : decode cJ1_charAt_3b067 13 = .ok (.i2c, 1) := by decide +kernel
theorem dJ1_charAt_3b067_14 : decode cJ1_charAt_3b067 14 = .ok (.ireturn, 1) := by decide +kernel
theorem dJ0_isLatin1_aae02_0 : decode cJ0_isLatin1_aae02 0 = .ok (.getstatic 38, 3) := by decide +kernel
theorem dJ0_isLatin1_aae02_3 : decode cJ0_isLatin1_aae02 3 = .ok (.ifCond .eq 14, 3) := by decide +kernel
theorem dJ0_isLatin1_aae02_6 : decode cJ0_isLatin1_aae02 6 = .ok (.aload_n 0, 1) := by decide +kernel
theorem dJ0_isLatin1_aae02_7 : decode cJ0_isLatin1_aae02 7 = .ok (.getfield 15, 3) := by decide +kernel
theorem dJ0_isLatin1_aae02_10 : decode cJ0_isLatin1_aae02 10 = .ok (.ifCond .ne 7, 3) := by decide +kernel
theorem dJ0_isLatin1_aae02_13 : decode cJ0_isLatin1_aae02 13 = .ok (.iconst 1, 1) := by decide +kernel
theorem dJ0_isLatin1_aae02_14 : decode cJ0_isLatin1_aae02 14 = .ok (.goto 4, 3) := by decide +kernel
theorem dJ0_isLatin1_aae02_17 : decode cJ0_isLatin1_aae02 17 = .ok (.iconst 0, 1) := by decide +kernel
theorem dJ0_isLatin1_aae02_18 : decode cJ0_isLatin1_aae02 18 = .ok (.ireturn, 1) := by decide +kernel
theorem dJ0_coder_7d493_0 : decode cJ0_coder_7d493 0 = .ok (.getstatic 38, 3) := by decide +kernel
theorem dJ0_coder_7d493_3 : decode cJ0_coder_7d493 3 = .ok (.ifCond .eq 10, 3) := by decide +kernel
theorem dJ0_coder_7d493_6 : decode cJ0_coder_7d493 6 = .ok (.aload_n 0, 1) := by decide +kernel
theorem dJ0_coder_7d493_7 : decode cJ0_coder_7d493 7 = .ok (.getfield 15, 3) := by decide +kernel
theorem dJ0_coder_7d493_10 : decode cJ0_coder_7d493 10 = .ok (.goto 4, 3) := by decide +kernel
theorem dJ0_coder_7d493_13 : decode cJ0_coder_7d493 13 = .ok (.iconst 1, 1) := by decide +kernel
theorem dJ0_coder_7d493_14 : decode cJ0_coder_7d493 14 = .ok (.ireturn, 1) := by decide +kernel
theorem dJ0_length_8abf5_0 : decode cJ0_length_8abf5 0 = .ok (.aload_n 0, 1) := by decide +kernel
theorem dJ0_length_8abf5_1 : decode cJ0_length_8abf5 1 = .ok (.getfield 9, 3) := by decide +kernel
theorem dJ0_length_8abf5_4 : decode cJ0_length_8abf5 4 = .ok (.arraylength, 1) := by decide +kernel
theorem dJ0_length_8abf5_5 : decode cJ0_length_8abf5 5 = .ok (.aload_n 0, 1) := by decide +kernel
theorem dJ0_length_8abf5_6 : decode cJ0_length_8abf5 6 = .ok (.invokevirtual 335, 3) := by decide +kernel
theorem dJ0_length_8abf5_9 : decode cJ0_length_8abf5 9 = .ok (.ishr, 1) := by decide +kernel
theorem dJ0_length_8abf5_10 : decode cJ0_length_8abf5 10 = .ok (.ireturn, 1) := by decide +kernel
theorem dJ0_charAt_5068e_0 : decode cJ0_charAt_5068e 0 = .ok (.aload_n 0, 1) := by decide +kernel
theorem dJ0_charAt_5068e_1 : decode cJ0_charAt_5068e 1 = .ok (.invokevirtual 492, 3) := by decide +kernel
theorem dJ0_charAt_5068e_4 : decode cJ0_charAt_5068e 4 = .ok (.ifCond .eq 12, 3) := by decide +kernel
theorem dJ0_charAt_5068e_7 : decode cJ0_charAt_5068e 7 = .ok (.aload_n 0, 1) := by decide +kernel
theorem dJ0_charAt_5068e_8 : decode cJ0_charAt_5068e 8 = .ok (.getfield 9, 3) := by decide +kernel
theorem dJ0_charAt_5068e_11 : decode cJ0_charAt_5068e 11 = .ok (.iload_n 1, 1) := by decide +kernel
theorem dJ0_charAt_5068e_12 : decode cJ0_charAt_5068e 12 = .ok (.invokestatic 495, 3) := by decide +kernel
theorem dJ0_charAt_5068e_15 : decode cJ0_charAt_5068e 15 = .ok (.ireturn, 1) := by decide +kernel
theorem dJ0_charAt_5068e_16 : decode cJ0_charAt_5068e 16 = .ok (.aload_n 0, 1) := by decide +kernel
theorem dJ0_charAt_5068e_17 : decode cJ0_charAt_5068e 17 = .ok (.getfield 9, 3) := by decide +kernel
theorem dJ0_charAt_5068e_20 : decode cJ0_charAt_5068e 20 = .ok (.iload_n 1, 1) := by decide +kernel
theorem dJ0_charAt_5068e_21 : decode cJ0_charAt_5068e 21 = .ok (.invokestatic 498, 3) := by decide +kernel
theorem dJ0_charAt_5068e_24 : decode cJ0_charAt_5068e 24 = .ok (.ireturn, 1) := by decide +kernel
abbrev rmJ3_checkIndex_8e157 : Room := { frames := 0, cells := 0, slots := 0, locals := 0 }
abbrev rmJ0_checkIndex_df160 : Room := { frames := 1, cells := 0, slots := 0, locals := 22 }
abbrev rmJ1_charAt_3b067 : Room := { frames := 2, cells := 0, slots := 0, locals := 43 }
abbrev rmJ0_isLatin1_aae02 : Room := { frames := 0, cells := 0, slots := 0, locals := 0 }
abbrev rmJ0_coder_7d493 : Room := { frames := 0, cells := 0, slots := 0, locals := 0 }
abbrev rmJ0_length_8abf5 : Room := { frames := 1, cells := 0, slots := 0, locals := 20 }
abbrev rmJ0_charAt_5068e : Room := { frames := 3, cells := 0, slots := 0, locals := 64 }
theorem lTJ0_1059 : LT RJ0 1059 yJ3_checkIndex_8e157 cJ3_checkIndex_8e157 3 (some .int) 3 := ⟨tw 601 (by decide +kernel) rfl, tw 602 (by decide +kernel) rfl, tw 132 (by decide +kernel) rfl, tw 603 (by decide +kernel) rfl, ⟨by decide +kernel, by decide +kernel, by decide +kernel⟩⟩
theorem lTJ1_9 : LT RJ1 9 yJ0_checkIndex_df160 cJ0_checkIndex_df160 2 none 2 := ⟨tw 596 (by decide +kernel) rfl, tw 597 (by decide +kernel) rfl, tw 130 (by decide +kernel) rfl, tw 598 (by decide +kernel) rfl, ⟨by decide +kernel, by decide +kernel, by decide +kernel⟩⟩
theorem lTJ0_495 : LT RJ0 495 yJ1_charAt_3b067 cJ1_charAt_3b067 2 (some .char) 2 := ⟨tw 593 (by decide +kernel) rfl, tw 594 (by decide +kernel) rfl, tw 131 (by decide +kernel) rfl, tw 595 (by decide +kernel) rfl, ⟨by decide +kernel, by decide +kernel, by decide +kernel⟩⟩
theorem lVJ0_335 : LV RJ0 335 yJ0_coder_7d493 cJ0_coder_7d493 1 (some .byte) 0 := ⟨tw 579 (by decide +kernel) rfl, tw 580 (by decide +kernel) rfl, tw 581 (by decide +kernel) rfl, tw 130 (by decide +kernel) rfl, tw 582 (by decide +kernel) rfl, ⟨by decide +kernel, by decide +kernel, by decide +kernel⟩⟩
theorem lVJ0_492 : LV RJ0 492 yJ0_isLatin1_aae02 cJ0_isLatin1_aae02 1 (some .boolean) 0 := ⟨tw 589 (by decide +kernel) rfl, tw 590 (by decide +kernel) rfl, tw 591 (by decide +kernel) rfl, tw 130 (by decide +kernel) rfl, tw 592 (by decide +kernel) rfl, ⟨by decide +kernel, by decide +kernel, by decide +kernel⟩⟩
theorem lVX4_127 : LV RX4 127 yJ0_length_8abf5 cJ0_length_8abf5 1 (some .int) 0 := ⟨tw 575 (by decide +kernel) rfl, tw 576 (by decide +kernel) rfl, tw 577 (by decide +kernel) rfl, tw 130 (by decide +kernel) rfl, tw 578 (by decide +kernel) rfl, ⟨by decide +kernel, by decide +kernel, by decide +kernel⟩⟩
theorem lVX4_131 : LV RX4 131 yJ0_charAt_5068e cJ0_charAt_5068e 2 (some .char) 1 := ⟨tw 585 (by decide +kernel) rfl, tw 586 (by decide +kernel) rfl, tw 587 (by decide +kernel) rfl, tw 130 (by decide +kernel) rfl, tw 588 (by decide +kernel) rfl, ⟨by decide +kernel, by decide +kernel, by decide +kernel⟩⟩

abbrev gS (G : GW) (t : Nat) : Nat := G.2.2.2.2.2.1 t
abbrev gY (G : GW) (t : Nat) : Nat := G.2.2.2.2.2.2 t
/-- a text's length, and its sign at a place -/
def sLn (t : Nat) : Option Int32 := if t < 4 then some (Int32.ofNat (strL.getD t 0)) else none
def sCh (t : Nat) (i : Int32) : Option Int32 := if t < 4 ∧ ¬ (i < 0 ∨ strL.getD t 0 ≤ i.toNatClampNeg) then some ((strB.getD t []).getD i.toNatClampNeg 0) else none
section ZX
variable {p : Program} {l : Launch} {e : Env} {R : Room} {s : State} {m : MethodId} {args : Array Value} {below : List Frame} {meth : Method} {c : Code} {H : Heap} {locs : List Loc} {cells slots : Nat} {Q : State → Prop}
variable {cc : ByteArray} {pc : Nat} {ls : Array Slot} {rest st0 : List Value} {nL : Nat} {own : String} {G : GW} {ah ah' : AH} {mc ms c' s' : Nat} {av : Array Value}
variable {y : MethodName} {b : ByteArray} {mL n idx a : Nat} {ret : Option FieldType} {rm : Room} {Qc : Array Value → State → Outcome → State → Prop} {As : List Value}
theorem wz_runVT {t : Nat} (ht : t < 4) (C : Cx p m c cc nL s args own G) (hW : Wb G ah s H locs) (hL : LV own idx y b mL ret n) (hci : "java/lang/String" = y.cls) (hM : Met l y (wy y b mL ret) rm (Pz G (.ref (gS G t) :: As) ah) Qc mc ms (AA G))
    (hR : okR rm R mc ms mL) (hn : As.length = n) (hsz : ls.size = nL) (hst : st0 = As.reverse ++ .ref (gS G t) :: rest) (hw : (rest.map fun v => v.category).sum ≤ 8) (hd : decode cc pc = .ok (.invokevirtual idx, 3)) (hf : cells + mc ≤ R.cells ∧ slots + ms ≤ R.slots) :
    va_Run p l e R s m args below meth c H locs cells slots mc ms (F0 m pc ls st0) rest (Qc (Value.ref (gS G t) :: As).toArray) (AA G) := by
  obtain ⟨l1, l2, l3, l4, l5, l6⟩ := hL
  have hrecv := vk_recv C.2.2.2.2.2.1.2.2.2.2.2.1 ht hW.2
  rw [hci] at hrecv
  have hG : GoodIn tz (wsV own idx y.cls y (wy y b mL ret)) := by
    intro w hw
    have h4 : w ∈ tz := by
      unfold wsV at hw
      simp only [List.cons_append, List.nil_append, List.mem_cons] at hw
      rcases hw with rfl | rfl | rfl | rfl | rfl | hw <;> assumption
    exact ⟨h4, good_of_word (List.mem_filter.mp h4).2⟩
  exact va_runV ⟨C.1, C.2.1, C.2.2.1, C.2.2.2.1, C.2.2.2.2.1⟩ hM (cwV n C.2.2.2.2.1 hG rfl hR.1.1 hR.1.2 ⟨rfl, l6⟩ hR.2) ⟨Pz.blind, hrecv, hW.pre C.2.2.2.2.2.1⟩ rfl hn hsz hst (lv_room hw) hd hf
theorem wz_ldcS {t : Nat} (ht : t < 4) (hi : sCp.getD t 0 = idx) (ho : own = RX4) (C : Cx p m c cc nL s args own G) (hd : decode cc pc = .ok (.ldc idx, 2))
    (kk : W p l e R s m args below meth c H locs cells slots Q (F0 m (pc + 2) ls (.ref (gS G t) :: rest))) : W p l e R s m args below meth c H locs cells slots Q (F0 m pc ls rest) := by
  subst hi; subst ho
  exact va_ldcS C.1 C.2.1 C.2.2.2.1 (C.2.2.2.2.2.1.2.2.2.2.1 t ht) hd kk
theorem wz_tget {t : Nat} (ht : t < 4) (ho : own = RJ0) (hk : Cond.fieldLink RJ0 idx "java/lang/String" "value" "[B" ∈ tz) (C : Cx p m c cc nL s args own G) (hW : Wb G ah s H locs) (hd : decode cc pc = .ok (.getfield idx, 3))
    (kk : W p l e R s m args below meth c H locs cells slots Q (F0 m (pc + 3) ls (.ref (gY G t) :: rest))) : W p l e R s m args below meth c H locs cells slots Q (F0 m pc ls (.ref (gS G t) :: rest)) := by
  subst ho
  exact vk_getf C.1 C.2.1 (C.2.2.2.2.2.1.2.2.2.2.2.1.1 t ht).2.2.1 hW.2 C.2.2.2.1 (C.2.2.2.2.1 _ hk) (fun x h => h) hd kk
theorem wz_tcod {t : Nat} (ht : t < 4) (ho : own = RJ0) (hk : Cond.fieldLink RJ0 idx "java/lang/String" "coder" "B" ∈ tz) (C : Cx p m c cc nL s args own G) (hW : Wb G ah s H locs) (hd : decode cc pc = .ok (.getfield idx, 3))
    (kk : W p l e R s m args below meth c H locs cells slots Q (F0 m (pc + 3) ls (.int 0 :: rest))) : W p l e R s m args below meth c H locs cells slots Q (F0 m pc ls (.ref (gS G t) :: rest)) := by
  subst ho
  exact vk_getf C.1 C.2.1 (C.2.2.2.2.2.1.2.2.2.2.2.1.1 t ht).2.1 hW.2 C.2.2.2.1 (C.2.2.2.2.1 _ hk) (fun x h => h) hd kk
theorem wz_tcom (ho : own = RJ0) (hk : Cond.fieldLink RJ0 idx "java/lang/String" "COMPACT_STRINGS" "Z" ∈ tz) (C : Cx p m c cc nL s args own G) (hW : Wb G ah s H locs) (hd : decode cc pc = .ok (.getstatic idx, 3))
    (kk : W p l e R s m args below meth c H locs cells slots Q (F0 m (pc + 3) ls (.int 1 :: rest))) : W p l e R s m args below meth c H locs cells slots Q (F0 m pc ls rest) := by
  subst ho
  exact va_gets C.1 C.2.1 C.2.2.2.2.2.1.2.2.2.2.2.2.1 hW.2 C.2.2.2.1 (C.2.2.2.2.1 _ hk) (fun x h => h) hd kk
theorem wz_tfor (ho : own = RJ0) (hk : Cond.fieldLink RJ0 idx "jdk/internal/util/Preconditions" "SIOOBE_FORMATTER" "Ljava/util/function/BiFunction;" ∈ tz) (C : Cx p m c cc nL s args own G) (hW : Wb G ah s H locs) (hd : decode cc pc = .ok (.getstatic idx, 3))
    (kk : ∀ r : Option Nat, W p l e R s m args below meth c H locs cells slots Q (F0 m (pc + 3) ls (va_rf r :: rest))) : W p l e R s m args below meth c H locs cells slots Q (F0 m pc ls rest) := by
  subst ho
  rcases C.2.2.2.2.2.1.2.2.2.2.2.2.2 with h | ⟨t, h⟩
  · exact va_gets C.1 C.2.1 h hW.2 C.2.2.2.1 (C.2.2.2.2.1 _ hk) (fun x h => h) hd (kk none)
  · exact va_gets C.1 C.2.1 h hW.2 C.2.2.2.1 (C.2.2.2.2.1 _ hk) (fun x h => h) hd (kk (some t))
theorem wz_tlen {t : Nat} (ht : t < 4) (C : Cx p m c cc nL s args own G) (hW : Wb G ah s H locs) (hd : decode cc pc = .ok (.arraylength, 1))
    (kk : W p l e R s m args below meth c H locs cells slots Q (F0 m (pc + 1) ls (.int (Int32.ofNat (strL.getD t 0)) :: rest))) : W p l e R s m args below meth c H locs cells slots Q (F0 m pc ls (.ref (gY G t) :: rest)) := by
  obtain ⟨cell, h1, h2, h3, h4, h5, h6, h7⟩ := (C.2.2.2.2.2.1.2.2.2.2.2.1.1 t ht).2.2.2
  exact W.alen C.1 C.2.1 (by rw [hW.2.2.1 _ (Array.getElem?_eq_some_iff.mp h1).1 h7]; exact h1) h2 h5 rfl rfl hd kk
theorem wz_tbld {t : Nat} {j : Int32} (ht : t < 4) (hin : ¬ (j < 0 ∨ strL.getD t 0 ≤ j.toNatClampNeg)) (C : Cx p m c cc nL s args own G) (hW : Wb G ah s H locs) (hd : decode cc pc = .ok (.baload, 1))
    (kk : W p l e R s m args below meth c H locs cells slots Q (F0 m (pc + 1) ls (.int ((strB.getD t []).getD j.toNatClampNeg 0) :: rest))) : W p l e R s m args below meth c H locs cells slots Q (F0 m pc ls (.int j :: .ref (gY G t) :: rest)) := by
  obtain ⟨cell, h1, h2, h3, h4, h5, h6, h7⟩ := (C.2.2.2.2.2.1.2.2.2.2.2.1.1 t ht).2.2.2
  have hlt : j.toNatClampNeg < strL.getD t 0 := Nat.not_le.mp fun q => hin (Or.inr q)
  exact W.bald (v := .int ((strB.getD t []).getD j.toNatClampNeg 0)) C.1 C.2.1 (by rw [hW.2.2.1 _ (Array.getElem?_eq_some_iff.mp h1).1 h7]; exact h1) h2 h3 (fun q => by rcases q with q | q <;> first | exact hin (Or.inl q) | omega) (h6 _ hlt) rfl rfl hd kk
/-- an answer of a small type -/
theorem wz_nret {x r : Int32} {ty : FieldType} (C : Cx p m c cc nL s args own G) (hlk : meth.locks = false) (hr : meth.sig.returnType = some ty) (hn : narrow ty (.int r) = .int r) (hx : x = r) (hW : Wb G ah s H locs) (hd : decode cc pc = .ok (.ireturn, 1)) : W p l e R s m args below meth c H locs cells slots (MQ below (Qi G r ah) args s cells slots (AA G)) (F0 m pc ls [.int x]) := by
  subst hx
  exact W.zret C.1 C.2.1 hr hn (fun t ht _ => ⟨⟨x, (), rfl, rfl, (by show HZ G ah t.heap; rw [ht]; exact hW.1)⟩, hW.2.F ht⟩) hW.free hd hlk
/-- an answer that is one of the texts -/
def Qs (G : GW) (r : Nat) (ah : AH) : Array Value → State → Outcome → State → Prop := va_Qq (fun r' (_ : Unit) => r' = some (gS G r)) (fun _ t => HZ G ah t.heap) (AA G)
theorem wz_sretE {x r : Nat} {CC : String} (C : Cx p m c cc nL s args own G) (hlk : meth.locks = false) (hr : meth.sig.returnType = some (.object CC)) (hx : x = r) (hz : ah = ah') (hW : Wb G ah s H locs) (hd : decode cc pc = .ok (.areturn, 1)) : W p l e R s m args below meth c H locs cells slots (MQ below (Qs G r ah') args s cells slots (AA G)) (F0 m pc ls [.ref (gS G x)]) := by
  subst hx; subst hz
  exact W.aret C.1 C.2.1 hr (Or.inl ⟨_, rfl⟩) (Or.inr ⟨_, rfl⟩) (fun t ht _ => ⟨⟨some (gS G x), (), rfl, rfl, (by show HZ G ah t.heap; rw [ht]; exact hW.1)⟩, hW.2.F ht⟩) hW.free hd hlk
theorem wz_rS {r : Nat} (hW : Wb G ah s H locs) (hr : va_Run p l e R s m args below meth c H locs cells slots mc ms (F0 m pc ls st0) rest (Qs G r ah' av) (AA G)) (hc : cells + mc = c') (hs : slots + ms = s')
    (kk : ∀ (H1 : Heap) (locs1 : List Loc), Wb G ah' s H1 locs1 → W p l e R s m args below meth c H1 locs1 c' s' Q (F0 m (pc + 3) ls (.ref (gS G r) :: rest))) : W p l e R s m args below meth c H locs cells slots Q (F0 m pc ls st0) := by
  subst hc; subst hs
  refine va_callq hr hW.2 (fun _ _ h => h) (fun _ h => h) (fun r' u t H1 locs1 ht hvm hp hB hz hk hS => ?_)
  cases hp
  subst ht
  exact kk _ _ ⟨hB, hS⟩
end ZX
set_option maxRecDepth 100000 in
theorem ctJ3_checkIndex (l : Launch) (G : GW) (i n : Int32) (r : Option Nat) (z : AH) (h : ¬ i < 0 ∧ i < n) : Met l yJ3_checkIndex_8e157 (wy yJ3_checkIndex_8e157 cJ3_checkIndex_8e157 3 (some .int)) rmJ3_checkIndex_8e157 (Pz G [.int i, .int n, va_rf r] z) (Qi G i z) 0 0 (AA G) := by
  cases r with
  | none =>
    refine wz_ent (own := RJ3) (by decide +kernel) rfl (fun p e s m below meth c ls C hlk hr hin hW hl => ?_) (Nat.le_of_ble_eq_true rfl)
    have hl : lv_has ls 3 [(0, .int i), (1, .int n), (2, .null)] := hl
    have hx := C.1
    have hb := C.2.1
    refine lv_iload_n hx hb dJ3_checkIndex_8e157_0 rfl (lv_at hl 0 rfl) ?_
    refine lv_if_lt (tgt := 9) hx hb dJ3_checkIndex_8e157_1 (by decide) (fun c => absurd c h.1) (fun _ => ?_)
    refine lv_iload_n hx hb dJ3_checkIndex_8e157_4 rfl (lv_at hl 0 rfl) ?_
    refine lv_iload_n hx hb dJ3_checkIndex_8e157_5 rfl (lv_at hl 1 rfl) ?_
    refine lv_icmp_lt (tgt := 16) hx hb dJ3_checkIndex_8e157_6 (by decide) (fun _ => ?_) (fun c => absurd h.2 c)
    refine lv_iload_n hx hb dJ3_checkIndex_8e157_16 rfl (lv_at hl 0 rfl) ?_
    exact wz_iretE C hlk hr rfl rfl hW dJ3_checkIndex_8e157_17
  | some q =>
    refine wz_ent (own := RJ3) (by decide +kernel) rfl (fun p e s m below meth c ls C hlk hr hin hW hl => ?_) (Nat.le_of_ble_eq_true rfl)
    have hl : lv_has ls 3 [(0, .int i), (1, .int n), (2, .ref q)] := hl
    have hx := C.1
    have hb := C.2.1
    refine lv_iload_n hx hb dJ3_checkIndex_8e157_0 rfl (lv_at hl 0 rfl) ?_
    refine lv_if_lt (tgt := 9) hx hb dJ3_checkIndex_8e157_1 (by decide) (fun c => absurd c h.1) (fun _ => ?_)
    refine lv_iload_n hx hb dJ3_checkIndex_8e157_4 rfl (lv_at hl 0 rfl) ?_
    refine lv_iload_n hx hb dJ3_checkIndex_8e157_5 rfl (lv_at hl 1 rfl) ?_
    refine lv_icmp_lt (tgt := 16) hx hb dJ3_checkIndex_8e157_6 (by decide) (fun _ => ?_) (fun c => absurd h.2 c)
    refine lv_iload_n hx hb dJ3_checkIndex_8e157_16 rfl (lv_at hl 0 rfl) ?_
    exact wz_iretE C hlk hr rfl rfl hW dJ3_checkIndex_8e157_17
set_option maxRecDepth 100000 in
theorem ctJ0_checkIndex (l : Launch) (G : GW) (i n : Int32) (z : AH) (h : ¬ i < 0 ∧ i < n) : Met l yJ0_checkIndex_df160 (wy yJ0_checkIndex_df160 cJ0_checkIndex_df160 2 none) rmJ0_checkIndex_df160 (Pz G [.int i, .int n] z) (Qv G z) 0 0 (AA G) := by
  refine wz_ent (own := RJ0) (by decide +kernel) rfl (fun p e s m below meth c ls C hlk hr hin hW hl => ?_) (Nat.le_of_ble_eq_true rfl)
  have hl : lv_has ls 2 [(0, .int i), (1, .int n)] := hl
  have hx := C.1
  have hb := C.2.1
  refine lv_iload_n hx hb dJ0_checkIndex_df160_0 rfl (lv_at hl 0 rfl) ?_
  refine lv_iload_n hx hb dJ0_checkIndex_df160_1 rfl (lv_at hl 1 rfl) ?_
  refine wz_tfor rfl (tw 599 (by decide +kernel) rfl) C hW dJ0_checkIndex_df160_2 (fun r => ?_)
  refine wz_rI (c' := 0) (s' := 0) hW (wz_runS (rest := []) C hW lTJ0_1059 (ctJ3_checkIndex l G i n r z h) ⟨⟨rfl, rfl⟩, Nat.le_of_ble_eq_true rfl, Nat.le_of_ble_eq_true rfl⟩ rfl hl.1 rfl (Nat.le_of_ble_eq_true rfl) dJ0_checkIndex_df160_5 ⟨Nat.le_of_ble_eq_true rfl, Nat.le_of_ble_eq_true rfl⟩) rfl rfl (fun H locs hW => ?_)
  refine lv_pop hx hb dJ0_checkIndex_df160_8 rfl ?_
  exact wz_vretE C hlk hr rfl hW dJ0_checkIndex_df160_9
theorem str_ix {t : Nat} {i : Int32} (ht : t < 4) (h : ¬ (i < 0 ∨ strL.getD t 0 ≤ i.toNatClampNeg)) : ¬ i < 0 ∧ i < Int32.ofNat (strL.getD t 0) := by
  have hb : ∀ t, t < 4 → strL.getD t 0 < 2 ^ 31 := by decide +kernel
  obtain ⟨j, hj, rfl⟩ := vp_in_of (x := i) h (hb t ht)
  exact ⟨nI_pos (Nat.lt_trans hj (hb t ht)), nI_lt hj (hb t ht)⟩
theorem str_ch : ∀ t, t < 4 → ∀ j, j < strL.getD t 0 → (((strB.getD t []).getD j 0 &&& 255).toUInt32 % 65536).toInt32 = (strB.getD t []).getD j 0 ∧ narrow .char (.int ((strB.getD t []).getD j 0)) = .int ((strB.getD t []).getD j 0) := by decide +kernel
set_option maxRecDepth 100000 in
theorem ctJ1_charAt (l : Launch) (G : GW) (t : Nat) (i : Int32) (z : AH) (ht : t < 4) (h : ¬ (i < 0 ∨ strL.getD t 0 ≤ i.toNatClampNeg)) : Met l yJ1_charAt_3b067 (wy yJ1_charAt_3b067 cJ1_charAt_3b067 2 (some .char)) rmJ1_charAt_3b067 (Pz G [.ref (gY G t), .int i] z) (Qi G ((strB.getD t []).getD i.toNatClampNeg 0) z) 0 0 (AA G) := by
  refine wz_ent (own := RJ1) (by decide +kernel) rfl (fun p e s m below meth c ls C hlk hr hin hW hl => ?_) (Nat.le_of_ble_eq_true rfl)
  have hl : lv_has ls 2 [(0, .ref (gY G t)), (1, .int i)] := hl
  have hx := C.1
  have hb := C.2.1
  have h4 := str_ch t ht i.toNatClampNeg (Nat.not_le.mp fun q => h (Or.inr q))
  refine lv_iload_n hx hb dJ1_charAt_3b067_0 rfl (lv_at hl 1 rfl) ?_
  refine lv_aload_n hx hb dJ1_charAt_3b067_1 rfl (lv_at hl 0 rfl) ?_
  refine wz_tlen ht C hW dJ1_charAt_3b067_2 ?_
  refine wz_rV (c' := 0) (s' := 0) hW (wz_runS (rest := []) C hW lTJ1_9 (ctJ0_checkIndex l G i (Int32.ofNat (strL.getD t 0)) z (str_ix ht h)) ⟨⟨rfl, rfl⟩, Nat.le_of_ble_eq_true rfl, Nat.le_of_ble_eq_true rfl⟩ rfl hl.1 rfl (Nat.le_of_ble_eq_true rfl) dJ1_charAt_3b067_3 ⟨Nat.le_of_ble_eq_true rfl, Nat.le_of_ble_eq_true rfl⟩) rfl rfl (fun H locs hW => ?_)
  refine lv_aload_n hx hb dJ1_charAt_3b067_6 rfl (lv_at hl 0 rfl) ?_
  refine lv_iload_n hx hb dJ1_charAt_3b067_7 rfl (lv_at hl 1 rfl) ?_
  refine wz_tbld ht h C hW dJ1_charAt_3b067_8 ?_
  refine lv_sipush (v := 255) hx hb dJ1_charAt_3b067_9 (by decide) ?_
  refine lv_iand hx hb dJ1_charAt_3b067_12 ?_
  refine lv_i2c hx hb dJ1_charAt_3b067_13 rfl ?_
  exact wz_nret C hlk hr h4.2 h4.1 hW dJ1_charAt_3b067_14
set_option maxRecDepth 100000 in
theorem ctJ0_isLatin1 (l : Launch) (G : GW) (t : Nat) (z : AH) (ht : t < 4) : Met l yJ0_isLatin1_aae02 (wy yJ0_isLatin1_aae02 cJ0_isLatin1_aae02 1 (some .boolean)) rmJ0_isLatin1_aae02 (Pz G [.ref (gS G t)] z) (Qi G 1 z) 0 0 (AA G) := by
  refine wz_ent (own := RJ0) (by decide +kernel) rfl (fun p e s m below meth c ls C hlk hr hin hW hl => ?_) (Nat.le_of_ble_eq_true rfl)
  have hl : lv_has ls 1 [(0, .ref (gS G t))] := hl
  have hx := C.1
  have hb := C.2.1
  refine wz_tcom rfl (tw 583 (by decide +kernel) rfl) C hW dJ0_isLatin1_aae02_0 ?_
  refine lv_if_eq (tgt := 17) hx hb dJ0_isLatin1_aae02_3 (by decide) (fun c => absurd c (by decide)) (fun _ => ?_)
  refine lv_aload_n hx hb dJ0_isLatin1_aae02_6 rfl (lv_at hl 0 rfl) ?_
  refine wz_tcod ht rfl (tw 1866 (by decide +kernel) rfl) C hW dJ0_isLatin1_aae02_7 ?_
  refine lv_if_ne (tgt := 17) hx hb dJ0_isLatin1_aae02_10 (by decide) (fun c => absurd rfl c) (fun _ => ?_)
  refine lv_iconst (v := 1) hx hb dJ0_isLatin1_aae02_13 (by decide) ?_
  refine lv_goto (tgt := 18) hx hb dJ0_isLatin1_aae02_14 (by decide) ?_
  exact wz_zretE C hlk hr (Or.inr rfl) rfl rfl hW dJ0_isLatin1_aae02_18
set_option maxRecDepth 100000 in
theorem ctJ0_coder (l : Launch) (G : GW) (t : Nat) (z : AH) (ht : t < 4) : Met l yJ0_coder_7d493 (wy yJ0_coder_7d493 cJ0_coder_7d493 1 (some .byte)) rmJ0_coder_7d493 (Pz G [.ref (gS G t)] z) (Qi G 0 z) 0 0 (AA G) := by
  refine wz_ent (own := RJ0) (by decide +kernel) rfl (fun p e s m below meth c ls C hlk hr hin hW hl => ?_) (Nat.le_of_ble_eq_true rfl)
  have hl : lv_has ls 1 [(0, .ref (gS G t))] := hl
  have hx := C.1
  have hb := C.2.1
  refine wz_tcom rfl (tw 583 (by decide +kernel) rfl) C hW dJ0_coder_7d493_0 ?_
  refine lv_if_eq (tgt := 13) hx hb dJ0_coder_7d493_3 (by decide) (fun c => absurd c (by decide)) (fun _ => ?_)
  refine lv_aload_n hx hb dJ0_coder_7d493_6 rfl (lv_at hl 0 rfl) ?_
  refine wz_tcod ht rfl (tw 1866 (by decide +kernel) rfl) C hW dJ0_coder_7d493_7 ?_
  refine lv_goto (tgt := 14) hx hb dJ0_coder_7d493_10 (by decide) ?_
  exact wz_nret C hlk hr rfl rfl hW dJ0_coder_7d493_14
theorem str_len : ∀ t, t < 4 → (Int32.ofNat (strL.getD t 0)) >>> ((0 : Int32) &&& 31) = Int32.ofNat (strL.getD t 0) := by decide +kernel
set_option maxRecDepth 100000 in
theorem ctJ0_length (l : Launch) (G : GW) (t : Nat) (z : AH) {r : Int32} (h : sLn t = some r) : Met l yJ0_length_8abf5 (wy yJ0_length_8abf5 cJ0_length_8abf5 1 (some .int)) rmJ0_length_8abf5 (Pz G [.ref (gS G t)] z) (Qi G r z) 0 0 (AA G) := by
  obtain ⟨ht, h⟩ := ck h
  refine wz_ent (own := RJ0) (by decide +kernel) rfl (fun p e s m below meth c ls C hlk hr hin hW hl => ?_) (Nat.le_of_ble_eq_true rfl)
  have hl : lv_has ls 1 [(0, .ref (gS G t))] := hl
  have hx := C.1
  have hb := C.2.1
  refine lv_aload_n hx hb dJ0_length_8abf5_0 rfl (lv_at hl 0 rfl) ?_
  refine wz_tget ht rfl (tw 1865 (by decide +kernel) rfl) C hW dJ0_length_8abf5_1 ?_
  refine wz_tlen ht C hW dJ0_length_8abf5_4 ?_
  refine lv_aload_n hx hb dJ0_length_8abf5_5 rfl (lv_at hl 0 rfl) ?_
  refine wz_rI (c' := 0) (s' := 0) hW (wz_runVT (rest := [.int (Int32.ofNat (strL.getD t 0))]) ht C hW lVJ0_335 rfl (ctJ0_coder l G t z ht) ⟨⟨rfl, rfl⟩, Nat.le_of_ble_eq_true rfl, Nat.le_of_ble_eq_true rfl⟩ rfl hl.1 rfl (Nat.le_of_ble_eq_true rfl) dJ0_length_8abf5_6 ⟨Nat.le_of_ble_eq_true rfl, Nat.le_of_ble_eq_true rfl⟩) rfl rfl (fun H locs hW => ?_)
  refine lv_ishr hx hb dJ0_length_8abf5_9 ?_
  exact wz_iretE C hlk hr ((str_len t ht).trans (Option.some.inj h)) rfl hW dJ0_length_8abf5_10
set_option maxRecDepth 100000 in
theorem ctJ0_charAt (l : Launch) (G : GW) (t : Nat) (i : Int32) (z : AH) {r : Int32} (h : sCh t i = some r) : Met l yJ0_charAt_5068e (wy yJ0_charAt_5068e cJ0_charAt_5068e 2 (some .char)) rmJ0_charAt_5068e (Pz G [.ref (gS G t), .int i] z) (Qi G r z) 0 0 (AA G) := by
  obtain ⟨⟨ht, hi⟩, h⟩ := ck h
  have h4 := str_ch t ht i.toNatClampNeg (Nat.not_le.mp fun q => hi (Or.inr q))
  refine wz_ent (own := RJ0) (by decide +kernel) rfl (fun p e s m below meth c ls C hlk hr hin hW hl => ?_) (Nat.le_of_ble_eq_true rfl)
  have hl : lv_has ls 2 [(0, .ref (gS G t)), (1, .int i)] := hl
  have hx := C.1
  have hb := C.2.1
  refine lv_aload_n hx hb dJ0_charAt_5068e_0 rfl (lv_at hl 0 rfl) ?_
  refine wz_rI (c' := 0) (s' := 0) hW (wz_runVT (rest := []) ht C hW lVJ0_492 rfl (ctJ0_isLatin1 l G t z ht) ⟨⟨rfl, rfl⟩, Nat.le_of_ble_eq_true rfl, Nat.le_of_ble_eq_true rfl⟩ rfl hl.1 rfl (Nat.le_of_ble_eq_true rfl) dJ0_charAt_5068e_1 ⟨Nat.le_of_ble_eq_true rfl, Nat.le_of_ble_eq_true rfl⟩) rfl rfl (fun H locs hW => ?_)
  refine lv_if_eq (tgt := 16) hx hb dJ0_charAt_5068e_4 (by decide) (fun c => absurd c (by decide)) (fun _ => ?_)
  refine lv_aload_n hx hb dJ0_charAt_5068e_7 rfl (lv_at hl 0 rfl) ?_
  refine wz_tget ht rfl (tw 1865 (by decide +kernel) rfl) C hW dJ0_charAt_5068e_8 ?_
  refine lv_iload_n hx hb dJ0_charAt_5068e_11 rfl (lv_at hl 1 rfl) ?_
  refine wz_rI (c' := 0) (s' := 0) hW (wz_runS (rest := []) C hW lTJ0_495 (ctJ1_charAt l G t i z ht hi) ⟨⟨rfl, rfl⟩, Nat.le_of_ble_eq_true rfl, Nat.le_of_ble_eq_true rfl⟩ rfl hl.1 rfl (Nat.le_of_ble_eq_true rfl) dJ0_charAt_5068e_12 ⟨Nat.le_of_ble_eq_true rfl, Nat.le_of_ble_eq_true rfl⟩) rfl rfl (fun H locs hW => ?_)
  have hrr := Option.some.inj h
  refine wz_nret C hlk hr ?_ hrr hW dJ0_charAt_5068e_15
  rw [← hrr]; exact h4.2
