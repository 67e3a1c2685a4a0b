/-! THE CLAIM OUT OF ONE WALK OF THE LAW'S BODY. Your part is whole_start (and what it stands on); all else here is the same for every law, but numbers. -/
def R_law : String := "PairedViewsLaw"
def lw_P (b : Addr) (xs : List Int32) (args : Array Value) (s : State) : Prop := args = #[.ref b] ∧ s.IntsAt b xs ∧ xs.length ≤ 3072 ∧ (Jvm.Cond.and given_1 narrow_1).before args s = true
def lw_Q (_ : Array Value) (s : State) (o : Outcome) (t : State) : Prop := o = .returned (some (.int 1)) ∧ Framed s o t [] 600000 7302250
def lw_Z (below : List Frame) (a : Array Value) (s : State) : State → Prop := fun t => ∃ o, t.status = .running ∧ Ended t below o ∧ lw_Q a s o t
/-- the law's own end, with 1 on the stack, nothing written that was there before, its room as the claim has it -/
theorem lw_ret {p : Program} {l : Launch} {e : Env} {s : State} {m : MethodId} {below : List Frame} {meth : Method} {c : Code} {b : Nat} (hx : p.tables.exec = Jvm.exec) (hb : c.code = code) (hr : meth.sig.returnType = ret) (hlocks : meth.locks = false) {pc : Nat} {H : Heap} {ls : Array Slot} (hdg : decode code pc = .ok (.ireturn, 1)) : W p l e room_1 s m #[Value.ref b] below meth c H [] 600000 7302250 (lw_Z below #[Value.ref b] s) (F0 m pc ls [.int 1]) := by
  intro T hT X
  obtain ⟨fs, hret, hrun, hended, hW, hframe⟩ := X.leave (v := some (.int 1)) (hlocks := hlocks) (fun h => by rw [hr] at h; cases h)
  have hmeth' : T.vm.method? m = some meth := X.method'
  refine ⟨T.setFrames fs, ?_, .returned (some (.int 1)), hrun, hended, rfl, ⟨_, rfl⟩, hW, hframe⟩
  jvm_step X.here [X.here.top, hx, hb, hdg, hmeth', hr, ret, narrow_b1]
  (try refine ⟨rfl, ?_⟩); (try refine ⟨rfl, ?_⟩)
  first | (intro acts; rw [hret _ acts rfl rfl rfl]) | rw [hret _ _ rfl rfl rfl]
  exact Steps.refl _
/-- what holds at the law's entry: the machine, the code, the tables' words (any of lw_tbl by 'hts w (by decide +kernel)'), the script of L ints xs at the cell b, what the Statement gives of the start (any of its parts by flat_of_before) -/
def lw_At (p : Program) (s : State) (m : MethodId) (meth : Method) (c : Code) (b L : Nat) (xs : Nat → Int32) : Prop :=
  p.tables.exec = Jvm.exec ∧ c.code = code ∧ meth.sig.returnType = ret ∧ c.maxLocals = 4 ∧ s.vm.findClass R_law = some m.cls ∧ (∀ w ∈ lw_tbl, w.before #[Value.ref b] s = true) ∧ va_X b L xs s s.heap ∧ b < s.heap.size ∧ meth.locks = false ∧ (Jvm.Cond.and given_1 narrow_1).before #[Value.ref b] s = true
def RLw : String := "PairedViewsLaw"
theorem cdX9_feed : Cond.code yX9_feed cX9_feed 6 (some .int) ∈ tz := tc2 142 rfl rfl
theorem lVL_13 : LV RLw 13 yX9_feed cX9_feed 6 (some .int) 5 := ⟨tw 498 (by decide +kernel) rfl, tw 499 (by decide +kernel) rfl, tw 500 (by decide +kernel) rfl, tw 120 (by decide +kernel) rfl, cdX9_feed, ⟨by decide +kernel, by decide +kernel, by decide +kernel⟩⟩
theorem cdX10_feed : Cond.code yX10_feed cX10_feed 6 (some .int) ∈ tz := tc6 52 rfl rfl
theorem lVL_17 : LV RLw 17 yX10_feed cX10_feed 6 (some .int) 5 := ⟨tw 1368 (by decide +kernel) rfl, tw 1369 (by decide +kernel) rfl, tw 1370 (by decide +kernel) rfl, tw 128 (by decide +kernel) rfl, cdX10_feed, ⟨by decide +kernel, by decide +kernel, by decide +kernel⟩⟩
theorem cdX9_end : Cond.code yX9_end cX9_end 2 (some .int) ∈ tz := tc2 150 rfl rfl
theorem lVL_18 : LV RLw 18 yX9_end cX9_end 2 (some .int) 1 := ⟨tw 506 (by decide +kernel) rfl, tw 507 (by decide +kernel) rfl, tw 508 (by decide +kernel) rfl, tw 120 (by decide +kernel) rfl, cdX9_end, ⟨by decide +kernel, by decide +kernel, by decide +kernel⟩⟩
theorem cdX10_end : Cond.code yX10_end cX10_end 2 (some .int) ∈ tz := tc6 60 rfl rfl
theorem lVL_22 : LV RLw 22 yX10_end cX10_end 2 (some .int) 1 := ⟨tw 1376 (by decide +kernel) rfl, tw 1377 (by decide +kernel) rfl, tw 1378 (by decide +kernel) rfl, tw 128 (by decide +kernel) rfl, cdX10_end, ⟨by decide +kernel, by decide +kernel, by decide +kernel⟩⟩
theorem cdX9_text : Cond.code yX9_text cX9_text 6 (some .int) ∈ tz := tc2 154 rfl rfl
theorem lVL_23 : LV RLw 23 yX9_text cX9_text 6 (some .int) 2 := ⟨tw 510 (by decide +kernel) rfl, tw 511 (by decide +kernel) rfl, tw 512 (by decide +kernel) rfl, tw 120 (by decide +kernel) rfl, cdX9_text, ⟨by decide +kernel, by decide +kernel, by decide +kernel⟩⟩
theorem cdX10_text : Cond.code yX10_text cX10_text 4 (some .int) ∈ tz := tc6 67 rfl rfl
theorem lVL_27 : LV RLw 27 yX10_text cX10_text 4 (some .int) 2 := ⟨tw 1383 (by decide +kernel) rfl, tw 1384 (by decide +kernel) rfl, tw 1385 (by decide +kernel) rfl, tw 128 (by decide +kernel) rfl, cdX10_text, ⟨by decide +kernel, by decide +kernel, by decide +kernel⟩⟩
theorem cdX9_fault : Cond.code yX9_fault cX9_fault 2 (some .int) ∈ tz := tc3 169 rfl rfl
theorem lVL_28 : LV RLw 28 yX9_fault cX9_fault 2 (some .int) 1 := ⟨tw 765 (by decide +kernel) rfl, tw 766 (by decide +kernel) rfl, tw 767 (by decide +kernel) rfl, tw 120 (by decide +kernel) rfl, cdX9_fault, ⟨by decide +kernel, by decide +kernel, by decide +kernel⟩⟩
theorem cdX10_fault : Cond.code yX10_fault cX10_fault 2 (some .int) ∈ tz := tc6 196 rfl rfl
theorem lVL_31 : LV RLw 31 yX10_fault cX10_fault 2 (some .int) 1 := ⟨tw 1512 (by decide +kernel) rfl, tw 1513 (by decide +kernel) rfl, tw 1514 (by decide +kernel) rfl, tw 128 (by decide +kernel) rfl, cdX10_fault, ⟨by decide +kernel, by decide +kernel, by decide +kernel⟩⟩
theorem cdX9_country : Cond.code yX9_country cX9_country 4 (some .int) ∈ tz := tc3 173 rfl rfl
theorem lVL_32 : LV RLw 32 yX9_country cX9_country 4 (some .int) 2 := ⟨tw 769 (by decide +kernel) rfl, tw 770 (by decide +kernel) rfl, tw 771 (by decide +kernel) rfl, tw 120 (by decide +kernel) rfl, cdX9_country, ⟨by decide +kernel, by decide +kernel, by decide +kernel⟩⟩
theorem cdX10_country : Cond.code yX10_country cX10_country 7 (some .int) ∈ tz := tc6 200 rfl rfl
theorem lVL_35 : LV RLw 35 yX10_country cX10_country 7 (some .int) 2 := ⟨tw 1516 (by decide +kernel) rfl, tw 1517 (by decide +kernel) rfl, tw 1518 (by decide +kernel) rfl, tw 128 (by decide +kernel) rfl, cdX10_country, ⟨by decide +kernel, by decide +kernel, by decide +kernel⟩⟩
theorem cdX9_deed : Cond.code yX9_deed cX9_deed 5 (some .int) ∈ tz := tc3 201 rfl rfl
theorem lVL_36 : LV RLw 36 yX9_deed cX9_deed 5 (some .int) 3 := ⟨tw 797 (by decide +kernel) rfl, tw 798 (by decide +kernel) rfl, tw 799 (by decide +kernel) rfl, tw 120 (by decide +kernel) rfl, cdX9_deed, ⟨by decide +kernel, by decide +kernel, by decide +kernel⟩⟩
theorem cdX10_deed : Cond.code yX10_deed cX10_deed 4 (some .int) ∈ tz := tc6 231 rfl rfl
theorem lVL_40 : LV RLw 40 yX10_deed cX10_deed 4 (some .int) 3 := ⟨tw 1547 (by decide +kernel) rfl, tw 1548 (by decide +kernel) rfl, tw 1549 (by decide +kernel) rfl, tw 128 (by decide +kernel) rfl, cdX10_deed, ⟨by decide +kernel, by decide +kernel, by decide +kernel⟩⟩
theorem cdX9_till : Cond.code yX9_till cX9_till 5 (some .int) ∈ tz := tc3 214 rfl rfl
theorem lVL_41 : LV RLw 41 yX9_till cX9_till 5 (some .int) 2 := ⟨tw 810 (by decide +kernel) rfl, tw 811 (by decide +kernel) rfl, tw 812 (by decide +kernel) rfl, tw 120 (by decide +kernel) rfl, cdX9_till, ⟨by decide +kernel, by decide +kernel, by decide +kernel⟩⟩
theorem cdX10_till : Cond.code yX10_till cX10_till 3 (some .int) ∈ tz := tc7 7 rfl rfl
theorem lVL_44 : LV RLw 44 yX10_till cX10_till 3 (some .int) 2 := ⟨tw 1563 (by decide +kernel) rfl, tw 1564 (by decide +kernel) rfl, tw 1565 (by decide +kernel) rfl, tw 128 (by decide +kernel) rfl, cdX10_till, ⟨by decide +kernel, by decide +kernel, by decide +kernel⟩⟩
theorem cdX9_state : Cond.code yX9_state cX9_state 7 (some .int) ∈ tz := tc4 48 rfl rfl
theorem lVL_45 : LV RLw 45 yX9_state cX9_state 7 (some .int) 4 := ⟨tw 884 (by decide +kernel) rfl, tw 885 (by decide +kernel) rfl, tw 886 (by decide +kernel) rfl, tw 120 (by decide +kernel) rfl, cdX9_state, ⟨by decide +kernel, by decide +kernel, by decide +kernel⟩⟩
theorem cdX10_state : Cond.code yX10_state cX10_state 5 (some .int) ∈ tz := tc7 73 rfl rfl
theorem lVL_49 : LV RLw 49 yX10_state cX10_state 5 (some .int) 4 := ⟨tw 1629 (by decide +kernel) rfl, tw 1630 (by decide +kernel) rfl, tw 1631 (by decide +kernel) rfl, tw 128 (by decide +kernel) rfl, cdX10_state, ⟨by decide +kernel, by decide +kernel, by decide +kernel⟩⟩
theorem cdX9_lasts : Cond.code yX9_lasts cX9_lasts 5 (some .int) ∈ tz := tc4 60 rfl rfl
theorem lVL_50 : LV RLw 50 yX9_lasts cX9_lasts 5 (some .int) 2 := ⟨tw 896 (by decide +kernel) rfl, tw 897 (by decide +kernel) rfl, tw 898 (by decide +kernel) rfl, tw 120 (by decide +kernel) rfl, cdX9_lasts, ⟨by decide +kernel, by decide +kernel, by decide +kernel⟩⟩
theorem cdX10_lasts : Cond.code yX10_lasts cX10_lasts 3 (some .int) ∈ tz := tc7 81 rfl rfl
theorem lVL_53 : LV RLw 53 yX10_lasts cX10_lasts 3 (some .int) 2 := ⟨tw 1637 (by decide +kernel) rfl, tw 1638 (by decide +kernel) rfl, tw 1639 (by decide +kernel) rfl, tw 128 (by decide +kernel) rfl, cdX10_lasts, ⟨by decide +kernel, by decide +kernel, by decide +kernel⟩⟩
theorem cdX9_watch : Cond.code yX9_watch cX9_watch 4 (some .int) ∈ tz := tc4 67 rfl rfl
theorem lVL_54 : LV RLw 54 yX9_watch cX9_watch 4 (some .int) 2 := ⟨tw 903 (by decide +kernel) rfl, tw 904 (by decide +kernel) rfl, tw 905 (by decide +kernel) rfl, tw 120 (by decide +kernel) rfl, cdX9_watch, ⟨by decide +kernel, by decide +kernel, by decide +kernel⟩⟩
theorem cdX10_watch : Cond.code yX10_watch cX10_watch 3 (some .int) ∈ tz := tc7 85 rfl rfl
theorem lVL_57 : LV RLw 57 yX10_watch cX10_watch 3 (some .int) 2 := ⟨tw 1641 (by decide +kernel) rfl, tw 1642 (by decide +kernel) rfl, tw 1643 (by decide +kernel) rfl, tw 128 (by decide +kernel) rfl, cdX10_watch, ⟨by decide +kernel, by decide +kernel, by decide +kernel⟩⟩
theorem cdX9_way : Cond.code yX9_way cX9_way 6 (some .int) ∈ tz := tc4 106 rfl rfl
theorem lVL_58 : LV RLw 58 yX9_way cX9_way 6 (some .int) 4 := ⟨tw 942 (by decide +kernel) rfl, tw 943 (by decide +kernel) rfl, tw 944 (by decide +kernel) rfl, tw 120 (by decide +kernel) rfl, cdX9_way, ⟨by decide +kernel, by decide +kernel, by decide +kernel⟩⟩
theorem cdX10_way : Cond.code yX10_way cX10_way 5 (some .int) ∈ tz := tc7 109 rfl rfl
theorem lVL_62 : LV RLw 62 yX10_way cX10_way 5 (some .int) 4 := ⟨tw 1665 (by decide +kernel) rfl, tw 1666 (by decide +kernel) rfl, tw 1667 (by decide +kernel) rfl, tw 128 (by decide +kernel) rfl, cdX10_way, ⟨by decide +kernel, by decide +kernel, by decide +kernel⟩⟩
theorem cdX9_married : Cond.code yX9_married cX9_married 5 (some .int) ∈ tz := tc4 127 rfl rfl
theorem lVL_63 : LV RLw 63 yX9_married cX9_married 5 (some .int) 3 := ⟨tw 963 (by decide +kernel) rfl, tw 964 (by decide +kernel) rfl, tw 965 (by decide +kernel) rfl, tw 120 (by decide +kernel) rfl, cdX9_married, ⟨by decide +kernel, by decide +kernel, by decide +kernel⟩⟩
theorem cdX10_married : Cond.code yX10_married cX10_married 4 (some .int) ∈ tz := tc7 125 rfl rfl
theorem lVL_67 : LV RLw 67 yX10_married cX10_married 4 (some .int) 3 := ⟨tw 1681 (by decide +kernel) rfl, tw 1682 (by decide +kernel) rfl, tw 1683 (by decide +kernel) rfl, tw 128 (by decide +kernel) rfl, cdX10_married, ⟨by decide +kernel, by decide +kernel, by decide +kernel⟩⟩
theorem cdX9_unhappy : Cond.code yX9_unhappy cX9_unhappy 3 (some .int) ∈ tz := tc4 160 rfl rfl
theorem lVL_68 : LV RLw 68 yX9_unhappy cX9_unhappy 3 (some .int) 1 := ⟨tw 996 (by decide +kernel) rfl, tw 997 (by decide +kernel) rfl, tw 998 (by decide +kernel) rfl, tw 120 (by decide +kernel) rfl, cdX9_unhappy, ⟨by decide +kernel, by decide +kernel, by decide +kernel⟩⟩
theorem cdX10_unhappy : Cond.code yX10_unhappy cX10_unhappy 7 (some .int) ∈ tz := tc7 149 rfl rfl
theorem lVL_71 : LV RLw 71 yX10_unhappy cX10_unhappy 7 (some .int) 1 := ⟨tw 1705 (by decide +kernel) rfl, tw 1706 (by decide +kernel) rfl, tw 1707 (by decide +kernel) rfl, tw 128 (by decide +kernel) rfl, cdX10_unhappy, ⟨by decide +kernel, by decide +kernel, by decide +kernel⟩⟩
theorem cdX9_agree : Cond.code yX9_agree cX9_agree 10 (some .int) ∈ tz := tc4 180 rfl rfl
theorem lVL_72 : LV RLw 72 yX9_agree cX9_agree 10 (some .int) 5 := ⟨tw 1016 (by decide +kernel) rfl, tw 1017 (by decide +kernel) rfl, tw 1018 (by decide +kernel) rfl, tw 120 (by decide +kernel) rfl, cdX9_agree, ⟨by decide +kernel, by decide +kernel, by decide +kernel⟩⟩
theorem cdX10_agree : Cond.code yX10_agree cX10_agree 11 (some .int) ∈ tz := tc7 153 rfl rfl
theorem lVL_76 : LV RLw 76 yX10_agree cX10_agree 11 (some .int) 5 := ⟨tw 1709 (by decide +kernel) rfl, tw 1710 (by decide +kernel) rfl, tw 1711 (by decide +kernel) rfl, tw 128 (by decide +kernel) rfl, cdX10_agree, ⟨by decide +kernel, by decide +kernel, by decide +kernel⟩⟩
theorem cdX9_view : Cond.code yX9_view cX9_view 5 (some .int) ∈ tz := tc4 189 rfl rfl
theorem lVL_77 : LV RLw 77 yX9_view cX9_view 5 (some .int) 3 := ⟨tw 1025 (by decide +kernel) rfl, tw 1026 (by decide +kernel) rfl, tw 1027 (by decide +kernel) rfl, tw 120 (by decide +kernel) rfl, cdX9_view, ⟨by decide +kernel, by decide +kernel, by decide +kernel⟩⟩
theorem cdX10_view : Cond.code yX10_view cX10_view 4 (some .int) ∈ tz := tc7 157 rfl rfl
theorem lVL_80 : LV RLw 80 yX10_view cX10_view 4 (some .int) 3 := ⟨tw 1713 (by decide +kernel) rfl, tw 1714 (by decide +kernel) rfl, tw 1715 (by decide +kernel) rfl, tw 128 (by decide +kernel) rfl, cdX10_view, ⟨by decide +kernel, by decide +kernel, by decide +kernel⟩⟩
theorem cdX9_fits : Cond.code yX9_fits cX9_fits 5 (some .int) ∈ tz := tc4 193 rfl rfl
theorem lVL_81 : LV RLw 81 yX9_fits cX9_fits 5 (some .int) 3 := ⟨tw 1029 (by decide +kernel) rfl, tw 1030 (by decide +kernel) rfl, tw 1031 (by decide +kernel) rfl, tw 120 (by decide +kernel) rfl, cdX9_fits, ⟨by decide +kernel, by decide +kernel, by decide +kernel⟩⟩
theorem cdX10_fits : Cond.code yX10_fits cX10_fits 4 (some .int) ∈ tz := tc7 173 rfl rfl
theorem lVL_84 : LV RLw 84 yX10_fits cX10_fits 4 (some .int) 3 := ⟨tw 1729 (by decide +kernel) rfl, tw 1730 (by decide +kernel) rfl, tw 1731 (by decide +kernel) rfl, tw 128 (by decide +kernel) rfl, cdX10_fits, ⟨by decide +kernel, by decide +kernel, by decide +kernel⟩⟩
theorem cdX9_fact : Cond.code yX9_fact cX9_fact 6 (some .int) ∈ tz := tc4 221 rfl rfl
theorem lVL_85 : LV RLw 85 yX9_fact cX9_fact 6 (some .int) 3 := ⟨tw 1057 (by decide +kernel) rfl, tw 1058 (by decide +kernel) rfl, tw 1059 (by decide +kernel) rfl, tw 120 (by decide +kernel) rfl, cdX9_fact, ⟨by decide +kernel, by decide +kernel, by decide +kernel⟩⟩
theorem cdX10_fact : Cond.code yX10_fact cX10_fact 4 (some .int) ∈ tz := tc7 189 rfl rfl
theorem lVL_88 : LV RLw 88 yX10_fact cX10_fact 4 (some .int) 3 := ⟨tw 1745 (by decide +kernel) rfl, tw 1746 (by decide +kernel) rfl, tw 1747 (by decide +kernel) rfl, tw 128 (by decide +kernel) rfl, cdX10_fact, ⟨by decide +kernel, by decide +kernel, by decide +kernel⟩⟩
theorem cdX9_words : Cond.code yX9_words cX9_words 5 (some .int) ∈ tz := tc4 225 rfl rfl
theorem lVL_89 : LV RLw 89 yX9_words cX9_words 5 (some .int) 2 := ⟨tw 1061 (by decide +kernel) rfl, tw 1062 (by decide +kernel) rfl, tw 1063 (by decide +kernel) rfl, tw 120 (by decide +kernel) rfl, cdX9_words, ⟨by decide +kernel, by decide +kernel, by decide +kernel⟩⟩
theorem cdX10_words : Cond.code yX10_words cX10_words 3 (some .int) ∈ tz := tc7 205 rfl rfl
theorem lVL_92 : LV RLw 92 yX10_words cX10_words 3 (some .int) 2 := ⟨tw 1761 (by decide +kernel) rfl, tw 1762 (by decide +kernel) rfl, tw 1763 (by decide +kernel) rfl, tw 128 (by decide +kernel) rfl, cdX10_words, ⟨by decide +kernel, by decide +kernel, by decide +kernel⟩⟩
theorem cdX9_drawn : Cond.code yX9_drawn cX9_drawn 7 (some .int) ∈ tz := tc5 11 rfl rfl
theorem lVL_93 : LV RLw 93 yX9_drawn cX9_drawn 7 (some .int) 4 := ⟨tw 1087 (by decide +kernel) rfl, tw 1088 (by decide +kernel) rfl, tw 1089 (by decide +kernel) rfl, tw 120 (by decide +kernel) rfl, cdX9_drawn, ⟨by decide +kernel, by decide +kernel, by decide +kernel⟩⟩
theorem cdX10_drawn : Cond.code yX10_drawn cX10_drawn 6 (some .int) ∈ tz := tc7 228 rfl rfl
theorem lVL_96 : LV RLw 96 yX10_drawn cX10_drawn 6 (some .int) 4 := ⟨tw 1784 (by decide +kernel) rfl, tw 1785 (by decide +kernel) rfl, tw 1786 (by decide +kernel) rfl, tw 128 (by decide +kernel) rfl, cdX10_drawn, ⟨by decide +kernel, by decide +kernel, by decide +kernel⟩⟩
theorem cdX9_need : Cond.code yX9_need cX9_need 9 (some .int) ∈ tz := tc5 24 rfl rfl
theorem lVL_97 : LV RLw 97 yX9_need cX9_need 9 (some .int) 3 := ⟨tw 1100 (by decide +kernel) rfl, tw 1101 (by decide +kernel) rfl, tw 1102 (by decide +kernel) rfl, tw 120 (by decide +kernel) rfl, cdX9_need, ⟨by decide +kernel, by decide +kernel, by decide +kernel⟩⟩
theorem cdX10_need : Cond.code yX10_need cX10_need 5 (some .int) ∈ tz := tc8 1 rfl rfl
theorem lVL_100 : LV RLw 100 yX10_need cX10_need 5 (some .int) 3 := ⟨tw 1797 (by decide +kernel) rfl, tw 1798 (by decide +kernel) rfl, tw 1799 (by decide +kernel) rfl, tw 128 (by decide +kernel) rfl, cdX10_need, ⟨by decide +kernel, by decide +kernel, by decide +kernel⟩⟩
theorem cdX9_keystone : Cond.code yX9_keystone cX9_keystone 8 (some .int) ∈ tz := tc5 32 rfl rfl
theorem lVL_101 : LV RLw 101 yX9_keystone cX9_keystone 8 (some .int) 2 := ⟨tw 1108 (by decide +kernel) rfl, tw 1109 (by decide +kernel) rfl, tw 1110 (by decide +kernel) rfl, tw 120 (by decide +kernel) rfl, cdX9_keystone, ⟨by decide +kernel, by decide +kernel, by decide +kernel⟩⟩
theorem cdX10_keystone : Cond.code yX10_keystone cX10_keystone 7 (some .int) ∈ tz := tc8 5 rfl rfl
theorem lVL_105 : LV RLw 105 yX10_keystone cX10_keystone 7 (some .int) 2 := ⟨tw 1801 (by decide +kernel) rfl, tw 1802 (by decide +kernel) rfl, tw 1803 (by decide +kernel) rfl, tw 128 (by decide +kernel) rfl, cdX10_keystone, ⟨by decide +kernel, by decide +kernel, by decide +kernel⟩⟩
theorem cdX9_height : Cond.code yX9_height cX9_height 4 (some .int) ∈ tz := tc5 40 rfl rfl
theorem lVL_106 : LV RLw 106 yX9_height cX9_height 4 (some .int) 2 := ⟨tw 1116 (by decide +kernel) rfl, tw 1117 (by decide +kernel) rfl, tw 1118 (by decide +kernel) rfl, tw 120 (by decide +kernel) rfl, cdX9_height, ⟨by decide +kernel, by decide +kernel, by decide +kernel⟩⟩
theorem cdX10_height : Cond.code yX10_height cX10_height 3 (some .int) ∈ tz := tc8 9 rfl rfl
theorem lVL_109 : LV RLw 109 yX10_height cX10_height 3 (some .int) 2 := ⟨tw 1805 (by decide +kernel) rfl, tw 1806 (by decide +kernel) rfl, tw 1807 (by decide +kernel) rfl, tw 128 (by decide +kernel) rfl, cdX10_height, ⟨by decide +kernel, by decide +kernel, by decide +kernel⟩⟩
theorem cdX9_meet : Cond.code yX9_meet cX9_meet 5 (some .int) ∈ tz := tc5 70 rfl rfl
theorem lVL_110 : LV RLw 110 yX9_meet cX9_meet 5 (some .int) 3 := ⟨tw 1146 (by decide +kernel) rfl, tw 1147 (by decide +kernel) rfl, tw 1148 (by decide +kernel) rfl, tw 120 (by decide +kernel) rfl, cdX9_meet, ⟨by decide +kernel, by decide +kernel, by decide +kernel⟩⟩
theorem cdX10_meet : Cond.code yX10_meet cX10_meet 4 (some .int) ∈ tz := tc8 30 rfl rfl
theorem lVL_113 : LV RLw 113 yX10_meet cX10_meet 4 (some .int) 3 := ⟨tw 1826 (by decide +kernel) rfl, tw 1827 (by decide +kernel) rfl, tw 1828 (by decide +kernel) rfl, tw 128 (by decide +kernel) rfl, cdX10_meet, ⟨by decide +kernel, by decide +kernel, by decide +kernel⟩⟩
theorem cdX9_after : Cond.code yX9_after cX9_after 6 (some .int) ∈ tz := tc5 78 rfl rfl
theorem lVL_114 : LV RLw 114 yX9_after cX9_after 6 (some .int) 3 := ⟨tw 1154 (by decide +kernel) rfl, tw 1155 (by decide +kernel) rfl, tw 1156 (by decide +kernel) rfl, tw 120 (by decide +kernel) rfl, cdX9_after, ⟨by decide +kernel, by decide +kernel, by decide +kernel⟩⟩
theorem cdX10_after : Cond.code yX10_after cX10_after 8 (some .int) ∈ tz := tc8 34 rfl rfl
theorem lVL_117 : LV RLw 117 yX10_after cX10_after 8 (some .int) 3 := ⟨tw 1830 (by decide +kernel) rfl, tw 1831 (by decide +kernel) rfl, tw 1832 (by decide +kernel) rfl, tw 128 (by decide +kernel) rfl, cdX10_after, ⟨by decide +kernel, by decide +kernel, by decide +kernel⟩⟩
theorem cdX9_wrong : Cond.code yX9_wrong cX9_wrong 8 (some .int) ∈ tz := tc5 86 rfl rfl
theorem lVL_118 : LV RLw 118 yX9_wrong cX9_wrong 8 (some .int) 3 := ⟨tw 1162 (by decide +kernel) rfl, tw 1163 (by decide +kernel) rfl, tw 1164 (by decide +kernel) rfl, tw 120 (by decide +kernel) rfl, cdX9_wrong, ⟨by decide +kernel, by decide +kernel, by decide +kernel⟩⟩
theorem cdX10_wrong : Cond.code yX10_wrong cX10_wrong 8 (some .int) ∈ tz := tc8 42 rfl rfl
theorem lVL_121 : LV RLw 121 yX10_wrong cX10_wrong 8 (some .int) 3 := ⟨tw 1838 (by decide +kernel) rfl, tw 1839 (by decide +kernel) rfl, tw 1840 (by decide +kernel) rfl, tw 128 (by decide +kernel) rfl, cdX10_wrong, ⟨by decide +kernel, by decide +kernel, by decide +kernel⟩⟩
theorem cdX9_tell : Cond.code yX9_tell cX9_tell 3 (some .int) ∈ tz := tc5 90 rfl rfl
theorem lVL_122 : LV RLw 122 yX9_tell cX9_tell 3 (some .int) 1 := ⟨tw 1166 (by decide +kernel) rfl, tw 1167 (by decide +kernel) rfl, tw 1168 (by decide +kernel) rfl, tw 120 (by decide +kernel) rfl, cdX9_tell, ⟨by decide +kernel, by decide +kernel, by decide +kernel⟩⟩
theorem cdX10_tell : Cond.code yX10_tell cX10_tell 7 (some .int) ∈ tz := tc8 46 rfl rfl
theorem lVL_125 : LV RLw 125 yX10_tell cX10_tell 7 (some .int) 1 := ⟨tw 1842 (by decide +kernel) rfl, tw 1843 (by decide +kernel) rfl, tw 1844 (by decide +kernel) rfl, tw 128 (by decide +kernel) rfl, cdX10_tell, ⟨by decide +kernel, by decide +kernel, by decide +kernel⟩⟩
theorem cdX9_count : Cond.code yX9_count cX9_count 2 (some .int) ∈ tz := tc5 99 rfl rfl
theorem lVL_126 : LV RLw 126 yX9_count cX9_count 2 (some .int) 1 := ⟨tw 1175 (by decide +kernel) rfl, tw 1176 (by decide +kernel) rfl, tw 1177 (by decide +kernel) rfl, tw 120 (by decide +kernel) rfl, cdX9_count, ⟨by decide +kernel, by decide +kernel, by decide +kernel⟩⟩
theorem cdX10_count : Cond.code yX10_count cX10_count 2 (some .int) ∈ tz := tc8 50 rfl rfl
theorem lVL_129 : LV RLw 129 yX10_count cX10_count 2 (some .int) 1 := ⟨tw 1846 (by decide +kernel) rfl, tw 1847 (by decide +kernel) rfl, tw 1848 (by decide +kernel) rfl, tw 128 (by decide +kernel) rfl, cdX10_count, ⟨by decide +kernel, by decide +kernel, by decide +kernel⟩⟩
theorem cdX9_image : Cond.code yX9_image cX9_image 2 (some .boolean) ∈ tz := tc5 104 rfl rfl
theorem lVL_130 : LV RLw 130 yX9_image cX9_image 2 (some .boolean) 1 := ⟨tw 1180 (by decide +kernel) rfl, tw 1181 (by decide +kernel) rfl, tw 1182 (by decide +kernel) rfl, tw 120 (by decide +kernel) rfl, cdX9_image, ⟨by decide +kernel, by decide +kernel, by decide +kernel⟩⟩
theorem cdX10_image : Cond.code yX10_image cX10_image 2 (some .boolean) ∈ tz := tc8 54 rfl rfl
theorem lVL_134 : LV RLw 134 yX10_image cX10_image 2 (some .boolean) 1 := ⟨tw 1850 (by decide +kernel) rfl, tw 1851 (by decide +kernel) rfl, tw 1852 (by decide +kernel) rfl, tw 128 (by decide +kernel) rfl, cdX10_image, ⟨by decide +kernel, by decide +kernel, by decide +kernel⟩⟩
theorem cdX9_again : Cond.code yX9_again cX9_again 2 (some .boolean) ∈ tz := tc5 113 rfl rfl
theorem lVL_135 : LV RLw 135 yX9_again cX9_again 2 (some .boolean) 1 := ⟨tw 1189 (by decide +kernel) rfl, tw 1190 (by decide +kernel) rfl, tw 1191 (by decide +kernel) rfl, tw 120 (by decide +kernel) rfl, cdX9_again, ⟨by decide +kernel, by decide +kernel, by decide +kernel⟩⟩
theorem cdX10_again : Cond.code yX10_again cX10_again 2 (some .boolean) ∈ tz := tc8 65 rfl rfl
theorem lVL_138 : LV RLw 138 yX10_again cX10_again 2 (some .boolean) 1 := ⟨tw 1861 (by decide +kernel) rfl, tw 1862 (by decide +kernel) rfl, tw 1863 (by decide +kernel) rfl, tw 128 (by decide +kernel) rfl, cdX10_again, ⟨by decide +kernel, by decide +kernel, by decide +kernel⟩⟩
theorem cdX9_init : Cond.code yX9_init cX9_init 3 none ∈ tz := tc1 23 rfl rfl
theorem lIL_9 : LI RLw 9 yX9_init cX9_init 3 0 := ⟨tw 140 (by decide +kernel) rfl, tw 141 (by decide +kernel) rfl, rfl, tw 120 (by decide +kernel) rfl, cdX9_init, ⟨by decide +kernel, by decide +kernel, by decide +kernel⟩⟩
theorem cdX10_init : Cond.code yX10_init cX10_init 1 none ∈ tz := tc5 118 rfl rfl
theorem lIL_12 : LI RLw 12 yX10_init cX10_init 1 0 := ⟨tw 1195 (by decide +kernel) rfl, tw 1196 (by decide +kernel) rfl, rfl, tw 128 (by decide +kernel) rfl, cdX10_init, ⟨by decide +kernel, by decide +kernel, by decide +kernel⟩⟩
def St_feed (Inv : AH → Prop) (x m : Nat) : Prop := ∀ (z : AH), Inv z → ∀ (a1 : Int32) (a2 : Int32) (a3 : Int32) (a4 : Int32) (a5 : Int32), ∃ (r : Int32) (z1 : AH) (z2 : AH), fX9_feed x a1 a2 a3 a4 a5 z = some (r, z1) ∧ fX10_feed m a1 a2 a3 a4 a5 z1 = some (r, z2) ∧ Inv z2
def St_end (Inv : AH → Prop) (x m : Nat) : Prop := ∀ (z : AH), Inv z → ∀ (a1 : Int32), ∃ (r : Int32) (z1 : AH) (z2 : AH), fX9_end x a1 z = some (r, z1) ∧ fX10_end m a1 z1 = some (r, z2) ∧ Inv z2
def St_text (Inv : AH → Prop) (x m : Nat) : Prop := ∀ (z : AH), Inv z → ∀ (a1 : Int32) (a2 : Int32), ∃ (r : Int32) (z1 : AH) (z2 : AH), fX9_text x a1 a2 z = some (r, z1) ∧ fX10_text m a1 a2 z1 = some (r, z2) ∧ Inv z2
def St_fault (Inv : AH → Prop) (x m : Nat) : Prop := ∀ (z : AH), Inv z → ∀ (a1 : Int32), ∃ (r : Int32) (z2 : AH), fX9_fault x a1 z = some r ∧ fX10_fault m a1 z = some (r, z2) ∧ Inv z2
def St_country (Inv : AH → Prop) (x m : Nat) : Prop := ∀ (z : AH), Inv z → ∀ (a1 : Int32) (a2 : Int32), ∃ (r : Int32) (z2 : AH), fX9_country x a1 a2 z = some r ∧ fX10_country m a1 a2 z = some (r, z2) ∧ Inv z2
def St_deed (Inv : AH → Prop) (x m : Nat) : Prop := ∀ (z : AH), Inv z → ∀ (a1 : Int32) (a2 : Int32) (a3 : Int32), ∃ (r : Int32) (z2 : AH), fX9_deed x a1 a2 a3 z = some r ∧ fX10_deed m a1 a2 a3 z = some (r, z2) ∧ Inv z2
def St_till (Inv : AH → Prop) (x m : Nat) : Prop := ∀ (z : AH), Inv z → ∀ (a1 : Int32) (a2 : Int32), ∃ (r : Int32) (z1 : AH) (z2 : AH), fX9_till x a1 a2 z = some (r, z1) ∧ fX10_till m a1 a2 z1 = some (r, z2) ∧ Inv z2
def St_state (Inv : AH → Prop) (x m : Nat) : Prop := ∀ (z : AH), Inv z → ∀ (a1 : Int32) (a2 : Int32) (a3 : Int32) (a4 : Int32), ∃ (r : Int32) (z1 : AH) (z2 : AH), fX9_state x a1 a2 a3 a4 z = some (r, z1) ∧ fX10_state m a1 a2 a3 a4 z1 = some (r, z2) ∧ Inv z2
def St_lasts (Inv : AH → Prop) (x m : Nat) : Prop := ∀ (z : AH), Inv z → ∀ (a1 : Int32) (a2 : Int32), ∃ (r : Int32) (z1 : AH) (z2 : AH), fX9_lasts x a1 a2 z = some (r, z1) ∧ fX10_lasts m a1 a2 z1 = some (r, z2) ∧ Inv z2
def St_watch (Inv : AH → Prop) (x m : Nat) : Prop := ∀ (z : AH), Inv z → ∀ (a1 : Int32) (a2 : Int32), ∃ (r : Int32) (z1 : AH) (z2 : AH), fX9_watch x a1 a2 z = some (r, z1) ∧ fX10_watch m a1 a2 z1 = some (r, z2) ∧ Inv z2
def St_way (Inv : AH → Prop) (x m : Nat) : Prop := ∀ (z : AH), Inv z → ∀ (a1 : Int32) (a2 : Int32) (a3 : Int32) (a4 : Int32), (a4 = 0 ∨ a4 = 1) → ∃ (r : Int32) (z1 : AH) (z2 : AH), fX9_way x a1 a2 a3 a4 z = some (r, z1) ∧ fX10_way m a1 a2 a3 a4 z1 = some (r, z2) ∧ Inv z2
def St_married (Inv : AH → Prop) (x m : Nat) : Prop := ∀ (z : AH), Inv z → ∀ (a1 : Int32) (a2 : Int32) (a3 : Int32), (a3 = 0 ∨ a3 = 1) → ∃ (r : Int32) (z1 : AH) (z2 : AH), fX9_married x a1 a2 a3 z = some (r, z1) ∧ fX10_married m a1 a2 a3 z1 = some (r, z2) ∧ Inv z2
def St_unhappy (Inv : AH → Prop) (x m : Nat) : Prop := ∀ (z : AH), Inv z → ∀ (a1 : Int32), ∃ (r : Int32) (z1 : AH) (z2 : AH), fX9_unhappy x a1 z = some (r, z1) ∧ fX10_unhappy m a1 z1 = some (r, z2) ∧ Inv z2
def St_agree (Inv : AH → Prop) (x m : Nat) : Prop := ∀ (z : AH), Inv z → ∀ (a1 : Int32) (a2 : Int32) (a3 : Int32) (a4 : Int32) (a5 : Int32), (a5 = 0 ∨ a5 = 1) → ∃ (r : Int32) (z2 : AH), fX9_agree x a1 a2 a3 a4 a5 z = some r ∧ fX10_agree m a1 a2 a3 a4 a5 z = some (r, z2) ∧ Inv z2
def St_view (Inv : AH → Prop) (x m : Nat) : Prop := ∀ (z : AH), Inv z → ∀ (a1 : Int32) (a2 : Int32) (a3 : Int32), ∃ (r : Int32) (z2 : AH), fX9_view x a1 a2 a3 z = some r ∧ fX10_view m a1 a2 a3 z = some (r, z2) ∧ Inv z2
def St_fits (Inv : AH → Prop) (x m : Nat) : Prop := ∀ (z : AH), Inv z → ∀ (a1 : Int32) (a2 : Int32) (a3 : Int32), ∃ (r : Int32) (z1 : AH) (z2 : AH), fX9_fits x a1 a2 a3 z = some (r, z1) ∧ fX10_fits m a1 a2 a3 z1 = some (r, z2) ∧ Inv z2
def St_fact (Inv : AH → Prop) (x m : Nat) : Prop := ∀ (z : AH), Inv z → ∀ (a1 : Int32) (a2 : Int32) (a3 : Int32), ∃ (r : Int32) (z2 : AH), fX9_fact x a1 a2 a3 z = some r ∧ fX10_fact m a1 a2 a3 z = some (r, z2) ∧ Inv z2
def St_words (Inv : AH → Prop) (x m : Nat) : Prop := ∀ (z : AH), Inv z → ∀ (a1 : Int32) (a2 : Int32), ∃ (r : Int32) (z2 : AH), fX9_words x a1 a2 z = some r ∧ fX10_words m a1 a2 z = some (r, z2) ∧ Inv z2
def St_drawn (Inv : AH → Prop) (x m : Nat) : Prop := ∀ (z : AH), Inv z → ∀ (a1 : Int32) (a2 : Int32) (a3 : Int32) (a4 : Int32), ∃ (r : Int32) (z1 : AH) (z2 : AH), fX9_drawn x a1 a2 a3 a4 z = some (r, z1) ∧ fX10_drawn m a1 a2 a3 a4 z1 = some (r, z2) ∧ Inv z2
def St_need (Inv : AH → Prop) (x m : Nat) : Prop := ∀ (z : AH), Inv z → ∀ (a1 : Int32) (a2 : Int32) (a3 : Int32), ∃ (r : Int32) (z1 : AH) (z2 : AH), fX9_need x a1 a2 a3 z = some (r, z1) ∧ fX10_need m a1 a2 a3 z1 = some (r, z2) ∧ Inv z2
def St_keystone (Inv : AH → Prop) (x m : Nat) : Prop := ∀ (z : AH), Inv z → ∀ (a1 : Int32) (a2 : Int32), (a2 = 0 ∨ a2 = 1) → ∃ (r : Int32) (z1 : AH) (z2 : AH), fX9_keystone x a1 a2 z = some (r, z1) ∧ fX10_keystone m a1 a2 z1 = some (r, z2) ∧ Inv z2
def St_height (Inv : AH → Prop) (x m : Nat) : Prop := ∀ (z : AH), Inv z → ∀ (a1 : Int32) (a2 : Int32), ∃ (r : Int32) (z1 : AH) (z2 : AH), fX9_height x a1 a2 z = some (r, z1) ∧ fX10_height m a1 a2 z1 = some (r, z2) ∧ Inv z2
def St_meet (Inv : AH → Prop) (x m : Nat) : Prop := ∀ (z : AH), Inv z → ∀ (a1 : Int32) (a2 : Int32) (a3 : Int32), ∃ (r : Int32) (z1 : AH) (z2 : AH), fX9_meet x a1 a2 a3 z = some (r, z1) ∧ fX10_meet m a1 a2 a3 z1 = some (r, z2) ∧ Inv z2
def St_after (Inv : AH → Prop) (x m : Nat) : Prop := ∀ (z : AH), Inv z → ∀ (a1 : Int32) (a2 : Int32) (a3 : Int32), ∃ (r : Int32) (z1 : AH) (z2 : AH), fX9_after x a1 a2 a3 z = some (r, z1) ∧ fX10_after m a1 a2 a3 z1 = some (r, z2) ∧ Inv z2
def St_wrong (Inv : AH → Prop) (x m : Nat) : Prop := ∀ (z : AH), Inv z → ∀ (a1 : Int32) (a2 : Int32) (a3 : Int32), (a3 = 0 ∨ a3 = 1) → ∃ (r : Int32) (z1 : AH) (z2 : AH), fX9_wrong x a1 a2 a3 z = some (r, z1) ∧ fX10_wrong m a1 a2 a3 z1 = some (r, z2) ∧ Inv z2
def St_tell (Inv : AH → Prop) (x m : Nat) : Prop := ∀ (z : AH), Inv z → ∀ (a1 : Int32), ∃ (r : Int32) (z2 : AH), fX9_tell x a1 z = some r ∧ fX10_tell m a1 z = some (r, z2) ∧ Inv z2
def St_count (Inv : AH → Prop) (x m : Nat) : Prop := ∀ (z : AH), Inv z → ∀ (a1 : Int32), ∃ (r : Int32) (z2 : AH), fX9_count x a1 z = some r ∧ fX10_count m a1 z = some (r, z2) ∧ Inv z2
def St_image (Inv : AH → Prop) (x m : Nat) : Prop := ∀ (z : AH), Inv z → ∀ (a1 : Int32), ∃ (r : Int32) (z1 : AH) (z2 : AH), fX9_image x a1 z = some (r, z1) ∧ fX10_image m a1 z1 = some (r, z2) ∧ Inv z2
def St_again (Inv : AH → Prop) (x m : Nat) : Prop := ∀ (z : AH), Inv z → ∀ (a1 : Int32), ∃ (r : Int32) (z1 : AH) (z2 : AH), fX9_again x a1 z = some (r, z1) ∧ fX10_again m a1 z1 = some (r, z2) ∧ Inv z2
def LawSteps (Inv : AH → Prop) (x m : Nat) : Prop := St_feed Inv x m ∧ St_end Inv x m ∧ St_text Inv x m ∧ St_fault Inv x m ∧ St_country Inv x m ∧ St_deed Inv x m ∧ St_till Inv x m ∧ St_state Inv x m ∧ St_lasts Inv x m ∧ St_watch Inv x m ∧ St_way Inv x m ∧ St_married Inv x m ∧ St_unhappy Inv x m ∧ St_agree Inv x m ∧ St_view Inv x m ∧ St_fits Inv x m ∧ St_fact Inv x m ∧ St_words Inv x m ∧ St_drawn Inv x m ∧ St_need Inv x m ∧ St_keystone Inv x m ∧ St_height Inv x m ∧ St_meet Inv x m ∧ St_after Inv x m ∧ St_wrong Inv x m ∧ St_tell Inv x m ∧ St_count Inv x m ∧ St_image Inv x m ∧ St_again Inv x m
/-- what is left to show, of plain functions alone -/
def PureGoal : Prop := ∃ (Inv : AH → Prop) (z1 z2 : AH), fX9_init 0 [.inr (.inr (8, newF 8))] = some z1 ∧ fX10_init z1.length (z1 ++ [.inr (.inr (9, newF 9))]) = some z2 ∧ Inv z2 ∧ LawSteps Inv 0 z1.length
set_option maxHeartbeats 4000000 in
set_option maxRecDepth 100000 in
theorem lwc_0 {p : Program} {l : Launch} {e : Env} {s : State} {m : MethodId} {below : List Frame} {meth : Method} {c : Code} {G : GW} {b L : Nat} {xs : Nat → Int32} {Q : State → Prop} {cells slots : Nat} (C : Cx p m c code 4 s #[Value.ref b] RLw G) (hX : va_X b L xs s s.heap) (hbl : b < s.heap.size) (hbA : ¬ AA G b) {Inv : AH → Prop} {x y : Nat} (hS : St_feed Inv x y) {i3 : Int32} (hin : ∀ k : Int32, 0 ≤ k → k ≤ 5 → vp_in (i3 + k) L) {z : AH} (hI : Inv z) {H : Heap} {locs : List Loc} {ls : Array Slot} (hW : Wb G z s H locs) (hl : lv_has ls 4 [(0, .ref b), (1, .ref (gB G + x)), (2, .ref (gB G + y)), (3, .int i3)]) (hf : cells + 15 ≤ 600000 ∧ slots + 140 ≤ 7302250) (kk : ∀ (z2 : AH) (H : Heap) (locs : List Loc), Inv z2 → Wb G z2 s H locs → W p l e room_1 s m #[Value.ref b] below meth c H locs (cells + 15) (slots + 140) Q (F0 m 1341 ls [])) : W p l e room_1 s m #[Value.ref b] below meth c H locs cells slots Q (F0 m 164 ls []) := by
  have hx := C.1
  have hb := C.2.1
  obtain ⟨r, z1, z2, h1, h2, hI2⟩ := hS z hI (xs (i3 + 1).toNatClampNeg) (xs (i3 + 2).toNatClampNeg) (xs (i3 + 3).toNatClampNeg) (xs (i3 + 4).toNatClampNeg) (xs (i3 + 5).toNatClampNeg)
  refine lv_aload_n hx hb dL_law_164 rfl (lv_at hl 1 rfl) ?_
  refine lv_aload_n hx hb dL_law_165 rfl (lv_at hl 0 rfl) ?_
  refine lv_iload_n hx hb dL_law_166 rfl (lv_at hl 3 rfl) ?_
  refine lv_iconst (v := 1) hx hb dL_law_167 (by decide) ?_
  refine lv_iadd hx hb dL_law_168 ?_
  refine va_sld hx hb hX hbl hbA hW.2 (hin 1 (by decide) (by decide)) dL_law_169 ?_
  refine lv_aload_n hx hb dL_law_170 rfl (lv_at hl 0 rfl) ?_
  refine lv_iload_n hx hb dL_law_171 rfl (lv_at hl 3 rfl) ?_
  refine lv_iconst (v := 2) hx hb dL_law_172 (by decide) ?_
  refine lv_iadd hx hb dL_law_173 ?_
  refine va_sld hx hb hX hbl hbA hW.2 (hin 2 (by decide) (by decide)) dL_law_174 ?_
  refine lv_aload_n hx hb dL_law_175 rfl (lv_at hl 0 rfl) ?_
  refine lv_iload_n hx hb dL_law_176 rfl (lv_at hl 3 rfl) ?_
  refine lv_iconst (v := 3) hx hb dL_law_177 (by decide) ?_
  refine lv_iadd hx hb dL_law_178 ?_
  refine va_sld hx hb hX hbl hbA hW.2 (hin 3 (by decide) (by decide)) dL_law_179 ?_
  refine lv_aload_n hx hb dL_law_180 rfl (lv_at hl 0 rfl) ?_
  refine lv_iload_n hx hb dL_law_181 rfl (lv_at hl 3 rfl) ?_
  refine lv_iconst (v := 4) hx hb dL_law_182 (by decide) ?_
  refine lv_iadd hx hb dL_law_183 ?_
  refine va_sld hx hb hX hbl hbA hW.2 (hin 4 (by decide) (by decide)) dL_law_184 ?_
  refine lv_aload_n hx hb dL_law_185 rfl (lv_at hl 0 rfl) ?_
  refine lv_iload_n hx hb dL_law_186 rfl (lv_at hl 3 rfl) ?_
  refine lv_iconst (v := 5) hx hb dL_law_187 (by decide) ?_
  refine lv_iadd hx hb dL_law_188 ?_
  refine va_sld hx hb hX hbl hbA hW.2 (hin 5 (by decide) (by decide)) dL_law_189 ?_
  refine wz_rI (c' := cells + 0) (s' := slots + 0) hW (wz_runV (rest := []) C hW lVL_13 (ck h1).1 rfl (ctX9_feed l G x (xs (i3 + 1).toNatClampNeg) (xs (i3 + 2).toNatClampNeg) (xs (i3 + 3).toNatClampNeg) (xs (i3 + 4).toNatClampNeg) (xs (i3 + 5).toNatClampNeg) z h1) ⟨⟨rfl, rfl⟩, Nat.le_of_ble_eq_true rfl, Nat.le_of_ble_eq_true rfl⟩ rfl hl.1 rfl (Nat.le_of_ble_eq_true rfl) dL_law_190 ⟨by show cells + _ ≤ 600000; omega, by show slots + _ ≤ 7302250; omega⟩) rfl rfl (fun H locs hW => ?_)
  refine lv_aload_n hx hb dL_law_193 rfl (lv_at hl 2 rfl) ?_
  refine lv_aload_n hx hb dL_law_194 rfl (lv_at hl 0 rfl) ?_
  refine lv_iload_n hx hb dL_law_195 rfl (lv_at hl 3 rfl) ?_
  refine lv_iconst (v := 1) hx hb dL_law_196 (by decide) ?_
  refine lv_iadd hx hb dL_law_197 ?_
  refine va_sld hx hb hX hbl hbA hW.2 (hin 1 (by decide) (by decide)) dL_law_198 ?_
  refine lv_aload_n hx hb dL_law_199 rfl (lv_at hl 0 rfl) ?_
  refine lv_iload_n hx hb dL_law_200 rfl (lv_at hl 3 rfl) ?_
  refine lv_iconst (v := 2) hx hb dL_law_201 (by decide) ?_
  refine lv_iadd hx hb dL_law_202 ?_
  refine va_sld hx hb hX hbl hbA hW.2 (hin 2 (by decide) (by decide)) dL_law_203 ?_
  refine lv_aload_n hx hb dL_law_204 rfl (lv_at hl 0 rfl) ?_
  refine lv_iload_n hx hb dL_law_205 rfl (lv_at hl 3 rfl) ?_
  refine lv_iconst (v := 3) hx hb dL_law_206 (by decide) ?_
  refine lv_iadd hx hb dL_law_207 ?_
  refine va_sld hx hb hX hbl hbA hW.2 (hin 3 (by decide) (by decide)) dL_law_208 ?_
  refine lv_aload_n hx hb dL_law_209 rfl (lv_at hl 0 rfl) ?_
  refine lv_iload_n hx hb dL_law_210 rfl (lv_at hl 3 rfl) ?_
  refine lv_iconst (v := 4) hx hb dL_law_211 (by decide) ?_
  refine lv_iadd hx hb dL_law_212 ?_
  refine va_sld hx hb hX hbl hbA hW.2 (hin 4 (by decide) (by decide)) dL_law_213 ?_
  refine lv_aload_n hx hb dL_law_214 rfl (lv_at hl 0 rfl) ?_
  refine lv_iload_n hx hb dL_law_215 rfl (lv_at hl 3 rfl) ?_
  refine lv_iconst (v := 5) hx hb dL_law_216 (by decide) ?_
  refine lv_iadd hx hb dL_law_217 ?_
  refine va_sld hx hb hX hbl hbA hW.2 (hin 5 (by decide) (by decide)) dL_law_218 ?_
  refine wz_rI (c' := cells + 0) (s' := slots + 0) hW (wz_runV (rest := [.int r]) C hW lVL_17 (ck h2).1 rfl (ctX10_feed l G y (xs (i3 + 1).toNatClampNeg) (xs (i3 + 2).toNatClampNeg) (xs (i3 + 3).toNatClampNeg) (xs (i3 + 4).toNatClampNeg) (xs (i3 + 5).toNatClampNeg) z1 h2) ⟨⟨rfl, rfl⟩, Nat.le_of_ble_eq_true rfl, Nat.le_of_ble_eq_true rfl⟩ rfl hl.1 rfl (Nat.le_of_ble_eq_true rfl) dL_law_219 ⟨by show cells + _ ≤ 600000; omega, by show slots + _ ≤ 7302250; omega⟩) rfl rfl (fun H locs hW => ?_)
  refine lv_icmp_eq (tgt := 1341) hx hb dL_law_222 (by decide) (fun _ => ?_) (fun q => absurd rfl q)
  refine W.widen (k := cells + 15) (n := slots + 140) (by omega) (by omega) ?_
  exact kk _ _ _ hI2 hW
set_option maxHeartbeats 4000000 in
set_option maxRecDepth 100000 in
theorem lwc_1 {p : Program} {l : Launch} {e : Env} {s : State} {m : MethodId} {below : List Frame} {meth : Method} {c : Code} {G : GW} {b L : Nat} {xs : Nat → Int32} {Q : State → Prop} {cells slots : Nat} (C : Cx p m c code 4 s #[Value.ref b] RLw G) (hX : va_X b L xs s s.heap) (hbl : b < s.heap.size) (hbA : ¬ AA G b) {Inv : AH → Prop} {x y : Nat} (hS : St_end Inv x y) {i3 : Int32} (hin : ∀ k : Int32, 0 ≤ k → k ≤ 5 → vp_in (i3 + k) L) {z : AH} (hI : Inv z) {H : Heap} {locs : List Loc} {ls : Array Slot} (hW : Wb G z s H locs) (hl : lv_has ls 4 [(0, .ref b), (1, .ref (gB G + x)), (2, .ref (gB G + y)), (3, .int i3)]) (hf : cells + 15 ≤ 600000 ∧ slots + 140 ≤ 7302250) (kk : ∀ (z2 : AH) (H : Heap) (locs : List Loc), Inv z2 → Wb G z2 s H locs → W p l e room_1 s m #[Value.ref b] below meth c H locs (cells + 15) (slots + 140) Q (F0 m 1341 ls [])) : W p l e room_1 s m #[Value.ref b] below meth c H locs cells slots Q (F0 m 227 ls []) := by
  have hx := C.1
  have hb := C.2.1
  obtain ⟨r, z1, z2, h1, h2, hI2⟩ := hS z hI (xs (i3 + 1).toNatClampNeg)
  refine lv_aload_n hx hb dL_law_227 rfl (lv_at hl 1 rfl) ?_
  refine lv_aload_n hx hb dL_law_228 rfl (lv_at hl 0 rfl) ?_
  refine lv_iload_n hx hb dL_law_229 rfl (lv_at hl 3 rfl) ?_
  refine lv_iconst (v := 1) hx hb dL_law_230 (by decide) ?_
  refine lv_iadd hx hb dL_law_231 ?_
  refine va_sld hx hb hX hbl hbA hW.2 (hin 1 (by decide) (by decide)) dL_law_232 ?_
  refine wz_rI (c' := cells + 0) (s' := slots + 0) hW (wz_runV (rest := []) C hW lVL_18 (ck h1).1 rfl (ctX9_end l G x (xs (i3 + 1).toNatClampNeg) z h1) ⟨⟨rfl, rfl⟩, Nat.le_of_ble_eq_true rfl, Nat.le_of_ble_eq_true rfl⟩ rfl hl.1 rfl (Nat.le_of_ble_eq_true rfl) dL_law_233 ⟨by show cells + _ ≤ 600000; omega, by show slots + _ ≤ 7302250; omega⟩) rfl rfl (fun H locs hW => ?_)
  refine lv_aload_n hx hb dL_law_236 rfl (lv_at hl 2 rfl) ?_
  refine lv_aload_n hx hb dL_law_237 rfl (lv_at hl 0 rfl) ?_
  refine lv_iload_n hx hb dL_law_238 rfl (lv_at hl 3 rfl) ?_
  refine lv_iconst (v := 1) hx hb dL_law_239 (by decide) ?_
  refine lv_iadd hx hb dL_law_240 ?_
  refine va_sld hx hb hX hbl hbA hW.2 (hin 1 (by decide) (by decide)) dL_law_241 ?_
  refine wz_rI (c' := cells + 0) (s' := slots + 0) hW (wz_runV (rest := [.int r]) C hW lVL_22 (ck h2).1 rfl (ctX10_end l G y (xs (i3 + 1).toNatClampNeg) z1 h2) ⟨⟨rfl, rfl⟩, Nat.le_of_ble_eq_true rfl, Nat.le_of_ble_eq_true rfl⟩ rfl hl.1 rfl (Nat.le_of_ble_eq_true rfl) dL_law_242 ⟨by show cells + _ ≤ 600000; omega, by show slots + _ ≤ 7302250; omega⟩) rfl rfl (fun H locs hW => ?_)
  refine lv_icmp_eq (tgt := 1341) hx hb dL_law_245 (by decide) (fun _ => ?_) (fun q => absurd rfl q)
  refine W.widen (k := cells + 15) (n := slots + 140) (by omega) (by omega) ?_
  exact kk _ _ _ hI2 hW
set_option maxHeartbeats 4000000 in
set_option maxRecDepth 100000 in
theorem lwc_2 {p : Program} {l : Launch} {e : Env} {s : State} {m : MethodId} {below : List Frame} {meth : Method} {c : Code} {G : GW} {b L : Nat} {xs : Nat → Int32} {Q : State → Prop} {cells slots : Nat} (C : Cx p m c code 4 s #[Value.ref b] RLw G) (hX : va_X b L xs s s.heap) (hbl : b < s.heap.size) (hbA : ¬ AA G b) {Inv : AH → Prop} {x y : Nat} (hS : St_text Inv x y) {i3 : Int32} (hin : ∀ k : Int32, 0 ≤ k → k ≤ 5 → vp_in (i3 + k) L) {z : AH} (hI : Inv z) {H : Heap} {locs : List Loc} {ls : Array Slot} (hW : Wb G z s H locs) (hl : lv_has ls 4 [(0, .ref b), (1, .ref (gB G + x)), (2, .ref (gB G + y)), (3, .int i3)]) (hf : cells + 15 ≤ 600000 ∧ slots + 140 ≤ 7302250) (kk : ∀ (z2 : AH) (H : Heap) (locs : List Loc), Inv z2 → Wb G z2 s H locs → W p l e room_1 s m #[Value.ref b] below meth c H locs (cells + 15) (slots + 140) Q (F0 m 1341 ls [])) : W p l e room_1 s m #[Value.ref b] below meth c H locs cells slots Q (F0 m 250 ls []) := by
  have hx := C.1
  have hb := C.2.1
  obtain ⟨r, z1, z2, h1, h2, hI2⟩ := hS z hI (xs (i3 + 1).toNatClampNeg) (xs (i3 + 2).toNatClampNeg)
  refine lv_aload_n hx hb dL_law_250 rfl (lv_at hl 1 rfl) ?_
  refine lv_aload_n hx hb dL_law_251 rfl (lv_at hl 0 rfl) ?_
  refine lv_iload_n hx hb dL_law_252 rfl (lv_at hl 3 rfl) ?_
  refine lv_iconst (v := 1) hx hb dL_law_253 (by decide) ?_
  refine lv_iadd hx hb dL_law_254 ?_
  refine va_sld hx hb hX hbl hbA hW.2 (hin 1 (by decide) (by decide)) dL_law_255 ?_
  refine lv_aload_n hx hb dL_law_256 rfl (lv_at hl 0 rfl) ?_
  refine lv_iload_n hx hb dL_law_257 rfl (lv_at hl 3 rfl) ?_
  refine lv_iconst (v := 2) hx hb dL_law_258 (by decide) ?_
  refine lv_iadd hx hb dL_law_259 ?_
  refine va_sld hx hb hX hbl hbA hW.2 (hin 2 (by decide) (by decide)) dL_law_260 ?_
  refine wz_rI (c' := cells + 15) (s' := slots + 140) hW (wz_runV (rest := []) C hW lVL_23 (ck h1).1 rfl (ctX9_text l G x (xs (i3 + 1).toNatClampNeg) (xs (i3 + 2).toNatClampNeg) z h1) ⟨⟨rfl, rfl⟩, Nat.le_of_ble_eq_true rfl, Nat.le_of_ble_eq_true rfl⟩ rfl hl.1 rfl (Nat.le_of_ble_eq_true rfl) dL_law_261 ⟨by show cells + _ ≤ 600000; omega, by show slots + _ ≤ 7302250; omega⟩) rfl rfl (fun H locs hW => ?_)
  refine lv_aload_n hx hb dL_law_264 rfl (lv_at hl 2 rfl) ?_
  refine lv_aload_n hx hb dL_law_265 rfl (lv_at hl 0 rfl) ?_
  refine lv_iload_n hx hb dL_law_266 rfl (lv_at hl 3 rfl) ?_
  refine lv_iconst (v := 1) hx hb dL_law_267 (by decide) ?_
  refine lv_iadd hx hb dL_law_268 ?_
  refine va_sld hx hb hX hbl hbA hW.2 (hin 1 (by decide) (by decide)) dL_law_269 ?_
  refine lv_aload_n hx hb dL_law_270 rfl (lv_at hl 0 rfl) ?_
  refine lv_iload_n hx hb dL_law_271 rfl (lv_at hl 3 rfl) ?_
  refine lv_iconst (v := 2) hx hb dL_law_272 (by decide) ?_
  refine lv_iadd hx hb dL_law_273 ?_
  refine va_sld hx hb hX hbl hbA hW.2 (hin 2 (by decide) (by decide)) dL_law_274 ?_
  refine wz_rI (c' := cells + 15) (s' := slots + 140) hW (wz_runV (rest := [.int r]) C hW lVL_27 (ck h2).1 rfl (ctX10_text l G y (xs (i3 + 1).toNatClampNeg) (xs (i3 + 2).toNatClampNeg) z1 h2) ⟨⟨rfl, rfl⟩, Nat.le_of_ble_eq_true rfl, Nat.le_of_ble_eq_true rfl⟩ rfl hl.1 rfl (Nat.le_of_ble_eq_true rfl) dL_law_275 ⟨by show cells + _ ≤ 600000; omega, by show slots + _ ≤ 7302250; omega⟩) rfl rfl (fun H locs hW => ?_)
  refine lv_icmp_eq (tgt := 1341) hx hb dL_law_278 (by decide) (fun _ => ?_) (fun q => absurd rfl q)
  exact kk _ _ _ hI2 hW
set_option maxHeartbeats 4000000 in
set_option maxRecDepth 100000 in
theorem lwc_3 {p : Program} {l : Launch} {e : Env} {s : State} {m : MethodId} {below : List Frame} {meth : Method} {c : Code} {G : GW} {b L : Nat} {xs : Nat → Int32} {Q : State → Prop} {cells slots : Nat} (C : Cx p m c code 4 s #[Value.ref b] RLw G) (hX : va_X b L xs s s.heap) (hbl : b < s.heap.size) (hbA : ¬ AA G b) {Inv : AH → Prop} {x y : Nat} (hS : St_fault Inv x y) {i3 : Int32} (hin : ∀ k : Int32, 0 ≤ k → k ≤ 5 → vp_in (i3 + k) L) {z : AH} (hI : Inv z) {H : Heap} {locs : List Loc} {ls : Array Slot} (hW : Wb G z s H locs) (hl : lv_has ls 4 [(0, .ref b), (1, .ref (gB G + x)), (2, .ref (gB G + y)), (3, .int i3)]) (hf : cells + 15 ≤ 600000 ∧ slots + 140 ≤ 7302250) (kk : ∀ (z2 : AH) (H : Heap) (locs : List Loc), Inv z2 → Wb G z2 s H locs → W p l e room_1 s m #[Value.ref b] below meth c H locs (cells + 15) (slots + 140) Q (F0 m 1341 ls [])) : W p l e room_1 s m #[Value.ref b] below meth c H locs cells slots Q (F0 m 283 ls []) := by
  have hx := C.1
  have hb := C.2.1
  obtain ⟨r, z2, h1, h2, hI2⟩ := hS z hI (xs (i3 + 1).toNatClampNeg)
  refine lv_aload_n hx hb dL_law_283 rfl (lv_at hl 1 rfl) ?_
  refine lv_aload_n hx hb dL_law_284 rfl (lv_at hl 0 rfl) ?_
  refine lv_iload_n hx hb dL_law_285 rfl (lv_at hl 3 rfl) ?_
  refine lv_iconst (v := 1) hx hb dL_law_286 (by decide) ?_
  refine lv_iadd hx hb dL_law_287 ?_
  refine va_sld hx hb hX hbl hbA hW.2 (hin 1 (by decide) (by decide)) dL_law_288 ?_
  refine wz_rI (c' := cells + 0) (s' := slots + 0) hW (wz_runV (rest := []) C hW lVL_28 (ck h1).1 rfl (ctX9_fault l G x (xs (i3 + 1).toNatClampNeg) z h1) ⟨⟨rfl, rfl⟩, Nat.le_of_ble_eq_true rfl, Nat.le_of_ble_eq_true rfl⟩ rfl hl.1 rfl (Nat.le_of_ble_eq_true rfl) dL_law_289 ⟨by show cells + _ ≤ 600000; omega, by show slots + _ ≤ 7302250; omega⟩) rfl rfl (fun H locs hW => ?_)
  refine lv_aload_n hx hb dL_law_292 rfl (lv_at hl 2 rfl) ?_
  refine lv_aload_n hx hb dL_law_293 rfl (lv_at hl 0 rfl) ?_
  refine lv_iload_n hx hb dL_law_294 rfl (lv_at hl 3 rfl) ?_
  refine lv_iconst (v := 1) hx hb dL_law_295 (by decide) ?_
  refine lv_iadd hx hb dL_law_296 ?_
  refine va_sld hx hb hX hbl hbA hW.2 (hin 1 (by decide) (by decide)) dL_law_297 ?_
  refine wz_rI (c' := cells + 0) (s' := slots + 0) hW (wz_runV (rest := [.int r]) C hW lVL_31 (ck h2).1 rfl (ctX10_fault l G y (xs (i3 + 1).toNatClampNeg) z h2) ⟨⟨rfl, rfl⟩, Nat.le_of_ble_eq_true rfl, Nat.le_of_ble_eq_true rfl⟩ rfl hl.1 rfl (Nat.le_of_ble_eq_true rfl) dL_law_298 ⟨by show cells + _ ≤ 600000; omega, by show slots + _ ≤ 7302250; omega⟩) rfl rfl (fun H locs hW => ?_)
  refine lv_icmp_eq (tgt := 1341) hx hb dL_law_301 (by decide) (fun _ => ?_) (fun q => absurd rfl q)
  refine W.widen (k := cells + 15) (n := slots + 140) (by omega) (by omega) ?_
  exact kk _ _ _ hI2 hW
set_option maxHeartbeats 4000000 in
set_option maxRecDepth 100000 in
theorem lwc_4 {p : Program} {l : Launch} {e : Env} {s : State} {m : MethodId} {below : List Frame} {meth : Method} {c : Code} {G : GW} {b L : Nat} {xs : Nat → Int32} {Q : State → Prop} {cells slots : Nat} (C : Cx p m c code 4 s #[Value.ref b] RLw G) (hX : va_X b L xs s s.heap) (hbl : b < s.heap.size) (hbA : ¬ AA G b) {Inv : AH → Prop} {x y : Nat} (hS : St_country Inv x y) {i3 : Int32} (hin : ∀ k : Int32, 0 ≤ k → k ≤ 5 → vp_in (i3 + k) L) {z : AH} (hI : Inv z) {H : Heap} {locs : List Loc} {ls : Array Slot} (hW : Wb G z s H locs) (hl : lv_has ls 4 [(0, .ref b), (1, .ref (gB G + x)), (2, .ref (gB G + y)), (3, .int i3)]) (hf : cells + 15 ≤ 600000 ∧ slots + 140 ≤ 7302250) (kk : ∀ (z2 : AH) (H : Heap) (locs : List Loc), Inv z2 → Wb G z2 s H locs → W p l e room_1 s m #[Value.ref b] below meth c H locs (cells + 15) (slots + 140) Q (F0 m 1341 ls [])) : W p l e room_1 s m #[Value.ref b] below meth c H locs cells slots Q (F0 m 306 ls []) := by
  have hx := C.1
  have hb := C.2.1
  obtain ⟨r, z2, h1, h2, hI2⟩ := hS z hI (xs (i3 + 1).toNatClampNeg) (xs (i3 + 2).toNatClampNeg)
  refine lv_aload_n hx hb dL_law_306 rfl (lv_at hl 1 rfl) ?_
  refine lv_aload_n hx hb dL_law_307 rfl (lv_at hl 0 rfl) ?_
  refine lv_iload_n hx hb dL_law_308 rfl (lv_at hl 3 rfl) ?_
  refine lv_iconst (v := 1) hx hb dL_law_309 (by decide) ?_
  refine lv_iadd hx hb dL_law_310 ?_
  refine va_sld hx hb hX hbl hbA hW.2 (hin 1 (by decide) (by decide)) dL_law_311 ?_
  refine lv_aload_n hx hb dL_law_312 rfl (lv_at hl 0 rfl) ?_
  refine lv_iload_n hx hb dL_law_313 rfl (lv_at hl 3 rfl) ?_
  refine lv_iconst (v := 2) hx hb dL_law_314 (by decide) ?_
  refine lv_iadd hx hb dL_law_315 ?_
  refine va_sld hx hb hX hbl hbA hW.2 (hin 2 (by decide) (by decide)) dL_law_316 ?_
  refine wz_rI (c' := cells + 0) (s' := slots + 0) hW (wz_runV (rest := []) C hW lVL_32 (ck h1).1 rfl (ctX9_country l G x (xs (i3 + 1).toNatClampNeg) (xs (i3 + 2).toNatClampNeg) z h1) ⟨⟨rfl, rfl⟩, Nat.le_of_ble_eq_true rfl, Nat.le_of_ble_eq_true rfl⟩ rfl hl.1 rfl (Nat.le_of_ble_eq_true rfl) dL_law_317 ⟨by show cells + _ ≤ 600000; omega, by show slots + _ ≤ 7302250; omega⟩) rfl rfl (fun H locs hW => ?_)
  refine lv_aload_n hx hb dL_law_320 rfl (lv_at hl 2 rfl) ?_
  refine lv_aload_n hx hb dL_law_321 rfl (lv_at hl 0 rfl) ?_
  refine lv_iload_n hx hb dL_law_322 rfl (lv_at hl 3 rfl) ?_
  refine lv_iconst (v := 1) hx hb dL_law_323 (by decide) ?_
  refine lv_iadd hx hb dL_law_324 ?_
  refine va_sld hx hb hX hbl hbA hW.2 (hin 1 (by decide) (by decide)) dL_law_325 ?_
  refine lv_aload_n hx hb dL_law_326 rfl (lv_at hl 0 rfl) ?_
  refine lv_iload_n hx hb dL_law_327 rfl (lv_at hl 3 rfl) ?_
  refine lv_iconst (v := 2) hx hb dL_law_328 (by decide) ?_
  refine lv_iadd hx hb dL_law_329 ?_
  refine va_sld hx hb hX hbl hbA hW.2 (hin 2 (by decide) (by decide)) dL_law_330 ?_
  refine wz_rI (c' := cells + 0) (s' := slots + 0) hW (wz_runV (rest := [.int r]) C hW lVL_35 (ck h2).1 rfl (ctX10_country l G y (xs (i3 + 1).toNatClampNeg) (xs (i3 + 2).toNatClampNeg) z h2) ⟨⟨rfl, rfl⟩, Nat.le_of_ble_eq_true rfl, Nat.le_of_ble_eq_true rfl⟩ rfl hl.1 rfl (Nat.le_of_ble_eq_true rfl) dL_law_331 ⟨by show cells + _ ≤ 600000; omega, by show slots + _ ≤ 7302250; omega⟩) rfl rfl (fun H locs hW => ?_)
  refine lv_icmp_eq (tgt := 1341) hx hb dL_law_334 (by decide) (fun _ => ?_) (fun q => absurd rfl q)
  refine W.widen (k := cells + 15) (n := slots + 140) (by omega) (by omega) ?_
  exact kk _ _ _ hI2 hW
set_option maxHeartbeats 4000000 in
set_option maxRecDepth 100000 in
theorem lwc_5 {p : Program} {l : Launch} {e : Env} {s : State} {m : MethodId} {below : List Frame} {meth : Method} {c : Code} {G : GW} {b L : Nat} {xs : Nat → Int32} {Q : State → Prop} {cells slots : Nat} (C : Cx p m c code 4 s #[Value.ref b] RLw G) (hX : va_X b L xs s s.heap) (hbl : b < s.heap.size) (hbA : ¬ AA G b) {Inv : AH → Prop} {x y : Nat} (hS : St_deed Inv x y) {i3 : Int32} (hin : ∀ k : Int32, 0 ≤ k → k ≤ 5 → vp_in (i3 + k) L) {z : AH} (hI : Inv z) {H : Heap} {locs : List Loc} {ls : Array Slot} (hW : Wb G z s H locs) (hl : lv_has ls 4 [(0, .ref b), (1, .ref (gB G + x)), (2, .ref (gB G + y)), (3, .int i3)]) (hf : cells + 15 ≤ 600000 ∧ slots + 140 ≤ 7302250) (kk : ∀ (z2 : AH) (H : Heap) (locs : List Loc), Inv z2 → Wb G z2 s H locs → W p l e room_1 s m #[Value.ref b] below meth c H locs (cells + 15) (slots + 140) Q (F0 m 1341 ls [])) : W p l e room_1 s m #[Value.ref b] below meth c H locs cells slots Q (F0 m 339 ls []) := by
  have hx := C.1
  have hb := C.2.1
  obtain ⟨r, z2, h1, h2, hI2⟩ := hS z hI (xs (i3 + 1).toNatClampNeg) (xs (i3 + 2).toNatClampNeg) (xs (i3 + 3).toNatClampNeg)
  refine lv_aload_n hx hb dL_law_339 rfl (lv_at hl 1 rfl) ?_
  refine lv_aload_n hx hb dL_law_340 rfl (lv_at hl 0 rfl) ?_
  refine lv_iload_n hx hb dL_law_341 rfl (lv_at hl 3 rfl) ?_
  refine lv_iconst (v := 1) hx hb dL_law_342 (by decide) ?_
  refine lv_iadd hx hb dL_law_343 ?_
  refine va_sld hx hb hX hbl hbA hW.2 (hin 1 (by decide) (by decide)) dL_law_344 ?_
  refine lv_aload_n hx hb dL_law_345 rfl (lv_at hl 0 rfl) ?_
  refine lv_iload_n hx hb dL_law_346 rfl (lv_at hl 3 rfl) ?_
  refine lv_iconst (v := 2) hx hb dL_law_347 (by decide) ?_
  refine lv_iadd hx hb dL_law_348 ?_
  refine va_sld hx hb hX hbl hbA hW.2 (hin 2 (by decide) (by decide)) dL_law_349 ?_
  refine lv_aload_n hx hb dL_law_350 rfl (lv_at hl 0 rfl) ?_
  refine lv_iload_n hx hb dL_law_351 rfl (lv_at hl 3 rfl) ?_
  refine lv_iconst (v := 3) hx hb dL_law_352 (by decide) ?_
  refine lv_iadd hx hb dL_law_353 ?_
  refine va_sld hx hb hX hbl hbA hW.2 (hin 3 (by decide) (by decide)) dL_law_354 ?_
  refine wz_rI (c' := cells + 0) (s' := slots + 0) hW (wz_runV (rest := []) C hW lVL_36 (ck h1).1 rfl (ctX9_deed l G x (xs (i3 + 1).toNatClampNeg) (xs (i3 + 2).toNatClampNeg) (xs (i3 + 3).toNatClampNeg) z h1) ⟨⟨rfl, rfl⟩, Nat.le_of_ble_eq_true rfl, Nat.le_of_ble_eq_true rfl⟩ rfl hl.1 rfl (Nat.le_of_ble_eq_true rfl) dL_law_355 ⟨by show cells + _ ≤ 600000; omega, by show slots + _ ≤ 7302250; omega⟩) rfl rfl (fun H locs hW => ?_)
  refine lv_aload_n hx hb dL_law_358 rfl (lv_at hl 2 rfl) ?_
  refine lv_aload_n hx hb dL_law_359 rfl (lv_at hl 0 rfl) ?_
  refine lv_iload_n hx hb dL_law_360 rfl (lv_at hl 3 rfl) ?_
  refine lv_iconst (v := 1) hx hb dL_law_361 (by decide) ?_
  refine lv_iadd hx hb dL_law_362 ?_
  refine va_sld hx hb hX hbl hbA hW.2 (hin 1 (by decide) (by decide)) dL_law_363 ?_
  refine lv_aload_n hx hb dL_law_364 rfl (lv_at hl 0 rfl) ?_
  refine lv_iload_n hx hb dL_law_365 rfl (lv_at hl 3 rfl) ?_
  refine lv_iconst (v := 2) hx hb dL_law_366 (by decide) ?_
  refine lv_iadd hx hb dL_law_367 ?_
  refine va_sld hx hb hX hbl hbA hW.2 (hin 2 (by decide) (by decide)) dL_law_368 ?_
  refine lv_aload_n hx hb dL_law_369 rfl (lv_at hl 0 rfl) ?_
  refine lv_iload_n hx hb dL_law_370 rfl (lv_at hl 3 rfl) ?_
  refine lv_iconst (v := 3) hx hb dL_law_371 (by decide) ?_
  refine lv_iadd hx hb dL_law_372 ?_
  refine va_sld hx hb hX hbl hbA hW.2 (hin 3 (by decide) (by decide)) dL_law_373 ?_
  refine wz_rI (c' := cells + 0) (s' := slots + 0) hW (wz_runV (rest := [.int r]) C hW lVL_40 (ck h2).1 rfl (ctX10_deed l G y (xs (i3 + 1).toNatClampNeg) (xs (i3 + 2).toNatClampNeg) (xs (i3 + 3).toNatClampNeg) z h2) ⟨⟨rfl, rfl⟩, Nat.le_of_ble_eq_true rfl, Nat.le_of_ble_eq_true rfl⟩ rfl hl.1 rfl (Nat.le_of_ble_eq_true rfl) dL_law_374 ⟨by show cells + _ ≤ 600000; omega, by show slots + _ ≤ 7302250; omega⟩) rfl rfl (fun H locs hW => ?_)
  refine lv_icmp_eq (tgt := 1341) hx hb dL_law_377 (by decide) (fun _ => ?_) (fun q => absurd rfl q)
  refine W.widen (k := cells + 15) (n := slots + 140) (by omega) (by omega) ?_
  exact kk _ _ _ hI2 hW
set_option maxHeartbeats 4000000 in
set_option maxRecDepth 100000 in
theorem lwc_6 {p : Program} {l : Launch} {e : Env} {s : State} {m : MethodId} {below : List Frame} {meth : Method} {c : Code} {G : GW} {b L : Nat} {xs : Nat → Int32} {Q : State → Prop} {cells slots : Nat} (C : Cx p m c code 4 s #[Value.ref b] RLw G) (hX : va_X b L xs s s.heap) (hbl : b < s.heap.size) (hbA : ¬ AA G b) {Inv : AH → Prop} {x y : Nat} (hS : St_till Inv x y) {i3 : Int32} (hin : ∀ k : Int32, 0 ≤ k → k ≤ 5 → vp_in (i3 + k) L) {z : AH} (hI : Inv z) {H : Heap} {locs : List Loc} {ls : Array Slot} (hW : Wb G z s H locs) (hl : lv_has ls 4 [(0, .ref b), (1, .ref (gB G + x)), (2, .ref (gB G + y)), (3, .int i3)]) (hf : cells + 15 ≤ 600000 ∧ slots + 140 ≤ 7302250) (kk : ∀ (z2 : AH) (H : Heap) (locs : List Loc), Inv z2 → Wb G z2 s H locs → W p l e room_1 s m #[Value.ref b] below meth c H locs (cells + 15) (slots + 140) Q (F0 m 1341 ls [])) : W p l e room_1 s m #[Value.ref b] below meth c H locs cells slots Q (F0 m 382 ls []) := by
  have hx := C.1
  have hb := C.2.1
  obtain ⟨r, z1, z2, h1, h2, hI2⟩ := hS z hI (xs (i3 + 1).toNatClampNeg) (xs (i3 + 2).toNatClampNeg)
  refine lv_aload_n hx hb dL_law_382 rfl (lv_at hl 1 rfl) ?_
  refine lv_aload_n hx hb dL_law_383 rfl (lv_at hl 0 rfl) ?_
  refine lv_iload_n hx hb dL_law_384 rfl (lv_at hl 3 rfl) ?_
  refine lv_iconst (v := 1) hx hb dL_law_385 (by decide) ?_
  refine lv_iadd hx hb dL_law_386 ?_
  refine va_sld hx hb hX hbl hbA hW.2 (hin 1 (by decide) (by decide)) dL_law_387 ?_
  refine lv_aload_n hx hb dL_law_388 rfl (lv_at hl 0 rfl) ?_
  refine lv_iload_n hx hb dL_law_389 rfl (lv_at hl 3 rfl) ?_
  refine lv_iconst (v := 2) hx hb dL_law_390 (by decide) ?_
  refine lv_iadd hx hb dL_law_391 ?_
  refine va_sld hx hb hX hbl hbA hW.2 (hin 2 (by decide) (by decide)) dL_law_392 ?_
  refine wz_rI (c' := cells + 0) (s' := slots + 0) hW (wz_runV (rest := []) C hW lVL_41 (ck h1).1 rfl (ctX9_till l G x (xs (i3 + 1).toNatClampNeg) (xs (i3 + 2).toNatClampNeg) z h1) ⟨⟨rfl, rfl⟩, Nat.le_of_ble_eq_true rfl, Nat.le_of_ble_eq_true rfl⟩ rfl hl.1 rfl (Nat.le_of_ble_eq_true rfl) dL_law_393 ⟨by show cells + _ ≤ 600000; omega, by show slots + _ ≤ 7302250; omega⟩) rfl rfl (fun H locs hW => ?_)
  refine lv_aload_n hx hb dL_law_396 rfl (lv_at hl 2 rfl) ?_
  refine lv_aload_n hx hb dL_law_397 rfl (lv_at hl 0 rfl) ?_
  refine lv_iload_n hx hb dL_law_398 rfl (lv_at hl 3 rfl) ?_
  refine lv_iconst (v := 1) hx hb dL_law_399 (by decide) ?_
  refine lv_iadd hx hb dL_law_400 ?_
  refine va_sld hx hb hX hbl hbA hW.2 (hin 1 (by decide) (by decide)) dL_law_401 ?_
  refine lv_aload_n hx hb dL_law_402 rfl (lv_at hl 0 rfl) ?_
  refine lv_iload_n hx hb dL_law_403 rfl (lv_at hl 3 rfl) ?_
  refine lv_iconst (v := 2) hx hb dL_law_404 (by decide) ?_
  refine lv_iadd hx hb dL_law_405 ?_
  refine va_sld hx hb hX hbl hbA hW.2 (hin 2 (by decide) (by decide)) dL_law_406 ?_
  refine wz_rI (c' := cells + 0) (s' := slots + 0) hW (wz_runV (rest := [.int r]) C hW lVL_44 (ck h2).1 rfl (ctX10_till l G y (xs (i3 + 1).toNatClampNeg) (xs (i3 + 2).toNatClampNeg) z1 h2) ⟨⟨rfl, rfl⟩, Nat.le_of_ble_eq_true rfl, Nat.le_of_ble_eq_true rfl⟩ rfl hl.1 rfl (Nat.le_of_ble_eq_true rfl) dL_law_407 ⟨by show cells + _ ≤ 600000; omega, by show slots + _ ≤ 7302250; omega⟩) rfl rfl (fun H locs hW => ?_)
  refine lv_icmp_eq (tgt := 1341) hx hb dL_law_410 (by decide) (fun _ => ?_) (fun q => absurd rfl q)
  refine W.widen (k := cells + 15) (n := slots + 140) (by omega) (by omega) ?_
  exact kk _ _ _ hI2 hW
set_option maxHeartbeats 4000000 in
set_option maxRecDepth 100000 in
theorem lwc_7 {p : Program} {l : Launch} {e : Env} {s : State} {m : MethodId} {below : List Frame} {meth : Method} {c : Code} {G : GW} {b L : Nat} {xs : Nat → Int32} {Q : State → Prop} {cells slots : Nat} (C : Cx p m c code 4 s #[Value.ref b] RLw G) (hX : va_X b L xs s s.heap) (hbl : b < s.heap.size) (hbA : ¬ AA G b) {Inv : AH → Prop} {x y : Nat} (hS : St_state Inv x y) {i3 : Int32} (hin : ∀ k : Int32, 0 ≤ k → k ≤ 5 → vp_in (i3 + k) L) {z : AH} (hI : Inv z) {H : Heap} {locs : List Loc} {ls : Array Slot} (hW : Wb G z s H locs) (hl : lv_has ls 4 [(0, .ref b), (1, .ref (gB G + x)), (2, .ref (gB G + y)), (3, .int i3)]) (hf : cells + 15 ≤ 600000 ∧ slots + 140 ≤ 7302250) (kk : ∀ (z2 : AH) (H : Heap) (locs : List Loc), Inv z2 → Wb G z2 s H locs → W p l e room_1 s m #[Value.ref b] below meth c H locs (cells + 15) (slots + 140) Q (F0 m 1341 ls [])) : W p l e room_1 s m #[Value.ref b] below meth c H locs cells slots Q (F0 m 415 ls []) := by
  have hx := C.1
  have hb := C.2.1
  obtain ⟨r, z1, z2, h1, h2, hI2⟩ := hS z hI (xs (i3 + 1).toNatClampNeg) (xs (i3 + 2).toNatClampNeg) (xs (i3 + 3).toNatClampNeg) (xs (i3 + 4).toNatClampNeg)
  refine lv_aload_n hx hb dL_law_415 rfl (lv_at hl 1 rfl) ?_
  refine lv_aload_n hx hb dL_law_416 rfl (lv_at hl 0 rfl) ?_
  refine lv_iload_n hx hb dL_law_417 rfl (lv_at hl 3 rfl) ?_
  refine lv_iconst (v := 1) hx hb dL_law_418 (by decide) ?_
  refine lv_iadd hx hb dL_law_419 ?_
  refine va_sld hx hb hX hbl hbA hW.2 (hin 1 (by decide) (by decide)) dL_law_420 ?_
  refine lv_aload_n hx hb dL_law_421 rfl (lv_at hl 0 rfl) ?_
  refine lv_iload_n hx hb dL_law_422 rfl (lv_at hl 3 rfl) ?_
  refine lv_iconst (v := 2) hx hb dL_law_423 (by decide) ?_
  refine lv_iadd hx hb dL_law_424 ?_
  refine va_sld hx hb hX hbl hbA hW.2 (hin 2 (by decide) (by decide)) dL_law_425 ?_
  refine lv_aload_n hx hb dL_law_426 rfl (lv_at hl 0 rfl) ?_
  refine lv_iload_n hx hb dL_law_427 rfl (lv_at hl 3 rfl) ?_
  refine lv_iconst (v := 3) hx hb dL_law_428 (by decide) ?_
  refine lv_iadd hx hb dL_law_429 ?_
  refine va_sld hx hb hX hbl hbA hW.2 (hin 3 (by decide) (by decide)) dL_law_430 ?_
  refine lv_aload_n hx hb dL_law_431 rfl (lv_at hl 0 rfl) ?_
  refine lv_iload_n hx hb dL_law_432 rfl (lv_at hl 3 rfl) ?_
  refine lv_iconst (v := 4) hx hb dL_law_433 (by decide) ?_
  refine lv_iadd hx hb dL_law_434 ?_
  refine va_sld hx hb hX hbl hbA hW.2 (hin 4 (by decide) (by decide)) dL_law_435 ?_
  refine wz_rI (c' := cells + 0) (s' := slots + 0) hW (wz_runV (rest := []) C hW lVL_45 (ck h1).1 rfl (ctX9_state l G x (xs (i3 + 1).toNatClampNeg) (xs (i3 + 2).toNatClampNeg) (xs (i3 + 3).toNatClampNeg) (xs (i3 + 4).toNatClampNeg) z h1) ⟨⟨rfl, rfl⟩, Nat.le_of_ble_eq_true rfl, Nat.le_of_ble_eq_true rfl⟩ rfl hl.1 rfl (Nat.le_of_ble_eq_true rfl) dL_law_436 ⟨by show cells + _ ≤ 600000; omega, by show slots + _ ≤ 7302250; omega⟩) rfl rfl (fun H locs hW => ?_)
  refine lv_aload_n hx hb dL_law_439 rfl (lv_at hl 2 rfl) ?_
  refine lv_aload_n hx hb dL_law_440 rfl (lv_at hl 0 rfl) ?_
  refine lv_iload_n hx hb dL_law_441 rfl (lv_at hl 3 rfl) ?_
  refine lv_iconst (v := 1) hx hb dL_law_442 (by decide) ?_
  refine lv_iadd hx hb dL_law_443 ?_
  refine va_sld hx hb hX hbl hbA hW.2 (hin 1 (by decide) (by decide)) dL_law_444 ?_
  refine lv_aload_n hx hb dL_law_445 rfl (lv_at hl 0 rfl) ?_
  refine lv_iload_n hx hb dL_law_446 rfl (lv_at hl 3 rfl) ?_
  refine lv_iconst (v := 2) hx hb dL_law_447 (by decide) ?_
  refine lv_iadd hx hb dL_law_448 ?_
  refine va_sld hx hb hX hbl hbA hW.2 (hin 2 (by decide) (by decide)) dL_law_449 ?_
  refine lv_aload_n hx hb dL_law_450 rfl (lv_at hl 0 rfl) ?_
  refine lv_iload_n hx hb dL_law_451 rfl (lv_at hl 3 rfl) ?_
  refine lv_iconst (v := 3) hx hb dL_law_452 (by decide) ?_
  refine lv_iadd hx hb dL_law_453 ?_
  refine va_sld hx hb hX hbl hbA hW.2 (hin 3 (by decide) (by decide)) dL_law_454 ?_
  refine lv_aload_n hx hb dL_law_455 rfl (lv_at hl 0 rfl) ?_
  refine lv_iload_n hx hb dL_law_456 rfl (lv_at hl 3 rfl) ?_
  refine lv_iconst (v := 4) hx hb dL_law_457 (by decide) ?_
  refine lv_iadd hx hb dL_law_458 ?_
  refine va_sld hx hb hX hbl hbA hW.2 (hin 4 (by decide) (by decide)) dL_law_459 ?_
  refine wz_rI (c' := cells + 0) (s' := slots + 0) hW (wz_runV (rest := [.int r]) C hW lVL_49 (ck h2).1 rfl (ctX10_state l G y (xs (i3 + 1).toNatClampNeg) (xs (i3 + 2).toNatClampNeg) (xs (i3 + 3).toNatClampNeg) (xs (i3 + 4).toNatClampNeg) z1 h2) ⟨⟨rfl, rfl⟩, Nat.le_of_ble_eq_true rfl, Nat.le_of_ble_eq_true rfl⟩ rfl hl.1 rfl (Nat.le_of_ble_eq_true rfl) dL_law_460 ⟨by show cells + _ ≤ 600000; omega, by show slots + _ ≤ 7302250; omega⟩) rfl rfl (fun H locs hW => ?_)
  refine lv_icmp_eq (tgt := 1341) hx hb dL_law_463 (by decide) (fun _ => ?_) (fun q => absurd rfl q)
  refine W.widen (k := cells + 15) (n := slots + 140) (by omega) (by omega) ?_
  exact kk _ _ _ hI2 hW
set_option maxHeartbeats 4000000 in
set_option maxRecDepth 100000 in
theorem lwc_8 {p : Program} {l : Launch} {e : Env} {s : State} {m : MethodId} {below : List Frame} {meth : Method} {c : Code} {G : GW} {b L : Nat} {xs : Nat → Int32} {Q : State → Prop} {cells slots : Nat} (C : Cx p m c code 4 s #[Value.ref b] RLw G) (hX : va_X b L xs s s.heap) (hbl : b < s.heap.size) (hbA : ¬ AA G b) {Inv : AH → Prop} {x y : Nat} (hS : St_lasts Inv x y) {i3 : Int32} (hin : ∀ k : Int32, 0 ≤ k → k ≤ 5 → vp_in (i3 + k) L) {z : AH} (hI : Inv z) {H : Heap} {locs : List Loc} {ls : Array Slot} (hW : Wb G z s H locs) (hl : lv_has ls 4 [(0, .ref b), (1, .ref (gB G + x)), (2, .ref (gB G + y)), (3, .int i3)]) (hf : cells + 15 ≤ 600000 ∧ slots + 140 ≤ 7302250) (kk : ∀ (z2 : AH) (H : Heap) (locs : List Loc), Inv z2 → Wb G z2 s H locs → W p l e room_1 s m #[Value.ref b] below meth c H locs (cells + 15) (slots + 140) Q (F0 m 1341 ls [])) : W p l e room_1 s m #[Value.ref b] below meth c H locs cells slots Q (F0 m 468 ls []) := by
  have hx := C.1
  have hb := C.2.1
  obtain ⟨r, z1, z2, h1, h2, hI2⟩ := hS z hI (xs (i3 + 1).toNatClampNeg) (xs (i3 + 2).toNatClampNeg)
  refine lv_aload_n hx hb dL_law_468 rfl (lv_at hl 1 rfl) ?_
  refine lv_aload_n hx hb dL_law_469 rfl (lv_at hl 0 rfl) ?_
  refine lv_iload_n hx hb dL_law_470 rfl (lv_at hl 3 rfl) ?_
  refine lv_iconst (v := 1) hx hb dL_law_471 (by decide) ?_
  refine lv_iadd hx hb dL_law_472 ?_
  refine va_sld hx hb hX hbl hbA hW.2 (hin 1 (by decide) (by decide)) dL_law_473 ?_
  refine lv_aload_n hx hb dL_law_474 rfl (lv_at hl 0 rfl) ?_
  refine lv_iload_n hx hb dL_law_475 rfl (lv_at hl 3 rfl) ?_
  refine lv_iconst (v := 2) hx hb dL_law_476 (by decide) ?_
  refine lv_iadd hx hb dL_law_477 ?_
  refine va_sld hx hb hX hbl hbA hW.2 (hin 2 (by decide) (by decide)) dL_law_478 ?_
  refine wz_rI (c' := cells + 0) (s' := slots + 0) hW (wz_runV (rest := []) C hW lVL_50 (ck h1).1 rfl (ctX9_lasts l G x (xs (i3 + 1).toNatClampNeg) (xs (i3 + 2).toNatClampNeg) z h1) ⟨⟨rfl, rfl⟩, Nat.le_of_ble_eq_true rfl, Nat.le_of_ble_eq_true rfl⟩ rfl hl.1 rfl (Nat.le_of_ble_eq_true rfl) dL_law_479 ⟨by show cells + _ ≤ 600000; omega, by show slots + _ ≤ 7302250; omega⟩) rfl rfl (fun H locs hW => ?_)
  refine lv_aload_n hx hb dL_law_482 rfl (lv_at hl 2 rfl) ?_
  refine lv_aload_n hx hb dL_law_483 rfl (lv_at hl 0 rfl) ?_
  refine lv_iload_n hx hb dL_law_484 rfl (lv_at hl 3 rfl) ?_
  refine lv_iconst (v := 1) hx hb dL_law_485 (by decide) ?_
  refine lv_iadd hx hb dL_law_486 ?_
  refine va_sld hx hb hX hbl hbA hW.2 (hin 1 (by decide) (by decide)) dL_law_487 ?_
  refine lv_aload_n hx hb dL_law_488 rfl (lv_at hl 0 rfl) ?_
  refine lv_iload_n hx hb dL_law_489 rfl (lv_at hl 3 rfl) ?_
  refine lv_iconst (v := 2) hx hb dL_law_490 (by decide) ?_
  refine lv_iadd hx hb dL_law_491 ?_
  refine va_sld hx hb hX hbl hbA hW.2 (hin 2 (by decide) (by decide)) dL_law_492 ?_
  refine wz_rI (c' := cells + 0) (s' := slots + 0) hW (wz_runV (rest := [.int r]) C hW lVL_53 (ck h2).1 rfl (ctX10_lasts l G y (xs (i3 + 1).toNatClampNeg) (xs (i3 + 2).toNatClampNeg) z1 h2) ⟨⟨rfl, rfl⟩, Nat.le_of_ble_eq_true rfl, Nat.le_of_ble_eq_true rfl⟩ rfl hl.1 rfl (Nat.le_of_ble_eq_true rfl) dL_law_493 ⟨by show cells + _ ≤ 600000; omega, by show slots + _ ≤ 7302250; omega⟩) rfl rfl (fun H locs hW => ?_)
  refine lv_icmp_eq (tgt := 1341) hx hb dL_law_496 (by decide) (fun _ => ?_) (fun q => absurd rfl q)
  refine W.widen (k := cells + 15) (n := slots + 140) (by omega) (by omega) ?_
  exact kk _ _ _ hI2 hW
set_option maxHeartbeats 4000000 in
set_option maxRecDepth 100000 in
theorem lwc_9 {p : Program} {l : Launch} {e : Env} {s : State} {m : MethodId} {below : List Frame} {meth : Method} {c : Code} {G : GW} {b L : Nat} {xs : Nat → Int32} {Q : State → Prop} {cells slots : Nat} (C : Cx p m c code 4 s #[Value.ref b] RLw G) (hX : va_X b L xs s s.heap) (hbl : b < s.heap.size) (hbA : ¬ AA G b) {Inv : AH → Prop} {x y : Nat} (hS : St_watch Inv x y) {i3 : Int32} (hin : ∀ k : Int32, 0 ≤ k → k ≤ 5 → vp_in (i3 + k) L) {z : AH} (hI : Inv z) {H : Heap} {locs : List Loc} {ls : Array Slot} (hW : Wb G z s H locs) (hl : lv_has ls 4 [(0, .ref b), (1, .ref (gB G + x)), (2, .ref (gB G + y)), (3, .int i3)]) (hf : cells + 15 ≤ 600000 ∧ slots + 140 ≤ 7302250) (kk : ∀ (z2 : AH) (H : Heap) (locs : List Loc), Inv z2 → Wb G z2 s H locs → W p l e room_1 s m #[Value.ref b] below meth c H locs (cells + 15) (slots + 140) Q (F0 m 1341 ls [])) : W p l e room_1 s m #[Value.ref b] below meth c H locs cells slots Q (F0 m 501 ls []) := by
  have hx := C.1
  have hb := C.2.1
  obtain ⟨r, z1, z2, h1, h2, hI2⟩ := hS z hI (xs (i3 + 1).toNatClampNeg) (xs (i3 + 2).toNatClampNeg)
  refine lv_aload_n hx hb dL_law_501 rfl (lv_at hl 1 rfl) ?_
  refine lv_aload_n hx hb dL_law_502 rfl (lv_at hl 0 rfl) ?_
  refine lv_iload_n hx hb dL_law_503 rfl (lv_at hl 3 rfl) ?_
  refine lv_iconst (v := 1) hx hb dL_law_504 (by decide) ?_
  refine lv_iadd hx hb dL_law_505 ?_
  refine va_sld hx hb hX hbl hbA hW.2 (hin 1 (by decide) (by decide)) dL_law_506 ?_
  refine lv_aload_n hx hb dL_law_507 rfl (lv_at hl 0 rfl) ?_
  refine lv_iload_n hx hb dL_law_508 rfl (lv_at hl 3 rfl) ?_
  refine lv_iconst (v := 2) hx hb dL_law_509 (by decide) ?_
  refine lv_iadd hx hb dL_law_510 ?_
  refine va_sld hx hb hX hbl hbA hW.2 (hin 2 (by decide) (by decide)) dL_law_511 ?_
  refine wz_rI (c' := cells + 0) (s' := slots + 0) hW (wz_runV (rest := []) C hW lVL_54 (ck h1).1 rfl (ctX9_watch l G x (xs (i3 + 1).toNatClampNeg) (xs (i3 + 2).toNatClampNeg) z h1) ⟨⟨rfl, rfl⟩, Nat.le_of_ble_eq_true rfl, Nat.le_of_ble_eq_true rfl⟩ rfl hl.1 rfl (Nat.le_of_ble_eq_true rfl) dL_law_512 ⟨by show cells + _ ≤ 600000; omega, by show slots + _ ≤ 7302250; omega⟩) rfl rfl (fun H locs hW => ?_)
  refine lv_aload_n hx hb dL_law_515 rfl (lv_at hl 2 rfl) ?_
  refine lv_aload_n hx hb dL_law_516 rfl (lv_at hl 0 rfl) ?_
  refine lv_iload_n hx hb dL_law_517 rfl (lv_at hl 3 rfl) ?_
  refine lv_iconst (v := 1) hx hb dL_law_518 (by decide) ?_
  refine lv_iadd hx hb dL_law_519 ?_
  refine va_sld hx hb hX hbl hbA hW.2 (hin 1 (by decide) (by decide)) dL_law_520 ?_
  refine lv_aload_n hx hb dL_law_521 rfl (lv_at hl 0 rfl) ?_
  refine lv_iload_n hx hb dL_law_522 rfl (lv_at hl 3 rfl) ?_
  refine lv_iconst (v := 2) hx hb dL_law_523 (by decide) ?_
  refine lv_iadd hx hb dL_law_524 ?_
  refine va_sld hx hb hX hbl hbA hW.2 (hin 2 (by decide) (by decide)) dL_law_525 ?_
  refine wz_rI (c' := cells + 0) (s' := slots + 0) hW (wz_runV (rest := [.int r]) C hW lVL_57 (ck h2).1 rfl (ctX10_watch l G y (xs (i3 + 1).toNatClampNeg) (xs (i3 + 2).toNatClampNeg) z1 h2) ⟨⟨rfl, rfl⟩, Nat.le_of_ble_eq_true rfl, Nat.le_of_ble_eq_true rfl⟩ rfl hl.1 rfl (Nat.le_of_ble_eq_true rfl) dL_law_526 ⟨by show cells + _ ≤ 600000; omega, by show slots + _ ≤ 7302250; omega⟩) rfl rfl (fun H locs hW => ?_)
  refine lv_icmp_eq (tgt := 1341) hx hb dL_law_529 (by decide) (fun _ => ?_) (fun q => absurd rfl q)
  refine W.widen (k := cells + 15) (n := slots + 140) (by omega) (by omega) ?_
  exact kk _ _ _ hI2 hW
set_option maxHeartbeats 4000000 in
set_option maxRecDepth 100000 in
theorem lwc_10 {p : Program} {l : Launch} {e : Env} {s : State} {m : MethodId} {below : List Frame} {meth : Method} {c : Code} {G : GW} {b L : Nat} {xs : Nat → Int32} {Q : State → Prop} {cells slots : Nat} (C : Cx p m c code 4 s #[Value.ref b] RLw G) (hX : va_X b L xs s s.heap) (hbl : b < s.heap.size) (hbA : ¬ AA G b) {Inv : AH → Prop} {x y : Nat} (hS : St_way Inv x y) {i3 : Int32} (hin : ∀ k : Int32, 0 ≤ k → k ≤ 5 → vp_in (i3 + k) L) {z : AH} (hI : Inv z) {H : Heap} {locs : List Loc} {ls : Array Slot} (hW : Wb G z s H locs) (hl : lv_has ls 4 [(0, .ref b), (1, .ref (gB G + x)), (2, .ref (gB G + y)), (3, .int i3)]) (hf : cells + 15 ≤ 600000 ∧ slots + 140 ≤ 7302250) (kk : ∀ (z2 : AH) (H : Heap) (locs : List Loc), Inv z2 → Wb G z2 s H locs → W p l e room_1 s m #[Value.ref b] below meth c H locs (cells + 15) (slots + 140) Q (F0 m 1341 ls [])) : W p l e room_1 s m #[Value.ref b] below meth c H locs cells slots Q (F0 m 534 ls []) := by
  have hx := C.1
  have hb := C.2.1
  by_cases cz : (xs (i3 + 4).toNatClampNeg) = 0
  · obtain ⟨r, z1, z2, h1, h2, hI2⟩ := hS z hI (xs (i3 + 1).toNatClampNeg) (xs (i3 + 2).toNatClampNeg) (xs (i3 + 3).toNatClampNeg) 0 (Or.inl rfl)
    refine lv_aload_n hx hb dL_law_534 rfl (lv_at hl 1 rfl) ?_
    refine lv_aload_n hx hb dL_law_535 rfl (lv_at hl 0 rfl) ?_
    refine lv_iload_n hx hb dL_law_536 rfl (lv_at hl 3 rfl) ?_
    refine lv_iconst (v := 1) hx hb dL_law_537 (by decide) ?_
    refine lv_iadd hx hb dL_law_538 ?_
    refine va_sld hx hb hX hbl hbA hW.2 (hin 1 (by decide) (by decide)) dL_law_539 ?_
    refine lv_aload_n hx hb dL_law_540 rfl (lv_at hl 0 rfl) ?_
    refine lv_iload_n hx hb dL_law_541 rfl (lv_at hl 3 rfl) ?_
    refine lv_iconst (v := 2) hx hb dL_law_542 (by decide) ?_
    refine lv_iadd hx hb dL_law_543 ?_
    refine va_sld hx hb hX hbl hbA hW.2 (hin 2 (by decide) (by decide)) dL_law_544 ?_
    refine lv_aload_n hx hb dL_law_545 rfl (lv_at hl 0 rfl) ?_
    refine lv_iload_n hx hb dL_law_546 rfl (lv_at hl 3 rfl) ?_
    refine lv_iconst (v := 3) hx hb dL_law_547 (by decide) ?_
    refine lv_iadd hx hb dL_law_548 ?_
    refine va_sld hx hb hX hbl hbA hW.2 (hin 3 (by decide) (by decide)) dL_law_549 ?_
    refine lv_aload_n hx hb dL_law_550 rfl (lv_at hl 0 rfl) ?_
    refine lv_iload_n hx hb dL_law_551 rfl (lv_at hl 3 rfl) ?_
    refine lv_iconst (v := 4) hx hb dL_law_552 (by decide) ?_
    refine lv_iadd hx hb dL_law_553 ?_
    refine va_sld hx hb hX hbl hbA hW.2 (hin 4 (by decide) (by decide)) dL_law_554 ?_
    refine lv_if_eq (tgt := 562) hx hb dL_law_555 (by decide) (fun _ => ?_) (fun q => absurd cz q)
    refine lv_iconst (v := 0) hx hb dL_law_562 (by decide) ?_
    refine wz_rI (c' := cells + 0) (s' := slots + 0) hW (wz_runV (rest := []) C hW lVL_58 (ck h1).1 rfl (ctX9_way l G x (xs (i3 + 1).toNatClampNeg) (xs (i3 + 2).toNatClampNeg) (xs (i3 + 3).toNatClampNeg) 0 z h1) ⟨⟨rfl, rfl⟩, Nat.le_of_ble_eq_true rfl, Nat.le_of_ble_eq_true rfl⟩ rfl hl.1 rfl (Nat.le_of_ble_eq_true rfl) dL_law_563 ⟨by show cells + _ ≤ 600000; omega, by show slots + _ ≤ 7302250; omega⟩) rfl rfl (fun H locs hW => ?_)
    refine lv_aload_n hx hb dL_law_566 rfl (lv_at hl 2 rfl) ?_
    refine lv_aload_n hx hb dL_law_567 rfl (lv_at hl 0 rfl) ?_
    refine lv_iload_n hx hb dL_law_568 rfl (lv_at hl 3 rfl) ?_
    refine lv_iconst (v := 1) hx hb dL_law_569 (by decide) ?_
    refine lv_iadd hx hb dL_law_570 ?_
    refine va_sld hx hb hX hbl hbA hW.2 (hin 1 (by decide) (by decide)) dL_law_571 ?_
    refine lv_aload_n hx hb dL_law_572 rfl (lv_at hl 0 rfl) ?_
    refine lv_iload_n hx hb dL_law_573 rfl (lv_at hl 3 rfl) ?_
    refine lv_iconst (v := 2) hx hb dL_law_574 (by decide) ?_
    refine lv_iadd hx hb dL_law_575 ?_
    refine va_sld hx hb hX hbl hbA hW.2 (hin 2 (by decide) (by decide)) dL_law_576 ?_
    refine lv_aload_n hx hb dL_law_577 rfl (lv_at hl 0 rfl) ?_
    refine lv_iload_n hx hb dL_law_578 rfl (lv_at hl 3 rfl) ?_
    refine lv_iconst (v := 3) hx hb dL_law_579 (by decide) ?_
    refine lv_iadd hx hb dL_law_580 ?_
    refine va_sld hx hb hX hbl hbA hW.2 (hin 3 (by decide) (by decide)) dL_law_581 ?_
    refine lv_aload_n hx hb dL_law_582 rfl (lv_at hl 0 rfl) ?_
    refine lv_iload_n hx hb dL_law_583 rfl (lv_at hl 3 rfl) ?_
    refine lv_iconst (v := 4) hx hb dL_law_584 (by decide) ?_
    refine lv_iadd hx hb dL_law_585 ?_
    refine va_sld hx hb hX hbl hbA hW.2 (hin 4 (by decide) (by decide)) dL_law_586 ?_
    refine lv_if_eq (tgt := 594) hx hb dL_law_587 (by decide) (fun _ => ?_) (fun q => absurd cz q)
    refine lv_iconst (v := 0) hx hb dL_law_594 (by decide) ?_
    refine wz_rI (c' := cells + 0) (s' := slots + 0) hW (wz_runV (rest := [.int r]) C hW lVL_62 (ck h2).1 rfl (ctX10_way l G y (xs (i3 + 1).toNatClampNeg) (xs (i3 + 2).toNatClampNeg) (xs (i3 + 3).toNatClampNeg) 0 z1 h2) ⟨⟨rfl, rfl⟩, Nat.le_of_ble_eq_true rfl, Nat.le_of_ble_eq_true rfl⟩ rfl hl.1 rfl (Nat.le_of_ble_eq_true rfl) dL_law_595 ⟨by show cells + _ ≤ 600000; omega, by show slots + _ ≤ 7302250; omega⟩) rfl rfl (fun H locs hW => ?_)
    refine lv_icmp_eq (tgt := 1341) hx hb dL_law_598 (by decide) (fun _ => ?_) (fun q => absurd rfl q)
    refine W.widen (k := cells + 15) (n := slots + 140) (by omega) (by omega) ?_
    exact kk _ _ _ hI2 hW
  · obtain ⟨r, z1, z2, h1, h2, hI2⟩ := hS z hI (xs (i3 + 1).toNatClampNeg) (xs (i3 + 2).toNatClampNeg) (xs (i3 + 3).toNatClampNeg) 1 (Or.inr rfl)
    refine lv_aload_n hx hb dL_law_534 rfl (lv_at hl 1 rfl) ?_
    refine lv_aload_n hx hb dL_law_535 rfl (lv_at hl 0 rfl) ?_
    refine lv_iload_n hx hb dL_law_536 rfl (lv_at hl 3 rfl) ?_
    refine lv_iconst (v := 1) hx hb dL_law_537 (by decide) ?_
    refine lv_iadd hx hb dL_law_538 ?_
    refine va_sld hx hb hX hbl hbA hW.2 (hin 1 (by decide) (by decide)) dL_law_539 ?_
    refine lv_aload_n hx hb dL_law_540 rfl (lv_at hl 0 rfl) ?_
    refine lv_iload_n hx hb dL_law_541 rfl (lv_at hl 3 rfl) ?_
    refine lv_iconst (v := 2) hx hb dL_law_542 (by decide) ?_
    refine lv_iadd hx hb dL_law_543 ?_
    refine va_sld hx hb hX hbl hbA hW.2 (hin 2 (by decide) (by decide)) dL_law_544 ?_
    refine lv_aload_n hx hb dL_law_545 rfl (lv_at hl 0 rfl) ?_
    refine lv_iload_n hx hb dL_law_546 rfl (lv_at hl 3 rfl) ?_
    refine lv_iconst (v := 3) hx hb dL_law_547 (by decide) ?_
    refine lv_iadd hx hb dL_law_548 ?_
    refine va_sld hx hb hX hbl hbA hW.2 (hin 3 (by decide) (by decide)) dL_law_549 ?_
    refine lv_aload_n hx hb dL_law_550 rfl (lv_at hl 0 rfl) ?_
    refine lv_iload_n hx hb dL_law_551 rfl (lv_at hl 3 rfl) ?_
    refine lv_iconst (v := 4) hx hb dL_law_552 (by decide) ?_
    refine lv_iadd hx hb dL_law_553 ?_
    refine va_sld hx hb hX hbl hbA hW.2 (hin 4 (by decide) (by decide)) dL_law_554 ?_
    refine lv_if_eq (tgt := 562) hx hb dL_law_555 (by decide) (fun q => absurd q cz) (fun _ => ?_)
    refine lv_iconst (v := 1) hx hb dL_law_558 (by decide) ?_
    refine lv_goto (tgt := 563) hx hb dL_law_559 (by decide) ?_
    refine wz_rI (c' := cells + 0) (s' := slots + 0) hW (wz_runV (rest := []) C hW lVL_58 (ck h1).1 rfl (ctX9_way l G x (xs (i3 + 1).toNatClampNeg) (xs (i3 + 2).toNatClampNeg) (xs (i3 + 3).toNatClampNeg) 1 z h1) ⟨⟨rfl, rfl⟩, Nat.le_of_ble_eq_true rfl, Nat.le_of_ble_eq_true rfl⟩ rfl hl.1 rfl (Nat.le_of_ble_eq_true rfl) dL_law_563 ⟨by show cells + _ ≤ 600000; omega, by show slots + _ ≤ 7302250; omega⟩) rfl rfl (fun H locs hW => ?_)
    refine lv_aload_n hx hb dL_law_566 rfl (lv_at hl 2 rfl) ?_
    refine lv_aload_n hx hb dL_law_567 rfl (lv_at hl 0 rfl) ?_
    refine lv_iload_n hx hb dL_law_568 rfl (lv_at hl 3 rfl) ?_
    refine lv_iconst (v := 1) hx hb dL_law_569 (by decide) ?_
    refine lv_iadd hx hb dL_law_570 ?_
    refine va_sld hx hb hX hbl hbA hW.2 (hin 1 (by decide) (by decide)) dL_law_571 ?_
    refine lv_aload_n hx hb dL_law_572 rfl (lv_at hl 0 rfl) ?_
    refine lv_iload_n hx hb dL_law_573 rfl (lv_at hl 3 rfl) ?_
    refine lv_iconst (v := 2) hx hb dL_law_574 (by decide) ?_
    refine lv_iadd hx hb dL_law_575 ?_
    refine va_sld hx hb hX hbl hbA hW.2 (hin 2 (by decide) (by decide)) dL_law_576 ?_
    refine lv_aload_n hx hb dL_law_577 rfl (lv_at hl 0 rfl) ?_
    refine lv_iload_n hx hb dL_law_578 rfl (lv_at hl 3 rfl) ?_
    refine lv_iconst (v := 3) hx hb dL_law_579 (by decide) ?_
    refine lv_iadd hx hb dL_law_580 ?_
    refine va_sld hx hb hX hbl hbA hW.2 (hin 3 (by decide) (by decide)) dL_law_581 ?_
    refine lv_aload_n hx hb dL_law_582 rfl (lv_at hl 0 rfl) ?_
    refine lv_iload_n hx hb dL_law_583 rfl (lv_at hl 3 rfl) ?_
    refine lv_iconst (v := 4) hx hb dL_law_584 (by decide) ?_
    refine lv_iadd hx hb dL_law_585 ?_
    refine va_sld hx hb hX hbl hbA hW.2 (hin 4 (by decide) (by decide)) dL_law_586 ?_
    refine lv_if_eq (tgt := 594) hx hb dL_law_587 (by decide) (fun q => absurd q cz) (fun _ => ?_)
    refine lv_iconst (v := 1) hx hb dL_law_590 (by decide) ?_
    refine lv_goto (tgt := 595) hx hb dL_law_591 (by decide) ?_
    refine wz_rI (c' := cells + 0) (s' := slots + 0) hW (wz_runV (rest := [.int r]) C hW lVL_62 (ck h2).1 rfl (ctX10_way l G y (xs (i3 + 1).toNatClampNeg) (xs (i3 + 2).toNatClampNeg) (xs (i3 + 3).toNatClampNeg) 1 z1 h2) ⟨⟨rfl, rfl⟩, Nat.le_of_ble_eq_true rfl, Nat.le_of_ble_eq_true rfl⟩ rfl hl.1 rfl (Nat.le_of_ble_eq_true rfl) dL_law_595 ⟨by show cells + _ ≤ 600000; omega, by show slots + _ ≤ 7302250; omega⟩) rfl rfl (fun H locs hW => ?_)
    refine lv_icmp_eq (tgt := 1341) hx hb dL_law_598 (by decide) (fun _ => ?_) (fun q => absurd rfl q)
    refine W.widen (k := cells + 15) (n := slots + 140) (by omega) (by omega) ?_
    exact kk _ _ _ hI2 hW
set_option maxHeartbeats 4000000 in
set_option maxRecDepth 100000 in
theorem lwc_11 {p : Program} {l : Launch} {e : Env} {s : State} {m : MethodId} {below : List Frame} {meth : Method} {c : Code} {G : GW} {b L : Nat} {xs : Nat → Int32} {Q : State → Prop} {cells slots : Nat} (C : Cx p m c code 4 s #[Value.ref b] RLw G) (hX : va_X b L xs s s.heap) (hbl : b < s.heap.size) (hbA : ¬ AA G b) {Inv : AH → Prop} {x y : Nat} (hS : St_married Inv x y) {i3 : Int32} (hin : ∀ k : Int32, 0 ≤ k → k ≤ 5 → vp_in (i3 + k) L) {z : AH} (hI : Inv z) {H : Heap} {locs : List Loc} {ls : Array Slot} (hW : Wb G z s H locs) (hl : lv_has ls 4 [(0, .ref b), (1, .ref (gB G + x)), (2, .ref (gB G + y)), (3, .int i3)]) (hf : cells + 15 ≤ 600000 ∧ slots + 140 ≤ 7302250) (kk : ∀ (z2 : AH) (H : Heap) (locs : List Loc), Inv z2 → Wb G z2 s H locs → W p l e room_1 s m #[Value.ref b] below meth c H locs (cells + 15) (slots + 140) Q (F0 m 1341 ls [])) : W p l e room_1 s m #[Value.ref b] below meth c H locs cells slots Q (F0 m 603 ls []) := by
  have hx := C.1
  have hb := C.2.1
  by_cases cz : (xs (i3 + 3).toNatClampNeg) = 0
  · obtain ⟨r, z1, z2, h1, h2, hI2⟩ := hS z hI (xs (i3 + 1).toNatClampNeg) (xs (i3 + 2).toNatClampNeg) 0 (Or.inl rfl)
    refine lv_aload_n hx hb dL_law_603 rfl (lv_at hl 1 rfl) ?_
    refine lv_aload_n hx hb dL_law_604 rfl (lv_at hl 0 rfl) ?_
    refine lv_iload_n hx hb dL_law_605 rfl (lv_at hl 3 rfl) ?_
    refine lv_iconst (v := 1) hx hb dL_law_606 (by decide) ?_
    refine lv_iadd hx hb dL_law_607 ?_
    refine va_sld hx hb hX hbl hbA hW.2 (hin 1 (by decide) (by decide)) dL_law_608 ?_
    refine lv_aload_n hx hb dL_law_609 rfl (lv_at hl 0 rfl) ?_
    refine lv_iload_n hx hb dL_law_610 rfl (lv_at hl 3 rfl) ?_
    refine lv_iconst (v := 2) hx hb dL_law_611 (by decide) ?_
    refine lv_iadd hx hb dL_law_612 ?_
    refine va_sld hx hb hX hbl hbA hW.2 (hin 2 (by decide) (by decide)) dL_law_613 ?_
    refine lv_aload_n hx hb dL_law_614 rfl (lv_at hl 0 rfl) ?_
    refine lv_iload_n hx hb dL_law_615 rfl (lv_at hl 3 rfl) ?_
    refine lv_iconst (v := 3) hx hb dL_law_616 (by decide) ?_
    refine lv_iadd hx hb dL_law_617 ?_
    refine va_sld hx hb hX hbl hbA hW.2 (hin 3 (by decide) (by decide)) dL_law_618 ?_
    refine lv_if_eq (tgt := 626) hx hb dL_law_619 (by decide) (fun _ => ?_) (fun q => absurd cz q)
    refine lv_iconst (v := 0) hx hb dL_law_626 (by decide) ?_
    refine wz_rI (c' := cells + 0) (s' := slots + 0) hW (wz_runV (rest := []) C hW lVL_63 (ck h1).1 rfl (ctX9_married l G x (xs (i3 + 1).toNatClampNeg) (xs (i3 + 2).toNatClampNeg) 0 z h1) ⟨⟨rfl, rfl⟩, Nat.le_of_ble_eq_true rfl, Nat.le_of_ble_eq_true rfl⟩ rfl hl.1 rfl (Nat.le_of_ble_eq_true rfl) dL_law_627 ⟨by show cells + _ ≤ 600000; omega, by show slots + _ ≤ 7302250; omega⟩) rfl rfl (fun H locs hW => ?_)
    refine lv_aload_n hx hb dL_law_630 rfl (lv_at hl 2 rfl) ?_
    refine lv_aload_n hx hb dL_law_631 rfl (lv_at hl 0 rfl) ?_
    refine lv_iload_n hx hb dL_law_632 rfl (lv_at hl 3 rfl) ?_
    refine lv_iconst (v := 1) hx hb dL_law_633 (by decide) ?_
    refine lv_iadd hx hb dL_law_634 ?_
    refine va_sld hx hb hX hbl hbA hW.2 (hin 1 (by decide) (by decide)) dL_law_635 ?_
    refine lv_aload_n hx hb dL_law_636 rfl (lv_at hl 0 rfl) ?_
    refine lv_iload_n hx hb dL_law_637 rfl (lv_at hl 3 rfl) ?_
    refine lv_iconst (v := 2) hx hb dL_law_638 (by decide) ?_
    refine lv_iadd hx hb dL_law_639 ?_
    refine va_sld hx hb hX hbl hbA hW.2 (hin 2 (by decide) (by decide)) dL_law_640 ?_
    refine lv_aload_n hx hb dL_law_641 rfl (lv_at hl 0 rfl) ?_
    refine lv_iload_n hx hb dL_law_642 rfl (lv_at hl 3 rfl) ?_
    refine lv_iconst (v := 3) hx hb dL_law_643 (by decide) ?_
    refine lv_iadd hx hb dL_law_644 ?_
    refine va_sld hx hb hX hbl hbA hW.2 (hin 3 (by decide) (by decide)) dL_law_645 ?_
    refine lv_if_eq (tgt := 653) hx hb dL_law_646 (by decide) (fun _ => ?_) (fun q => absurd cz q)
    refine lv_iconst (v := 0) hx hb dL_law_653 (by decide) ?_
    refine wz_rI (c' := cells + 0) (s' := slots + 0) hW (wz_runV (rest := [.int r]) C hW lVL_67 (ck h2).1 rfl (ctX10_married l G y (xs (i3 + 1).toNatClampNeg) (xs (i3 + 2).toNatClampNeg) 0 z1 h2) ⟨⟨rfl, rfl⟩, Nat.le_of_ble_eq_true rfl, Nat.le_of_ble_eq_true rfl⟩ rfl hl.1 rfl (Nat.le_of_ble_eq_true rfl) dL_law_654 ⟨by show cells + _ ≤ 600000; omega, by show slots + _ ≤ 7302250; omega⟩) rfl rfl (fun H locs hW => ?_)
    refine lv_icmp_eq (tgt := 1341) hx hb dL_law_657 (by decide) (fun _ => ?_) (fun q => absurd rfl q)
    refine W.widen (k := cells + 15) (n := slots + 140) (by omega) (by omega) ?_
    exact kk _ _ _ hI2 hW
  · obtain ⟨r, z1, z2, h1, h2, hI2⟩ := hS z hI (xs (i3 + 1).toNatClampNeg) (xs (i3 + 2).toNatClampNeg) 1 (Or.inr rfl)
    refine lv_aload_n hx hb dL_law_603 rfl (lv_at hl 1 rfl) ?_
    refine lv_aload_n hx hb dL_law_604 rfl (lv_at hl 0 rfl) ?_
    refine lv_iload_n hx hb dL_law_605 rfl (lv_at hl 3 rfl) ?_
    refine lv_iconst (v := 1) hx hb dL_law_606 (by decide) ?_
    refine lv_iadd hx hb dL_law_607 ?_
    refine va_sld hx hb hX hbl hbA hW.2 (hin 1 (by decide) (by decide)) dL_law_608 ?_
    refine lv_aload_n hx hb dL_law_609 rfl (lv_at hl 0 rfl) ?_
    refine lv_iload_n hx hb dL_law_610 rfl (lv_at hl 3 rfl) ?_
    refine lv_iconst (v := 2) hx hb dL_law_611 (by decide) ?_
    refine lv_iadd hx hb dL_law_612 ?_
    refine va_sld hx hb hX hbl hbA hW.2 (hin 2 (by decide) (by decide)) dL_law_613 ?_
    refine lv_aload_n hx hb dL_law_614 rfl (lv_at hl 0 rfl) ?_
    refine lv_iload_n hx hb dL_law_615 rfl (lv_at hl 3 rfl) ?_
    refine lv_iconst (v := 3) hx hb dL_law_616 (by decide) ?_
    refine lv_iadd hx hb dL_law_617 ?_
    refine va_sld hx hb hX hbl hbA hW.2 (hin 3 (by decide) (by decide)) dL_law_618 ?_
    refine lv_if_eq (tgt := 626) hx hb dL_law_619 (by decide) (fun q => absurd q cz) (fun _ => ?_)
    refine lv_iconst (v := 1) hx hb dL_law_622 (by decide) ?_
    refine lv_goto (tgt := 627) hx hb dL_law_623 (by decide) ?_
    refine wz_rI (c' := cells + 0) (s' := slots + 0) hW (wz_runV (rest := []) C hW lVL_63 (ck h1).1 rfl (ctX9_married l G x (xs (i3 + 1).toNatClampNeg) (xs (i3 + 2).toNatClampNeg) 1 z h1) ⟨⟨rfl, rfl⟩, Nat.le_of_ble_eq_true rfl, Nat.le_of_ble_eq_true rfl⟩ rfl hl.1 rfl (Nat.le_of_ble_eq_true rfl) dL_law_627 ⟨by show cells + _ ≤ 600000; omega, by show slots + _ ≤ 7302250; omega⟩) rfl rfl (fun H locs hW => ?_)
    refine lv_aload_n hx hb dL_law_630 rfl (lv_at hl 2 rfl) ?_
    refine lv_aload_n hx hb dL_law_631 rfl (lv_at hl 0 rfl) ?_
    refine lv_iload_n hx hb dL_law_632 rfl (lv_at hl 3 rfl) ?_
    refine lv_iconst (v := 1) hx hb dL_law_633 (by decide) ?_
    refine lv_iadd hx hb dL_law_634 ?_
    refine va_sld hx hb hX hbl hbA hW.2 (hin 1 (by decide) (by decide)) dL_law_635 ?_
    refine lv_aload_n hx hb dL_law_636 rfl (lv_at hl 0 rfl) ?_
    refine lv_iload_n hx hb dL_law_637 rfl (lv_at hl 3 rfl) ?_
    refine lv_iconst (v := 2) hx hb dL_law_638 (by decide) ?_
    refine lv_iadd hx hb dL_law_639 ?_
    refine va_sld hx hb hX hbl hbA hW.2 (hin 2 (by decide) (by decide)) dL_law_640 ?_
    refine lv_aload_n hx hb dL_law_641 rfl (lv_at hl 0 rfl) ?_
    refine lv_iload_n hx hb dL_law_642 rfl (lv_at hl 3 rfl) ?_
    refine lv_iconst (v := 3) hx hb dL_law_643 (by decide) ?_
    refine lv_iadd hx hb dL_law_644 ?_
    refine va_sld hx hb hX hbl hbA hW.2 (hin 3 (by decide) (by decide)) dL_law_645 ?_
    refine lv_if_eq (tgt := 653) hx hb dL_law_646 (by decide) (fun q => absurd q cz) (fun _ => ?_)
    refine lv_iconst (v := 1) hx hb dL_law_649 (by decide) ?_
    refine lv_goto (tgt := 654) hx hb dL_law_650 (by decide) ?_
    refine wz_rI (c' := cells + 0) (s' := slots + 0) hW (wz_runV (rest := [.int r]) C hW lVL_67 (ck h2).1 rfl (ctX10_married l G y (xs (i3 + 1).toNatClampNeg) (xs (i3 + 2).toNatClampNeg) 1 z1 h2) ⟨⟨rfl, rfl⟩, Nat.le_of_ble_eq_true rfl, Nat.le_of_ble_eq_true rfl⟩ rfl hl.1 rfl (Nat.le_of_ble_eq_true rfl) dL_law_654 ⟨by show cells + _ ≤ 600000; omega, by show slots + _ ≤ 7302250; omega⟩) rfl rfl (fun H locs hW => ?_)
    refine lv_icmp_eq (tgt := 1341) hx hb dL_law_657 (by decide) (fun _ => ?_) (fun q => absurd rfl q)
    refine W.widen (k := cells + 15) (n := slots + 140) (by omega) (by omega) ?_
    exact kk _ _ _ hI2 hW
set_option maxHeartbeats 4000000 in
set_option maxRecDepth 100000 in
theorem lwc_12 {p : Program} {l : Launch} {e : Env} {s : State} {m : MethodId} {below : List Frame} {meth : Method} {c : Code} {G : GW} {b L : Nat} {xs : Nat → Int32} {Q : State → Prop} {cells slots : Nat} (C : Cx p m c code 4 s #[Value.ref b] RLw G) (hX : va_X b L xs s s.heap) (hbl : b < s.heap.size) (hbA : ¬ AA G b) {Inv : AH → Prop} {x y : Nat} (hS : St_unhappy Inv x y) {i3 : Int32} (hin : ∀ k : Int32, 0 ≤ k → k ≤ 5 → vp_in (i3 + k) L) {z : AH} (hI : Inv z) {H : Heap} {locs : List Loc} {ls : Array Slot} (hW : Wb G z s H locs) (hl : lv_has ls 4 [(0, .ref b), (1, .ref (gB G + x)), (2, .ref (gB G + y)), (3, .int i3)]) (hf : cells + 15 ≤ 600000 ∧ slots + 140 ≤ 7302250) (kk : ∀ (z2 : AH) (H : Heap) (locs : List Loc), Inv z2 → Wb G z2 s H locs → W p l e room_1 s m #[Value.ref b] below meth c H locs (cells + 15) (slots + 140) Q (F0 m 1341 ls [])) : W p l e room_1 s m #[Value.ref b] below meth c H locs cells slots Q (F0 m 662 ls []) := by
  have hx := C.1
  have hb := C.2.1
  obtain ⟨r, z1, z2, h1, h2, hI2⟩ := hS z hI (xs (i3 + 1).toNatClampNeg)
  refine lv_aload_n hx hb dL_law_662 rfl (lv_at hl 1 rfl) ?_
  refine lv_aload_n hx hb dL_law_663 rfl (lv_at hl 0 rfl) ?_
  refine lv_iload_n hx hb dL_law_664 rfl (lv_at hl 3 rfl) ?_
  refine lv_iconst (v := 1) hx hb dL_law_665 (by decide) ?_
  refine lv_iadd hx hb dL_law_666 ?_
  refine va_sld hx hb hX hbl hbA hW.2 (hin 1 (by decide) (by decide)) dL_law_667 ?_
  refine wz_rI (c' := cells + 0) (s' := slots + 0) hW (wz_runV (rest := []) C hW lVL_68 (ck h1).1 rfl (ctX9_unhappy l G x (xs (i3 + 1).toNatClampNeg) z h1) ⟨⟨rfl, rfl⟩, Nat.le_of_ble_eq_true rfl, Nat.le_of_ble_eq_true rfl⟩ rfl hl.1 rfl (Nat.le_of_ble_eq_true rfl) dL_law_668 ⟨by show cells + _ ≤ 600000; omega, by show slots + _ ≤ 7302250; omega⟩) rfl rfl (fun H locs hW => ?_)
  refine lv_aload_n hx hb dL_law_671 rfl (lv_at hl 2 rfl) ?_
  refine lv_aload_n hx hb dL_law_672 rfl (lv_at hl 0 rfl) ?_
  refine lv_iload_n hx hb dL_law_673 rfl (lv_at hl 3 rfl) ?_
  refine lv_iconst (v := 1) hx hb dL_law_674 (by decide) ?_
  refine lv_iadd hx hb dL_law_675 ?_
  refine va_sld hx hb hX hbl hbA hW.2 (hin 1 (by decide) (by decide)) dL_law_676 ?_
  refine wz_rI (c' := cells + 0) (s' := slots + 0) hW (wz_runV (rest := [.int r]) C hW lVL_71 (ck h2).1 rfl (ctX10_unhappy l G y (xs (i3 + 1).toNatClampNeg) z1 h2) ⟨⟨rfl, rfl⟩, Nat.le_of_ble_eq_true rfl, Nat.le_of_ble_eq_true rfl⟩ rfl hl.1 rfl (Nat.le_of_ble_eq_true rfl) dL_law_677 ⟨by show cells + _ ≤ 600000; omega, by show slots + _ ≤ 7302250; omega⟩) rfl rfl (fun H locs hW => ?_)
  refine lv_icmp_eq (tgt := 1341) hx hb dL_law_680 (by decide) (fun _ => ?_) (fun q => absurd rfl q)
  refine W.widen (k := cells + 15) (n := slots + 140) (by omega) (by omega) ?_
  exact kk _ _ _ hI2 hW
set_option maxHeartbeats 4000000 in
set_option maxRecDepth 100000 in
theorem lwc_13 {p : Program} {l : Launch} {e : Env} {s : State} {m : MethodId} {below : List Frame} {meth : Method} {c : Code} {G : GW} {b L : Nat} {xs : Nat → Int32} {Q : State → Prop} {cells slots : Nat} (C : Cx p m c code 4 s #[Value.ref b] RLw G) (hX : va_X b L xs s s.heap) (hbl : b < s.heap.size) (hbA : ¬ AA G b) {Inv : AH → Prop} {x y : Nat} (hS : St_agree Inv x y) {i3 : Int32} (hin : ∀ k : Int32, 0 ≤ k → k ≤ 5 → vp_in (i3 + k) L) {z : AH} (hI : Inv z) {H : Heap} {locs : List Loc} {ls : Array Slot} (hW : Wb G z s H locs) (hl : lv_has ls 4 [(0, .ref b), (1, .ref (gB G + x)), (2, .ref (gB G + y)), (3, .int i3)]) (hf : cells + 15 ≤ 600000 ∧ slots + 140 ≤ 7302250) (kk : ∀ (z2 : AH) (H : Heap) (locs : List Loc), Inv z2 → Wb G z2 s H locs → W p l e room_1 s m #[Value.ref b] below meth c H locs (cells + 15) (slots + 140) Q (F0 m 1341 ls [])) : W p l e room_1 s m #[Value.ref b] below meth c H locs cells slots Q (F0 m 685 ls []) := by
  have hx := C.1
  have hb := C.2.1
  by_cases cz : (xs (i3 + 5).toNatClampNeg) = 0
  · obtain ⟨r, z2, h1, h2, hI2⟩ := hS z hI (xs (i3 + 1).toNatClampNeg) (xs (i3 + 2).toNatClampNeg) (xs (i3 + 3).toNatClampNeg) (xs (i3 + 4).toNatClampNeg) 0 (Or.inl rfl)
    refine lv_aload_n hx hb dL_law_685 rfl (lv_at hl 1 rfl) ?_
    refine lv_aload_n hx hb dL_law_686 rfl (lv_at hl 0 rfl) ?_
    refine lv_iload_n hx hb dL_law_687 rfl (lv_at hl 3 rfl) ?_
    refine lv_iconst (v := 1) hx hb dL_law_688 (by decide) ?_
    refine lv_iadd hx hb dL_law_689 ?_
    refine va_sld hx hb hX hbl hbA hW.2 (hin 1 (by decide) (by decide)) dL_law_690 ?_
    refine lv_aload_n hx hb dL_law_691 rfl (lv_at hl 0 rfl) ?_
    refine lv_iload_n hx hb dL_law_692 rfl (lv_at hl 3 rfl) ?_
    refine lv_iconst (v := 2) hx hb dL_law_693 (by decide) ?_
    refine lv_iadd hx hb dL_law_694 ?_
    refine va_sld hx hb hX hbl hbA hW.2 (hin 2 (by decide) (by decide)) dL_law_695 ?_
    refine lv_aload_n hx hb dL_law_696 rfl (lv_at hl 0 rfl) ?_
    refine lv_iload_n hx hb dL_law_697 rfl (lv_at hl 3 rfl) ?_
    refine lv_iconst (v := 3) hx hb dL_law_698 (by decide) ?_
    refine lv_iadd hx hb dL_law_699 ?_
    refine va_sld hx hb hX hbl hbA hW.2 (hin 3 (by decide) (by decide)) dL_law_700 ?_
    refine lv_aload_n hx hb dL_law_701 rfl (lv_at hl 0 rfl) ?_
    refine lv_iload_n hx hb dL_law_702 rfl (lv_at hl 3 rfl) ?_
    refine lv_iconst (v := 4) hx hb dL_law_703 (by decide) ?_
    refine lv_iadd hx hb dL_law_704 ?_
    refine va_sld hx hb hX hbl hbA hW.2 (hin 4 (by decide) (by decide)) dL_law_705 ?_
    refine lv_aload_n hx hb dL_law_706 rfl (lv_at hl 0 rfl) ?_
    refine lv_iload_n hx hb dL_law_707 rfl (lv_at hl 3 rfl) ?_
    refine lv_iconst (v := 5) hx hb dL_law_708 (by decide) ?_
    refine lv_iadd hx hb dL_law_709 ?_
    refine va_sld hx hb hX hbl hbA hW.2 (hin 5 (by decide) (by decide)) dL_law_710 ?_
    refine lv_if_eq (tgt := 718) hx hb dL_law_711 (by decide) (fun _ => ?_) (fun q => absurd cz q)
    refine lv_iconst (v := 0) hx hb dL_law_718 (by decide) ?_
    refine wz_rI (c' := cells + 0) (s' := slots + 0) hW (wz_runV (rest := []) C hW lVL_72 (ck h1).1 rfl (ctX9_agree l G x (xs (i3 + 1).toNatClampNeg) (xs (i3 + 2).toNatClampNeg) (xs (i3 + 3).toNatClampNeg) (xs (i3 + 4).toNatClampNeg) 0 z h1) ⟨⟨rfl, rfl⟩, Nat.le_of_ble_eq_true rfl, Nat.le_of_ble_eq_true rfl⟩ rfl hl.1 rfl (Nat.le_of_ble_eq_true rfl) dL_law_719 ⟨by show cells + _ ≤ 600000; omega, by show slots + _ ≤ 7302250; omega⟩) rfl rfl (fun H locs hW => ?_)
    refine lv_aload_n hx hb dL_law_722 rfl (lv_at hl 2 rfl) ?_
    refine lv_aload_n hx hb dL_law_723 rfl (lv_at hl 0 rfl) ?_
    refine lv_iload_n hx hb dL_law_724 rfl (lv_at hl 3 rfl) ?_
    refine lv_iconst (v := 1) hx hb dL_law_725 (by decide) ?_
    refine lv_iadd hx hb dL_law_726 ?_
    refine va_sld hx hb hX hbl hbA hW.2 (hin 1 (by decide) (by decide)) dL_law_727 ?_
    refine lv_aload_n hx hb dL_law_728 rfl (lv_at hl 0 rfl) ?_
    refine lv_iload_n hx hb dL_law_729 rfl (lv_at hl 3 rfl) ?_
    refine lv_iconst (v := 2) hx hb dL_law_730 (by decide) ?_
    refine lv_iadd hx hb dL_law_731 ?_
    refine va_sld hx hb hX hbl hbA hW.2 (hin 2 (by decide) (by decide)) dL_law_732 ?_
    refine lv_aload_n hx hb dL_law_733 rfl (lv_at hl 0 rfl) ?_
    refine lv_iload_n hx hb dL_law_734 rfl (lv_at hl 3 rfl) ?_
    refine lv_iconst (v := 3) hx hb dL_law_735 (by decide) ?_
    refine lv_iadd hx hb dL_law_736 ?_
    refine va_sld hx hb hX hbl hbA hW.2 (hin 3 (by decide) (by decide)) dL_law_737 ?_
    refine lv_aload_n hx hb dL_law_738 rfl (lv_at hl 0 rfl) ?_
    refine lv_iload_n hx hb dL_law_739 rfl (lv_at hl 3 rfl) ?_
    refine lv_iconst (v := 4) hx hb dL_law_740 (by decide) ?_
    refine lv_iadd hx hb dL_law_741 ?_
    refine va_sld hx hb hX hbl hbA hW.2 (hin 4 (by decide) (by decide)) dL_law_742 ?_
    refine lv_aload_n hx hb dL_law_743 rfl (lv_at hl 0 rfl) ?_
    refine lv_iload_n hx hb dL_law_744 rfl (lv_at hl 3 rfl) ?_
    refine lv_iconst (v := 5) hx hb dL_law_745 (by decide) ?_
    refine lv_iadd hx hb dL_law_746 ?_
    refine va_sld hx hb hX hbl hbA hW.2 (hin 5 (by decide) (by decide)) dL_law_747 ?_
    refine lv_if_eq (tgt := 755) hx hb dL_law_748 (by decide) (fun _ => ?_) (fun q => absurd cz q)
    refine lv_iconst (v := 0) hx hb dL_law_755 (by decide) ?_
    refine wz_rI (c' := cells + 0) (s' := slots + 0) hW (wz_runV (rest := [.int r]) C hW lVL_76 (ck h2).1 rfl (ctX10_agree l G y (xs (i3 + 1).toNatClampNeg) (xs (i3 + 2).toNatClampNeg) (xs (i3 + 3).toNatClampNeg) (xs (i3 + 4).toNatClampNeg) 0 z h2) ⟨⟨rfl, rfl⟩, Nat.le_of_ble_eq_true rfl, Nat.le_of_ble_eq_true rfl⟩ rfl hl.1 rfl (Nat.le_of_ble_eq_true rfl) dL_law_756 ⟨by show cells + _ ≤ 600000; omega, by show slots + _ ≤ 7302250; omega⟩) rfl rfl (fun H locs hW => ?_)
    refine lv_icmp_eq (tgt := 1341) hx hb dL_law_759 (by decide) (fun _ => ?_) (fun q => absurd rfl q)
    refine W.widen (k := cells + 15) (n := slots + 140) (by omega) (by omega) ?_
    exact kk _ _ _ hI2 hW
  · obtain ⟨r, z2, h1, h2, hI2⟩ := hS z hI (xs (i3 + 1).toNatClampNeg) (xs (i3 + 2).toNatClampNeg) (xs (i3 + 3).toNatClampNeg) (xs (i3 + 4).toNatClampNeg) 1 (Or.inr rfl)
    refine lv_aload_n hx hb dL_law_685 rfl (lv_at hl 1 rfl) ?_
    refine lv_aload_n hx hb dL_law_686 rfl (lv_at hl 0 rfl) ?_
    refine lv_iload_n hx hb dL_law_687 rfl (lv_at hl 3 rfl) ?_
    refine lv_iconst (v := 1) hx hb dL_law_688 (by decide) ?_
    refine lv_iadd hx hb dL_law_689 ?_
    refine va_sld hx hb hX hbl hbA hW.2 (hin 1 (by decide) (by decide)) dL_law_690 ?_
    refine lv_aload_n hx hb dL_law_691 rfl (lv_at hl 0 rfl) ?_
    refine lv_iload_n hx hb dL_law_692 rfl (lv_at hl 3 rfl) ?_
    refine lv_iconst (v := 2) hx hb dL_law_693 (by decide) ?_
    refine lv_iadd hx hb dL_law_694 ?_
    refine va_sld hx hb hX hbl hbA hW.2 (hin 2 (by decide) (by decide)) dL_law_695 ?_
    refine lv_aload_n hx hb dL_law_696 rfl (lv_at hl 0 rfl) ?_
    refine lv_iload_n hx hb dL_law_697 rfl (lv_at hl 3 rfl) ?_
    refine lv_iconst (v := 3) hx hb dL_law_698 (by decide) ?_
    refine lv_iadd hx hb dL_law_699 ?_
    refine va_sld hx hb hX hbl hbA hW.2 (hin 3 (by decide) (by decide)) dL_law_700 ?_
    refine lv_aload_n hx hb dL_law_701 rfl (lv_at hl 0 rfl) ?_
    refine lv_iload_n hx hb dL_law_702 rfl (lv_at hl 3 rfl) ?_
    refine lv_iconst (v := 4) hx hb dL_law_703 (by decide) ?_
    refine lv_iadd hx hb dL_law_704 ?_
    refine va_sld hx hb hX hbl hbA hW.2 (hin 4 (by decide) (by decide)) dL_law_705 ?_
    refine lv_aload_n hx hb dL_law_706 rfl (lv_at hl 0 rfl) ?_
    refine lv_iload_n hx hb dL_law_707 rfl (lv_at hl 3 rfl) ?_
    refine lv_iconst (v := 5) hx hb dL_law_708 (by decide) ?_
    refine lv_iadd hx hb dL_law_709 ?_
    refine va_sld hx hb hX hbl hbA hW.2 (hin 5 (by decide) (by decide)) dL_law_710 ?_
    refine lv_if_eq (tgt := 718) hx hb dL_law_711 (by decide) (fun q => absurd q cz) (fun _ => ?_)
    refine lv_iconst (v := 1) hx hb dL_law_714 (by decide) ?_
    refine lv_goto (tgt := 719) hx hb dL_law_715 (by decide) ?_
    refine wz_rI (c' := cells + 0) (s' := slots + 0) hW (wz_runV (rest := []) C hW lVL_72 (ck h1).1 rfl (ctX9_agree l G x (xs (i3 + 1).toNatClampNeg) (xs (i3 + 2).toNatClampNeg) (xs (i3 + 3).toNatClampNeg) (xs (i3 + 4).toNatClampNeg) 1 z h1) ⟨⟨rfl, rfl⟩, Nat.le_of_ble_eq_true rfl, Nat.le_of_ble_eq_true rfl⟩ rfl hl.1 rfl (Nat.le_of_ble_eq_true rfl) dL_law_719 ⟨by show cells + _ ≤ 600000; omega, by show slots + _ ≤ 7302250; omega⟩) rfl rfl (fun H locs hW => ?_)
    refine lv_aload_n hx hb dL_law_722 rfl (lv_at hl 2 rfl) ?_
    refine lv_aload_n hx hb dL_law_723 rfl (lv_at hl 0 rfl) ?_
    refine lv_iload_n hx hb dL_law_724 rfl (lv_at hl 3 rfl) ?_
    refine lv_iconst (v := 1) hx hb dL_law_725 (by decide) ?_
    refine lv_iadd hx hb dL_law_726 ?_
    refine va_sld hx hb hX hbl hbA hW.2 (hin 1 (by decide) (by decide)) dL_law_727 ?_
    refine lv_aload_n hx hb dL_law_728 rfl (lv_at hl 0 rfl) ?_
    refine lv_iload_n hx hb dL_law_729 rfl (lv_at hl 3 rfl) ?_
    refine lv_iconst (v := 2) hx hb dL_law_730 (by decide) ?_
    refine lv_iadd hx hb dL_law_731 ?_
    refine va_sld hx hb hX hbl hbA hW.2 (hin 2 (by decide) (by decide)) dL_law_732 ?_
    refine lv_aload_n hx hb dL_law_733 rfl (lv_at hl 0 rfl) ?_
    refine lv_iload_n hx hb dL_law_734 rfl (lv_at hl 3 rfl) ?_
    refine lv_iconst (v := 3) hx hb dL_law_735 (by decide) ?_
    refine lv_iadd hx hb dL_law_736 ?_
    refine va_sld hx hb hX hbl hbA hW.2 (hin 3 (by decide) (by decide)) dL_law_737 ?_
    refine lv_aload_n hx hb dL_law_738 rfl (lv_at hl 0 rfl) ?_
    refine lv_iload_n hx hb dL_law_739 rfl (lv_at hl 3 rfl) ?_
    refine lv_iconst (v := 4) hx hb dL_law_740 (by decide) ?_
    refine lv_iadd hx hb dL_law_741 ?_
    refine va_sld hx hb hX hbl hbA hW.2 (hin 4 (by decide) (by decide)) dL_law_742 ?_
    refine lv_aload_n hx hb dL_law_743 rfl (lv_at hl 0 rfl) ?_
    refine lv_iload_n hx hb dL_law_744 rfl (lv_at hl 3 rfl) ?_
    refine lv_iconst (v := 5) hx hb dL_law_745 (by decide) ?_
    refine lv_iadd hx hb dL_law_746 ?_
    refine va_sld hx hb hX hbl hbA hW.2 (hin 5 (by decide) (by decide)) dL_law_747 ?_
    refine lv_if_eq (tgt := 755) hx hb dL_law_748 (by decide) (fun q => absurd q cz) (fun _ => ?_)
    refine lv_iconst (v := 1) hx hb dL_law_751 (by decide) ?_
    refine lv_goto (tgt := 756) hx hb dL_law_752 (by decide) ?_
    refine wz_rI (c' := cells + 0) (s' := slots + 0) hW (wz_runV (rest := [.int r]) C hW lVL_76 (ck h2).1 rfl (ctX10_agree l G y (xs (i3 + 1).toNatClampNeg) (xs (i3 + 2).toNatClampNeg) (xs (i3 + 3).toNatClampNeg) (xs (i3 + 4).toNatClampNeg) 1 z h2) ⟨⟨rfl, rfl⟩, Nat.le_of_ble_eq_true rfl, Nat.le_of_ble_eq_true rfl⟩ rfl hl.1 rfl (Nat.le_of_ble_eq_true rfl) dL_law_756 ⟨by show cells + _ ≤ 600000; omega, by show slots + _ ≤ 7302250; omega⟩) rfl rfl (fun H locs hW => ?_)
    refine lv_icmp_eq (tgt := 1341) hx hb dL_law_759 (by decide) (fun _ => ?_) (fun q => absurd rfl q)
    refine W.widen (k := cells + 15) (n := slots + 140) (by omega) (by omega) ?_
    exact kk _ _ _ hI2 hW
set_option maxHeartbeats 4000000 in
set_option maxRecDepth 100000 in
theorem lwc_14 {p : Program} {l : Launch} {e : Env} {s : State} {m : MethodId} {below : List Frame} {meth : Method} {c : Code} {G : GW} {b L : Nat} {xs : Nat → Int32} {Q : State → Prop} {cells slots : Nat} (C : Cx p m c code 4 s #[Value.ref b] RLw G) (hX : va_X b L xs s s.heap) (hbl : b < s.heap.size) (hbA : ¬ AA G b) {Inv : AH → Prop} {x y : Nat} (hS : St_view Inv x y) {i3 : Int32} (hin : ∀ k : Int32, 0 ≤ k → k ≤ 5 → vp_in (i3 + k) L) {z : AH} (hI : Inv z) {H : Heap} {locs : List Loc} {ls : Array Slot} (hW : Wb G z s H locs) (hl : lv_has ls 4 [(0, .ref b), (1, .ref (gB G + x)), (2, .ref (gB G + y)), (3, .int i3)]) (hf : cells + 15 ≤ 600000 ∧ slots + 140 ≤ 7302250) (kk : ∀ (z2 : AH) (H : Heap) (locs : List Loc), Inv z2 → Wb G z2 s H locs → W p l e room_1 s m #[Value.ref b] below meth c H locs (cells + 15) (slots + 140) Q (F0 m 1341 ls [])) : W p l e room_1 s m #[Value.ref b] below meth c H locs cells slots Q (F0 m 764 ls []) := by
  have hx := C.1
  have hb := C.2.1
  obtain ⟨r, z2, h1, h2, hI2⟩ := hS z hI (xs (i3 + 1).toNatClampNeg) (xs (i3 + 2).toNatClampNeg) (xs (i3 + 3).toNatClampNeg)
  refine lv_aload_n hx hb dL_law_764 rfl (lv_at hl 1 rfl) ?_
  refine lv_aload_n hx hb dL_law_765 rfl (lv_at hl 0 rfl) ?_
  refine lv_iload_n hx hb dL_law_766 rfl (lv_at hl 3 rfl) ?_
  refine lv_iconst (v := 1) hx hb dL_law_767 (by decide) ?_
  refine lv_iadd hx hb dL_law_768 ?_
  refine va_sld hx hb hX hbl hbA hW.2 (hin 1 (by decide) (by decide)) dL_law_769 ?_
  refine lv_aload_n hx hb dL_law_770 rfl (lv_at hl 0 rfl) ?_
  refine lv_iload_n hx hb dL_law_771 rfl (lv_at hl 3 rfl) ?_
  refine lv_iconst (v := 2) hx hb dL_law_772 (by decide) ?_
  refine lv_iadd hx hb dL_law_773 ?_
  refine va_sld hx hb hX hbl hbA hW.2 (hin 2 (by decide) (by decide)) dL_law_774 ?_
  refine lv_aload_n hx hb dL_law_775 rfl (lv_at hl 0 rfl) ?_
  refine lv_iload_n hx hb dL_law_776 rfl (lv_at hl 3 rfl) ?_
  refine lv_iconst (v := 3) hx hb dL_law_777 (by decide) ?_
  refine lv_iadd hx hb dL_law_778 ?_
  refine va_sld hx hb hX hbl hbA hW.2 (hin 3 (by decide) (by decide)) dL_law_779 ?_
  refine wz_rI (c' := cells + 0) (s' := slots + 0) hW (wz_runV (rest := []) C hW lVL_77 (ck h1).1 rfl (ctX9_view l G x (xs (i3 + 1).toNatClampNeg) (xs (i3 + 2).toNatClampNeg) (xs (i3 + 3).toNatClampNeg) z h1) ⟨⟨rfl, rfl⟩, Nat.le_of_ble_eq_true rfl, Nat.le_of_ble_eq_true rfl⟩ rfl hl.1 rfl (Nat.le_of_ble_eq_true rfl) dL_law_780 ⟨by show cells + _ ≤ 600000; omega, by show slots + _ ≤ 7302250; omega⟩) rfl rfl (fun H locs hW => ?_)
  refine lv_aload_n hx hb dL_law_783 rfl (lv_at hl 2 rfl) ?_
  refine lv_aload_n hx hb dL_law_784 rfl (lv_at hl 0 rfl) ?_
  refine lv_iload_n hx hb dL_law_785 rfl (lv_at hl 3 rfl) ?_
  refine lv_iconst (v := 1) hx hb dL_law_786 (by decide) ?_
  refine lv_iadd hx hb dL_law_787 ?_
  refine va_sld hx hb hX hbl hbA hW.2 (hin 1 (by decide) (by decide)) dL_law_788 ?_
  refine lv_aload_n hx hb dL_law_789 rfl (lv_at hl 0 rfl) ?_
  refine lv_iload_n hx hb dL_law_790 rfl (lv_at hl 3 rfl) ?_
  refine lv_iconst (v := 2) hx hb dL_law_791 (by decide) ?_
  refine lv_iadd hx hb dL_law_792 ?_
  refine va_sld hx hb hX hbl hbA hW.2 (hin 2 (by decide) (by decide)) dL_law_793 ?_
  refine lv_aload_n hx hb dL_law_794 rfl (lv_at hl 0 rfl) ?_
  refine lv_iload_n hx hb dL_law_795 rfl (lv_at hl 3 rfl) ?_
  refine lv_iconst (v := 3) hx hb dL_law_796 (by decide) ?_
  refine lv_iadd hx hb dL_law_797 ?_
  refine va_sld hx hb hX hbl hbA hW.2 (hin 3 (by decide) (by decide)) dL_law_798 ?_
  refine wz_rI (c' := cells + 0) (s' := slots + 0) hW (wz_runV (rest := [.int r]) C hW lVL_80 (ck h2).1 rfl (ctX10_view l G y (xs (i3 + 1).toNatClampNeg) (xs (i3 + 2).toNatClampNeg) (xs (i3 + 3).toNatClampNeg) z h2) ⟨⟨rfl, rfl⟩, Nat.le_of_ble_eq_true rfl, Nat.le_of_ble_eq_true rfl⟩ rfl hl.1 rfl (Nat.le_of_ble_eq_true rfl) dL_law_799 ⟨by show cells + _ ≤ 600000; omega, by show slots + _ ≤ 7302250; omega⟩) rfl rfl (fun H locs hW => ?_)
  refine lv_icmp_eq (tgt := 1341) hx hb dL_law_802 (by decide) (fun _ => ?_) (fun q => absurd rfl q)
  refine W.widen (k := cells + 15) (n := slots + 140) (by omega) (by omega) ?_
  exact kk _ _ _ hI2 hW
set_option maxHeartbeats 4000000 in
set_option maxRecDepth 100000 in
theorem lwc_15 {p : Program} {l : Launch} {e : Env} {s : State} {m : MethodId} {below : List Frame} {meth : Method} {c : Code} {G : GW} {b L : Nat} {xs : Nat → Int32} {Q : State → Prop} {cells slots : Nat} (C : Cx p m c code 4 s #[Value.ref b] RLw G) (hX : va_X b L xs s s.heap) (hbl : b < s.heap.size) (hbA : ¬ AA G b) {Inv : AH → Prop} {x y : Nat} (hS : St_fits Inv x y) {i3 : Int32} (hin : ∀ k : Int32, 0 ≤ k → k ≤ 5 → vp_in (i3 + k) L) {z : AH} (hI : Inv z) {H : Heap} {locs : List Loc} {ls : Array Slot} (hW : Wb G z s H locs) (hl : lv_has ls 4 [(0, .ref b), (1, .ref (gB G + x)), (2, .ref (gB G + y)), (3, .int i3)]) (hf : cells + 15 ≤ 600000 ∧ slots + 140 ≤ 7302250) (kk : ∀ (z2 : AH) (H : Heap) (locs : List Loc), Inv z2 → Wb G z2 s H locs → W p l e room_1 s m #[Value.ref b] below meth c H locs (cells + 15) (slots + 140) Q (F0 m 1341 ls [])) : W p l e room_1 s m #[Value.ref b] below meth c H locs cells slots Q (F0 m 807 ls []) := by
  have hx := C.1
  have hb := C.2.1
  obtain ⟨r, z1, z2, h1, h2, hI2⟩ := hS z hI (xs (i3 + 1).toNatClampNeg) (xs (i3 + 2).toNatClampNeg) (xs (i3 + 3).toNatClampNeg)
  refine lv_aload_n hx hb dL_law_807 rfl (lv_at hl 1 rfl) ?_
  refine lv_aload_n hx hb dL_law_808 rfl (lv_at hl 0 rfl) ?_
  refine lv_iload_n hx hb dL_law_809 rfl (lv_at hl 3 rfl) ?_
  refine lv_iconst (v := 1) hx hb dL_law_810 (by decide) ?_
  refine lv_iadd hx hb dL_law_811 ?_
  refine va_sld hx hb hX hbl hbA hW.2 (hin 1 (by decide) (by decide)) dL_law_812 ?_
  refine lv_aload_n hx hb dL_law_813 rfl (lv_at hl 0 rfl) ?_
  refine lv_iload_n hx hb dL_law_814 rfl (lv_at hl 3 rfl) ?_
  refine lv_iconst (v := 2) hx hb dL_law_815 (by decide) ?_
  refine lv_iadd hx hb dL_law_816 ?_
  refine va_sld hx hb hX hbl hbA hW.2 (hin 2 (by decide) (by decide)) dL_law_817 ?_
  refine lv_aload_n hx hb dL_law_818 rfl (lv_at hl 0 rfl) ?_
  refine lv_iload_n hx hb dL_law_819 rfl (lv_at hl 3 rfl) ?_
  refine lv_iconst (v := 3) hx hb dL_law_820 (by decide) ?_
  refine lv_iadd hx hb dL_law_821 ?_
  refine va_sld hx hb hX hbl hbA hW.2 (hin 3 (by decide) (by decide)) dL_law_822 ?_
  refine wz_rI (c' := cells + 0) (s' := slots + 0) hW (wz_runV (rest := []) C hW lVL_81 (ck h1).1 rfl (ctX9_fits l G x (xs (i3 + 1).toNatClampNeg) (xs (i3 + 2).toNatClampNeg) (xs (i3 + 3).toNatClampNeg) z h1) ⟨⟨rfl, rfl⟩, Nat.le_of_ble_eq_true rfl, Nat.le_of_ble_eq_true rfl⟩ rfl hl.1 rfl (Nat.le_of_ble_eq_true rfl) dL_law_823 ⟨by show cells + _ ≤ 600000; omega, by show slots + _ ≤ 7302250; omega⟩) rfl rfl (fun H locs hW => ?_)
  refine lv_aload_n hx hb dL_law_826 rfl (lv_at hl 2 rfl) ?_
  refine lv_aload_n hx hb dL_law_827 rfl (lv_at hl 0 rfl) ?_
  refine lv_iload_n hx hb dL_law_828 rfl (lv_at hl 3 rfl) ?_
  refine lv_iconst (v := 1) hx hb dL_law_829 (by decide) ?_
  refine lv_iadd hx hb dL_law_830 ?_
  refine va_sld hx hb hX hbl hbA hW.2 (hin 1 (by decide) (by decide)) dL_law_831 ?_
  refine lv_aload_n hx hb dL_law_832 rfl (lv_at hl 0 rfl) ?_
  refine lv_iload_n hx hb dL_law_833 rfl (lv_at hl 3 rfl) ?_
  refine lv_iconst (v := 2) hx hb dL_law_834 (by decide) ?_
  refine lv_iadd hx hb dL_law_835 ?_
  refine va_sld hx hb hX hbl hbA hW.2 (hin 2 (by decide) (by decide)) dL_law_836 ?_
  refine lv_aload_n hx hb dL_law_837 rfl (lv_at hl 0 rfl) ?_
  refine lv_iload_n hx hb dL_law_838 rfl (lv_at hl 3 rfl) ?_
  refine lv_iconst (v := 3) hx hb dL_law_839 (by decide) ?_
  refine lv_iadd hx hb dL_law_840 ?_
  refine va_sld hx hb hX hbl hbA hW.2 (hin 3 (by decide) (by decide)) dL_law_841 ?_
  refine wz_rI (c' := cells + 0) (s' := slots + 0) hW (wz_runV (rest := [.int r]) C hW lVL_84 (ck h2).1 rfl (ctX10_fits l G y (xs (i3 + 1).toNatClampNeg) (xs (i3 + 2).toNatClampNeg) (xs (i3 + 3).toNatClampNeg) z1 h2) ⟨⟨rfl, rfl⟩, Nat.le_of_ble_eq_true rfl, Nat.le_of_ble_eq_true rfl⟩ rfl hl.1 rfl (Nat.le_of_ble_eq_true rfl) dL_law_842 ⟨by show cells + _ ≤ 600000; omega, by show slots + _ ≤ 7302250; omega⟩) rfl rfl (fun H locs hW => ?_)
  refine lv_icmp_eq (tgt := 1341) hx hb dL_law_845 (by decide) (fun _ => ?_) (fun q => absurd rfl q)
  refine W.widen (k := cells + 15) (n := slots + 140) (by omega) (by omega) ?_
  exact kk _ _ _ hI2 hW
set_option maxHeartbeats 4000000 in
set_option maxRecDepth 100000 in
theorem lwc_16 {p : Program} {l : Launch} {e : Env} {s : State} {m : MethodId} {below : List Frame} {meth : Method} {c : Code} {G : GW} {b L : Nat} {xs : Nat → Int32} {Q : State → Prop} {cells slots : Nat} (C : Cx p m c code 4 s #[Value.ref b] RLw G) (hX : va_X b L xs s s.heap) (hbl : b < s.heap.size) (hbA : ¬ AA G b) {Inv : AH → Prop} {x y : Nat} (hS : St_fact Inv x y) {i3 : Int32} (hin : ∀ k : Int32, 0 ≤ k → k ≤ 5 → vp_in (i3 + k) L) {z : AH} (hI : Inv z) {H : Heap} {locs : List Loc} {ls : Array Slot} (hW : Wb G z s H locs) (hl : lv_has ls 4 [(0, .ref b), (1, .ref (gB G + x)), (2, .ref (gB G + y)), (3, .int i3)]) (hf : cells + 15 ≤ 600000 ∧ slots + 140 ≤ 7302250) (kk : ∀ (z2 : AH) (H : Heap) (locs : List Loc), Inv z2 → Wb G z2 s H locs → W p l e room_1 s m #[Value.ref b] below meth c H locs (cells + 15) (slots + 140) Q (F0 m 1341 ls [])) : W p l e room_1 s m #[Value.ref b] below meth c H locs cells slots Q (F0 m 850 ls []) := by
  have hx := C.1
  have hb := C.2.1
  obtain ⟨r, z2, h1, h2, hI2⟩ := hS z hI (xs (i3 + 1).toNatClampNeg) (xs (i3 + 2).toNatClampNeg) (xs (i3 + 3).toNatClampNeg)
  refine lv_aload_n hx hb dL_law_850 rfl (lv_at hl 1 rfl) ?_
  refine lv_aload_n hx hb dL_law_851 rfl (lv_at hl 0 rfl) ?_
  refine lv_iload_n hx hb dL_law_852 rfl (lv_at hl 3 rfl) ?_
  refine lv_iconst (v := 1) hx hb dL_law_853 (by decide) ?_
  refine lv_iadd hx hb dL_law_854 ?_
  refine va_sld hx hb hX hbl hbA hW.2 (hin 1 (by decide) (by decide)) dL_law_855 ?_
  refine lv_aload_n hx hb dL_law_856 rfl (lv_at hl 0 rfl) ?_
  refine lv_iload_n hx hb dL_law_857 rfl (lv_at hl 3 rfl) ?_
  refine lv_iconst (v := 2) hx hb dL_law_858 (by decide) ?_
  refine lv_iadd hx hb dL_law_859 ?_
  refine va_sld hx hb hX hbl hbA hW.2 (hin 2 (by decide) (by decide)) dL_law_860 ?_
  refine lv_aload_n hx hb dL_law_861 rfl (lv_at hl 0 rfl) ?_
  refine lv_iload_n hx hb dL_law_862 rfl (lv_at hl 3 rfl) ?_
  refine lv_iconst (v := 3) hx hb dL_law_863 (by decide) ?_
  refine lv_iadd hx hb dL_law_864 ?_
  refine va_sld hx hb hX hbl hbA hW.2 (hin 3 (by decide) (by decide)) dL_law_865 ?_
  refine wz_rI (c' := cells + 0) (s' := slots + 0) hW (wz_runV (rest := []) C hW lVL_85 (ck h1).1 rfl (ctX9_fact l G x (xs (i3 + 1).toNatClampNeg) (xs (i3 + 2).toNatClampNeg) (xs (i3 + 3).toNatClampNeg) z h1) ⟨⟨rfl, rfl⟩, Nat.le_of_ble_eq_true rfl, Nat.le_of_ble_eq_true rfl⟩ rfl hl.1 rfl (Nat.le_of_ble_eq_true rfl) dL_law_866 ⟨by show cells + _ ≤ 600000; omega, by show slots + _ ≤ 7302250; omega⟩) rfl rfl (fun H locs hW => ?_)
  refine lv_aload_n hx hb dL_law_869 rfl (lv_at hl 2 rfl) ?_
  refine lv_aload_n hx hb dL_law_870 rfl (lv_at hl 0 rfl) ?_
  refine lv_iload_n hx hb dL_law_871 rfl (lv_at hl 3 rfl) ?_
  refine lv_iconst (v := 1) hx hb dL_law_872 (by decide) ?_
  refine lv_iadd hx hb dL_law_873 ?_
  refine va_sld hx hb hX hbl hbA hW.2 (hin 1 (by decide) (by decide)) dL_law_874 ?_
  refine lv_aload_n hx hb dL_law_875 rfl (lv_at hl 0 rfl) ?_
  refine lv_iload_n hx hb dL_law_876 rfl (lv_at hl 3 rfl) ?_
  refine lv_iconst (v := 2) hx hb dL_law_877 (by decide) ?_
  refine lv_iadd hx hb dL_law_878 ?_
  refine va_sld hx hb hX hbl hbA hW.2 (hin 2 (by decide) (by decide)) dL_law_879 ?_
  refine lv_aload_n hx hb dL_law_880 rfl (lv_at hl 0 rfl) ?_
  refine lv_iload_n hx hb dL_law_881 rfl (lv_at hl 3 rfl) ?_
  refine lv_iconst (v := 3) hx hb dL_law_882 (by decide) ?_
  refine lv_iadd hx hb dL_law_883 ?_
  refine va_sld hx hb hX hbl hbA hW.2 (hin 3 (by decide) (by decide)) dL_law_884 ?_
  refine wz_rI (c' := cells + 0) (s' := slots + 0) hW (wz_runV (rest := [.int r]) C hW lVL_88 (ck h2).1 rfl (ctX10_fact l G y (xs (i3 + 1).toNatClampNeg) (xs (i3 + 2).toNatClampNeg) (xs (i3 + 3).toNatClampNeg) z h2) ⟨⟨rfl, rfl⟩, Nat.le_of_ble_eq_true rfl, Nat.le_of_ble_eq_true rfl⟩ rfl hl.1 rfl (Nat.le_of_ble_eq_true rfl) dL_law_885 ⟨by show cells + _ ≤ 600000; omega, by show slots + _ ≤ 7302250; omega⟩) rfl rfl (fun H locs hW => ?_)
  refine lv_icmp_eq (tgt := 1341) hx hb dL_law_888 (by decide) (fun _ => ?_) (fun q => absurd rfl q)
  refine W.widen (k := cells + 15) (n := slots + 140) (by omega) (by omega) ?_
  exact kk _ _ _ hI2 hW
set_option maxHeartbeats 4000000 in
set_option maxRecDepth 100000 in
theorem lwc_17 {p : Program} {l : Launch} {e : Env} {s : State} {m : MethodId} {below : List Frame} {meth : Method} {c : Code} {G : GW} {b L : Nat} {xs : Nat → Int32} {Q : State → Prop} {cells slots : Nat} (C : Cx p m c code 4 s #[Value.ref b] RLw G) (hX : va_X b L xs s s.heap) (hbl : b < s.heap.size) (hbA : ¬ AA G b) {Inv : AH → Prop} {x y : Nat} (hS : St_words Inv x y) {i3 : Int32} (hin : ∀ k : Int32, 0 ≤ k → k ≤ 5 → vp_in (i3 + k) L) {z : AH} (hI : Inv z) {H : Heap} {locs : List Loc} {ls : Array Slot} (hW : Wb G z s H locs) (hl : lv_has ls 4 [(0, .ref b), (1, .ref (gB G + x)), (2, .ref (gB G + y)), (3, .int i3)]) (hf : cells + 15 ≤ 600000 ∧ slots + 140 ≤ 7302250) (kk : ∀ (z2 : AH) (H : Heap) (locs : List Loc), Inv z2 → Wb G z2 s H locs → W p l e room_1 s m #[Value.ref b] below meth c H locs (cells + 15) (slots + 140) Q (F0 m 1341 ls [])) : W p l e room_1 s m #[Value.ref b] below meth c H locs cells slots Q (F0 m 893 ls []) := by
  have hx := C.1
  have hb := C.2.1
  obtain ⟨r, z2, h1, h2, hI2⟩ := hS z hI (xs (i3 + 1).toNatClampNeg) (xs (i3 + 2).toNatClampNeg)
  refine lv_aload_n hx hb dL_law_893 rfl (lv_at hl 1 rfl) ?_
  refine lv_aload_n hx hb dL_law_894 rfl (lv_at hl 0 rfl) ?_
  refine lv_iload_n hx hb dL_law_895 rfl (lv_at hl 3 rfl) ?_
  refine lv_iconst (v := 1) hx hb dL_law_896 (by decide) ?_
  refine lv_iadd hx hb dL_law_897 ?_
  refine va_sld hx hb hX hbl hbA hW.2 (hin 1 (by decide) (by decide)) dL_law_898 ?_
  refine lv_aload_n hx hb dL_law_899 rfl (lv_at hl 0 rfl) ?_
  refine lv_iload_n hx hb dL_law_900 rfl (lv_at hl 3 rfl) ?_
  refine lv_iconst (v := 2) hx hb dL_law_901 (by decide) ?_
  refine lv_iadd hx hb dL_law_902 ?_
  refine va_sld hx hb hX hbl hbA hW.2 (hin 2 (by decide) (by decide)) dL_law_903 ?_
  refine wz_rI (c' := cells + 0) (s' := slots + 0) hW (wz_runV (rest := []) C hW lVL_89 (ck h1).1 rfl (ctX9_words l G x (xs (i3 + 1).toNatClampNeg) (xs (i3 + 2).toNatClampNeg) z h1) ⟨⟨rfl, rfl⟩, Nat.le_of_ble_eq_true rfl, Nat.le_of_ble_eq_true rfl⟩ rfl hl.1 rfl (Nat.le_of_ble_eq_true rfl) dL_law_904 ⟨by show cells + _ ≤ 600000; omega, by show slots + _ ≤ 7302250; omega⟩) rfl rfl (fun H locs hW => ?_)
  refine lv_aload_n hx hb dL_law_907 rfl (lv_at hl 2 rfl) ?_
  refine lv_aload_n hx hb dL_law_908 rfl (lv_at hl 0 rfl) ?_
  refine lv_iload_n hx hb dL_law_909 rfl (lv_at hl 3 rfl) ?_
  refine lv_iconst (v := 1) hx hb dL_law_910 (by decide) ?_
  refine lv_iadd hx hb dL_law_911 ?_
  refine va_sld hx hb hX hbl hbA hW.2 (hin 1 (by decide) (by decide)) dL_law_912 ?_
  refine lv_aload_n hx hb dL_law_913 rfl (lv_at hl 0 rfl) ?_
  refine lv_iload_n hx hb dL_law_914 rfl (lv_at hl 3 rfl) ?_
  refine lv_iconst (v := 2) hx hb dL_law_915 (by decide) ?_
  refine lv_iadd hx hb dL_law_916 ?_
  refine va_sld hx hb hX hbl hbA hW.2 (hin 2 (by decide) (by decide)) dL_law_917 ?_
  refine wz_rI (c' := cells + 0) (s' := slots + 0) hW (wz_runV (rest := [.int r]) C hW lVL_92 (ck h2).1 rfl (ctX10_words l G y (xs (i3 + 1).toNatClampNeg) (xs (i3 + 2).toNatClampNeg) z h2) ⟨⟨rfl, rfl⟩, Nat.le_of_ble_eq_true rfl, Nat.le_of_ble_eq_true rfl⟩ rfl hl.1 rfl (Nat.le_of_ble_eq_true rfl) dL_law_918 ⟨by show cells + _ ≤ 600000; omega, by show slots + _ ≤ 7302250; omega⟩) rfl rfl (fun H locs hW => ?_)
  refine lv_icmp_eq (tgt := 1341) hx hb dL_law_921 (by decide) (fun _ => ?_) (fun q => absurd rfl q)
  refine W.widen (k := cells + 15) (n := slots + 140) (by omega) (by omega) ?_
  exact kk _ _ _ hI2 hW
set_option maxHeartbeats 4000000 in
set_option maxRecDepth 100000 in
theorem lwc_18 {p : Program} {l : Launch} {e : Env} {s : State} {m : MethodId} {below : List Frame} {meth : Method} {c : Code} {G : GW} {b L : Nat} {xs : Nat → Int32} {Q : State → Prop} {cells slots : Nat} (C : Cx p m c code 4 s #[Value.ref b] RLw G) (hX : va_X b L xs s s.heap) (hbl : b < s.heap.size) (hbA : ¬ AA G b) {Inv : AH → Prop} {x y : Nat} (hS : St_drawn Inv x y) {i3 : Int32} (hin : ∀ k : Int32, 0 ≤ k → k ≤ 5 → vp_in (i3 + k) L) {z : AH} (hI : Inv z) {H : Heap} {locs : List Loc} {ls : Array Slot} (hW : Wb G z s H locs) (hl : lv_has ls 4 [(0, .ref b), (1, .ref (gB G + x)), (2, .ref (gB G + y)), (3, .int i3)]) (hf : cells + 15 ≤ 600000 ∧ slots + 140 ≤ 7302250) (kk : ∀ (z2 : AH) (H : Heap) (locs : List Loc), Inv z2 → Wb G z2 s H locs → W p l e room_1 s m #[Value.ref b] below meth c H locs (cells + 15) (slots + 140) Q (F0 m 1341 ls [])) : W p l e room_1 s m #[Value.ref b] below meth c H locs cells slots Q (F0 m 926 ls []) := by
  have hx := C.1
  have hb := C.2.1
  obtain ⟨r, z1, z2, h1, h2, hI2⟩ := hS z hI (xs (i3 + 1).toNatClampNeg) (xs (i3 + 2).toNatClampNeg) (xs (i3 + 3).toNatClampNeg) (xs (i3 + 4).toNatClampNeg)
  refine lv_aload_n hx hb dL_law_926 rfl (lv_at hl 1 rfl) ?_
  refine lv_aload_n hx hb dL_law_927 rfl (lv_at hl 0 rfl) ?_
  refine lv_iload_n hx hb dL_law_928 rfl (lv_at hl 3 rfl) ?_
  refine lv_iconst (v := 1) hx hb dL_law_929 (by decide) ?_
  refine lv_iadd hx hb dL_law_930 ?_
  refine va_sld hx hb hX hbl hbA hW.2 (hin 1 (by decide) (by decide)) dL_law_931 ?_
  refine lv_aload_n hx hb dL_law_932 rfl (lv_at hl 0 rfl) ?_
  refine lv_iload_n hx hb dL_law_933 rfl (lv_at hl 3 rfl) ?_
  refine lv_iconst (v := 2) hx hb dL_law_934 (by decide) ?_
  refine lv_iadd hx hb dL_law_935 ?_
  refine va_sld hx hb hX hbl hbA hW.2 (hin 2 (by decide) (by decide)) dL_law_936 ?_
  refine lv_aload_n hx hb dL_law_937 rfl (lv_at hl 0 rfl) ?_
  refine lv_iload_n hx hb dL_law_938 rfl (lv_at hl 3 rfl) ?_
  refine lv_iconst (v := 3) hx hb dL_law_939 (by decide) ?_
  refine lv_iadd hx hb dL_law_940 ?_
  refine va_sld hx hb hX hbl hbA hW.2 (hin 3 (by decide) (by decide)) dL_law_941 ?_
  refine lv_aload_n hx hb dL_law_942 rfl (lv_at hl 0 rfl) ?_
  refine lv_iload_n hx hb dL_law_943 rfl (lv_at hl 3 rfl) ?_
  refine lv_iconst (v := 4) hx hb dL_law_944 (by decide) ?_
  refine lv_iadd hx hb dL_law_945 ?_
  refine va_sld hx hb hX hbl hbA hW.2 (hin 4 (by decide) (by decide)) dL_law_946 ?_
  refine wz_rI (c' := cells + 0) (s' := slots + 0) hW (wz_runV (rest := []) C hW lVL_93 (ck h1).1 rfl (ctX9_drawn l G x (xs (i3 + 1).toNatClampNeg) (xs (i3 + 2).toNatClampNeg) (xs (i3 + 3).toNatClampNeg) (xs (i3 + 4).toNatClampNeg) z h1) ⟨⟨rfl, rfl⟩, Nat.le_of_ble_eq_true rfl, Nat.le_of_ble_eq_true rfl⟩ rfl hl.1 rfl (Nat.le_of_ble_eq_true rfl) dL_law_947 ⟨by show cells + _ ≤ 600000; omega, by show slots + _ ≤ 7302250; omega⟩) rfl rfl (fun H locs hW => ?_)
  refine lv_aload_n hx hb dL_law_950 rfl (lv_at hl 2 rfl) ?_
  refine lv_aload_n hx hb dL_law_951 rfl (lv_at hl 0 rfl) ?_
  refine lv_iload_n hx hb dL_law_952 rfl (lv_at hl 3 rfl) ?_
  refine lv_iconst (v := 1) hx hb dL_law_953 (by decide) ?_
  refine lv_iadd hx hb dL_law_954 ?_
  refine va_sld hx hb hX hbl hbA hW.2 (hin 1 (by decide) (by decide)) dL_law_955 ?_
  refine lv_aload_n hx hb dL_law_956 rfl (lv_at hl 0 rfl) ?_
  refine lv_iload_n hx hb dL_law_957 rfl (lv_at hl 3 rfl) ?_
  refine lv_iconst (v := 2) hx hb dL_law_958 (by decide) ?_
  refine lv_iadd hx hb dL_law_959 ?_
  refine va_sld hx hb hX hbl hbA hW.2 (hin 2 (by decide) (by decide)) dL_law_960 ?_
  refine lv_aload_n hx hb dL_law_961 rfl (lv_at hl 0 rfl) ?_
  refine lv_iload_n hx hb dL_law_962 rfl (lv_at hl 3 rfl) ?_
  refine lv_iconst (v := 3) hx hb dL_law_963 (by decide) ?_
  refine lv_iadd hx hb dL_law_964 ?_
  refine va_sld hx hb hX hbl hbA hW.2 (hin 3 (by decide) (by decide)) dL_law_965 ?_
  refine lv_aload_n hx hb dL_law_966 rfl (lv_at hl 0 rfl) ?_
  refine lv_iload_n hx hb dL_law_967 rfl (lv_at hl 3 rfl) ?_
  refine lv_iconst (v := 4) hx hb dL_law_968 (by decide) ?_
  refine lv_iadd hx hb dL_law_969 ?_
  refine va_sld hx hb hX hbl hbA hW.2 (hin 4 (by decide) (by decide)) dL_law_970 ?_
  refine wz_rI (c' := cells + 0) (s' := slots + 0) hW (wz_runV (rest := [.int r]) C hW lVL_96 (ck h2).1 rfl (ctX10_drawn l G y (xs (i3 + 1).toNatClampNeg) (xs (i3 + 2).toNatClampNeg) (xs (i3 + 3).toNatClampNeg) (xs (i3 + 4).toNatClampNeg) z1 h2) ⟨⟨rfl, rfl⟩, Nat.le_of_ble_eq_true rfl, Nat.le_of_ble_eq_true rfl⟩ rfl hl.1 rfl (Nat.le_of_ble_eq_true rfl) dL_law_971 ⟨by show cells + _ ≤ 600000; omega, by show slots + _ ≤ 7302250; omega⟩) rfl rfl (fun H locs hW => ?_)
  refine lv_icmp_eq (tgt := 1341) hx hb dL_law_974 (by decide) (fun _ => ?_) (fun q => absurd rfl q)
  refine W.widen (k := cells + 15) (n := slots + 140) (by omega) (by omega) ?_
  exact kk _ _ _ hI2 hW
set_option maxHeartbeats 4000000 in
set_option maxRecDepth 100000 in
theorem lwc_19 {p : Program} {l : Launch} {e : Env} {s : State} {m : MethodId} {below : List Frame} {meth : Method} {c : Code} {G : GW} {b L : Nat} {xs : Nat → Int32} {Q : State → Prop} {cells slots : Nat} (C : Cx p m c code 4 s #[Value.ref b] RLw G) (hX : va_X b L xs s s.heap) (hbl : b < s.heap.size) (hbA : ¬ AA G b) {Inv : AH → Prop} {x y : Nat} (hS : St_need Inv x y) {i3 : Int32} (hin : ∀ k : Int32, 0 ≤ k → k ≤ 5 → vp_in (i3 + k) L) {z : AH} (hI : Inv z) {H : Heap} {locs : List Loc} {ls : Array Slot} (hW : Wb G z s H locs) (hl : lv_has ls 4 [(0, .ref b), (1, .ref (gB G + x)), (2, .ref (gB G + y)), (3, .int i3)]) (hf : cells + 15 ≤ 600000 ∧ slots + 140 ≤ 7302250) (kk : ∀ (z2 : AH) (H : Heap) (locs : List Loc), Inv z2 → Wb G z2 s H locs → W p l e room_1 s m #[Value.ref b] below meth c H locs (cells + 15) (slots + 140) Q (F0 m 1341 ls [])) : W p l e room_1 s m #[Value.ref b] below meth c H locs cells slots Q (F0 m 979 ls []) := by
  have hx := C.1
  have hb := C.2.1
  obtain ⟨r, z1, z2, h1, h2, hI2⟩ := hS z hI (xs (i3 + 1).toNatClampNeg) (xs (i3 + 2).toNatClampNeg) (xs (i3 + 3).toNatClampNeg)
  refine lv_aload_n hx hb dL_law_979 rfl (lv_at hl 1 rfl) ?_
  refine lv_aload_n hx hb dL_law_980 rfl (lv_at hl 0 rfl) ?_
  refine lv_iload_n hx hb dL_law_981 rfl (lv_at hl 3 rfl) ?_
  refine lv_iconst (v := 1) hx hb dL_law_982 (by decide) ?_
  refine lv_iadd hx hb dL_law_983 ?_
  refine va_sld hx hb hX hbl hbA hW.2 (hin 1 (by decide) (by decide)) dL_law_984 ?_
  refine lv_aload_n hx hb dL_law_985 rfl (lv_at hl 0 rfl) ?_
  refine lv_iload_n hx hb dL_law_986 rfl (lv_at hl 3 rfl) ?_
  refine lv_iconst (v := 2) hx hb dL_law_987 (by decide) ?_
  refine lv_iadd hx hb dL_law_988 ?_
  refine va_sld hx hb hX hbl hbA hW.2 (hin 2 (by decide) (by decide)) dL_law_989 ?_
  refine lv_aload_n hx hb dL_law_990 rfl (lv_at hl 0 rfl) ?_
  refine lv_iload_n hx hb dL_law_991 rfl (lv_at hl 3 rfl) ?_
  refine lv_iconst (v := 3) hx hb dL_law_992 (by decide) ?_
  refine lv_iadd hx hb dL_law_993 ?_
  refine va_sld hx hb hX hbl hbA hW.2 (hin 3 (by decide) (by decide)) dL_law_994 ?_
  refine wz_rI (c' := cells + 0) (s' := slots + 0) hW (wz_runV (rest := []) C hW lVL_97 (ck h1).1 rfl (ctX9_need l G x (xs (i3 + 1).toNatClampNeg) (xs (i3 + 2).toNatClampNeg) (xs (i3 + 3).toNatClampNeg) z h1) ⟨⟨rfl, rfl⟩, Nat.le_of_ble_eq_true rfl, Nat.le_of_ble_eq_true rfl⟩ rfl hl.1 rfl (Nat.le_of_ble_eq_true rfl) dL_law_995 ⟨by show cells + _ ≤ 600000; omega, by show slots + _ ≤ 7302250; omega⟩) rfl rfl (fun H locs hW => ?_)
  refine lv_aload_n hx hb dL_law_998 rfl (lv_at hl 2 rfl) ?_
  refine lv_aload_n hx hb dL_law_999 rfl (lv_at hl 0 rfl) ?_
  refine lv_iload_n hx hb dL_law_1000 rfl (lv_at hl 3 rfl) ?_
  refine lv_iconst (v := 1) hx hb dL_law_1001 (by decide) ?_
  refine lv_iadd hx hb dL_law_1002 ?_
  refine va_sld hx hb hX hbl hbA hW.2 (hin 1 (by decide) (by decide)) dL_law_1003 ?_
  refine lv_aload_n hx hb dL_law_1004 rfl (lv_at hl 0 rfl) ?_
  refine lv_iload_n hx hb dL_law_1005 rfl (lv_at hl 3 rfl) ?_
  refine lv_iconst (v := 2) hx hb dL_law_1006 (by decide) ?_
  refine lv_iadd hx hb dL_law_1007 ?_
  refine va_sld hx hb hX hbl hbA hW.2 (hin 2 (by decide) (by decide)) dL_law_1008 ?_
  refine lv_aload_n hx hb dL_law_1009 rfl (lv_at hl 0 rfl) ?_
  refine lv_iload_n hx hb dL_law_1010 rfl (lv_at hl 3 rfl) ?_
  refine lv_iconst (v := 3) hx hb dL_law_1011 (by decide) ?_
  refine lv_iadd hx hb dL_law_1012 ?_
  refine va_sld hx hb hX hbl hbA hW.2 (hin 3 (by decide) (by decide)) dL_law_1013 ?_
  refine wz_rI (c' := cells + 0) (s' := slots + 0) hW (wz_runV (rest := [.int r]) C hW lVL_100 (ck h2).1 rfl (ctX10_need l G y (xs (i3 + 1).toNatClampNeg) (xs (i3 + 2).toNatClampNeg) (xs (i3 + 3).toNatClampNeg) z1 h2) ⟨⟨rfl, rfl⟩, Nat.le_of_ble_eq_true rfl, Nat.le_of_ble_eq_true rfl⟩ rfl hl.1 rfl (Nat.le_of_ble_eq_true rfl) dL_law_1014 ⟨by show cells + _ ≤ 600000; omega, by show slots + _ ≤ 7302250; omega⟩) rfl rfl (fun H locs hW => ?_)
  refine lv_icmp_eq (tgt := 1341) hx hb dL_law_1017 (by decide) (fun _ => ?_) (fun q => absurd rfl q)
  refine W.widen (k := cells + 15) (n := slots + 140) (by omega) (by omega) ?_
  exact kk _ _ _ hI2 hW
set_option maxHeartbeats 4000000 in
set_option maxRecDepth 100000 in
theorem lwc_20 {p : Program} {l : Launch} {e : Env} {s : State} {m : MethodId} {below : List Frame} {meth : Method} {c : Code} {G : GW} {b L : Nat} {xs : Nat → Int32} {Q : State → Prop} {cells slots : Nat} (C : Cx p m c code 4 s #[Value.ref b] RLw G) (hX : va_X b L xs s s.heap) (hbl : b < s.heap.size) (hbA : ¬ AA G b) {Inv : AH → Prop} {x y : Nat} (hS : St_keystone Inv x y) {i3 : Int32} (hin : ∀ k : Int32, 0 ≤ k → k ≤ 5 → vp_in (i3 + k) L) {z : AH} (hI : Inv z) {H : Heap} {locs : List Loc} {ls : Array Slot} (hW : Wb G z s H locs) (hl : lv_has ls 4 [(0, .ref b), (1, .ref (gB G + x)), (2, .ref (gB G + y)), (3, .int i3)]) (hf : cells + 15 ≤ 600000 ∧ slots + 140 ≤ 7302250) (kk : ∀ (z2 : AH) (H : Heap) (locs : List Loc), Inv z2 → Wb G z2 s H locs → W p l e room_1 s m #[Value.ref b] below meth c H locs (cells + 15) (slots + 140) Q (F0 m 1341 ls [])) : W p l e room_1 s m #[Value.ref b] below meth c H locs cells slots Q (F0 m 1022 ls []) := by
  have hx := C.1
  have hb := C.2.1
  by_cases cz : (xs (i3 + 2).toNatClampNeg) = 0
  · obtain ⟨r, z1, z2, h1, h2, hI2⟩ := hS z hI (xs (i3 + 1).toNatClampNeg) 0 (Or.inl rfl)
    refine lv_aload_n hx hb dL_law_1022 rfl (lv_at hl 1 rfl) ?_
    refine lv_aload_n hx hb dL_law_1023 rfl (lv_at hl 0 rfl) ?_
    refine lv_iload_n hx hb dL_law_1024 rfl (lv_at hl 3 rfl) ?_
    refine lv_iconst (v := 1) hx hb dL_law_1025 (by decide) ?_
    refine lv_iadd hx hb dL_law_1026 ?_
    refine va_sld hx hb hX hbl hbA hW.2 (hin 1 (by decide) (by decide)) dL_law_1027 ?_
    refine lv_aload_n hx hb dL_law_1028 rfl (lv_at hl 0 rfl) ?_
    refine lv_iload_n hx hb dL_law_1029 rfl (lv_at hl 3 rfl) ?_
    refine lv_iconst (v := 2) hx hb dL_law_1030 (by decide) ?_
    refine lv_iadd hx hb dL_law_1031 ?_
    refine va_sld hx hb hX hbl hbA hW.2 (hin 2 (by decide) (by decide)) dL_law_1032 ?_
    refine lv_if_eq (tgt := 1040) hx hb dL_law_1033 (by decide) (fun _ => ?_) (fun q => absurd cz q)
    refine lv_iconst (v := 0) hx hb dL_law_1040 (by decide) ?_
    refine wz_rI (c' := cells + 0) (s' := slots + 0) hW (wz_runV (rest := []) C hW lVL_101 (ck h1).1 rfl (ctX9_keystone l G x (xs (i3 + 1).toNatClampNeg) 0 z h1) ⟨⟨rfl, rfl⟩, Nat.le_of_ble_eq_true rfl, Nat.le_of_ble_eq_true rfl⟩ rfl hl.1 rfl (Nat.le_of_ble_eq_true rfl) dL_law_1041 ⟨by show cells + _ ≤ 600000; omega, by show slots + _ ≤ 7302250; omega⟩) rfl rfl (fun H locs hW => ?_)
    refine lv_aload_n hx hb dL_law_1044 rfl (lv_at hl 2 rfl) ?_
    refine lv_aload_n hx hb dL_law_1045 rfl (lv_at hl 0 rfl) ?_
    refine lv_iload_n hx hb dL_law_1046 rfl (lv_at hl 3 rfl) ?_
    refine lv_iconst (v := 1) hx hb dL_law_1047 (by decide) ?_
    refine lv_iadd hx hb dL_law_1048 ?_
    refine va_sld hx hb hX hbl hbA hW.2 (hin 1 (by decide) (by decide)) dL_law_1049 ?_
    refine lv_aload_n hx hb dL_law_1050 rfl (lv_at hl 0 rfl) ?_
    refine lv_iload_n hx hb dL_law_1051 rfl (lv_at hl 3 rfl) ?_
    refine lv_iconst (v := 2) hx hb dL_law_1052 (by decide) ?_
    refine lv_iadd hx hb dL_law_1053 ?_
    refine va_sld hx hb hX hbl hbA hW.2 (hin 2 (by decide) (by decide)) dL_law_1054 ?_
    refine lv_if_eq (tgt := 1062) hx hb dL_law_1055 (by decide) (fun _ => ?_) (fun q => absurd cz q)
    refine lv_iconst (v := 0) hx hb dL_law_1062 (by decide) ?_
    refine wz_rI (c' := cells + 0) (s' := slots + 0) hW (wz_runV (rest := [.int r]) C hW lVL_105 (ck h2).1 rfl (ctX10_keystone l G y (xs (i3 + 1).toNatClampNeg) 0 z1 h2) ⟨⟨rfl, rfl⟩, Nat.le_of_ble_eq_true rfl, Nat.le_of_ble_eq_true rfl⟩ rfl hl.1 rfl (Nat.le_of_ble_eq_true rfl) dL_law_1063 ⟨by show cells + _ ≤ 600000; omega, by show slots + _ ≤ 7302250; omega⟩) rfl rfl (fun H locs hW => ?_)
    refine lv_icmp_eq (tgt := 1341) hx hb dL_law_1066 (by decide) (fun _ => ?_) (fun q => absurd rfl q)
    refine W.widen (k := cells + 15) (n := slots + 140) (by omega) (by omega) ?_
    exact kk _ _ _ hI2 hW
  · obtain ⟨r, z1, z2, h1, h2, hI2⟩ := hS z hI (xs (i3 + 1).toNatClampNeg) 1 (Or.inr rfl)
    refine lv_aload_n hx hb dL_law_1022 rfl (lv_at hl 1 rfl) ?_
    refine lv_aload_n hx hb dL_law_1023 rfl (lv_at hl 0 rfl) ?_
    refine lv_iload_n hx hb dL_law_1024 rfl (lv_at hl 3 rfl) ?_
    refine lv_iconst (v := 1) hx hb dL_law_1025 (by decide) ?_
    refine lv_iadd hx hb dL_law_1026 ?_
    refine va_sld hx hb hX hbl hbA hW.2 (hin 1 (by decide) (by decide)) dL_law_1027 ?_
    refine lv_aload_n hx hb dL_law_1028 rfl (lv_at hl 0 rfl) ?_
    refine lv_iload_n hx hb dL_law_1029 rfl (lv_at hl 3 rfl) ?_
    refine lv_iconst (v := 2) hx hb dL_law_1030 (by decide) ?_
    refine lv_iadd hx hb dL_law_1031 ?_
    refine va_sld hx hb hX hbl hbA hW.2 (hin 2 (by decide) (by decide)) dL_law_1032 ?_
    refine lv_if_eq (tgt := 1040) hx hb dL_law_1033 (by decide) (fun q => absurd q cz) (fun _ => ?_)
    refine lv_iconst (v := 1) hx hb dL_law_1036 (by decide) ?_
    refine lv_goto (tgt := 1041) hx hb dL_law_1037 (by decide) ?_
    refine wz_rI (c' := cells + 0) (s' := slots + 0) hW (wz_runV (rest := []) C hW lVL_101 (ck h1).1 rfl (ctX9_keystone l G x (xs (i3 + 1).toNatClampNeg) 1 z h1) ⟨⟨rfl, rfl⟩, Nat.le_of_ble_eq_true rfl, Nat.le_of_ble_eq_true rfl⟩ rfl hl.1 rfl (Nat.le_of_ble_eq_true rfl) dL_law_1041 ⟨by show cells + _ ≤ 600000; omega, by show slots + _ ≤ 7302250; omega⟩) rfl rfl (fun H locs hW => ?_)
    refine lv_aload_n hx hb dL_law_1044 rfl (lv_at hl 2 rfl) ?_
    refine lv_aload_n hx hb dL_law_1045 rfl (lv_at hl 0 rfl) ?_
    refine lv_iload_n hx hb dL_law_1046 rfl (lv_at hl 3 rfl) ?_
    refine lv_iconst (v := 1) hx hb dL_law_1047 (by decide) ?_
    refine lv_iadd hx hb dL_law_1048 ?_
    refine va_sld hx hb hX hbl hbA hW.2 (hin 1 (by decide) (by decide)) dL_law_1049 ?_
    refine lv_aload_n hx hb dL_law_1050 rfl (lv_at hl 0 rfl) ?_
    refine lv_iload_n hx hb dL_law_1051 rfl (lv_at hl 3 rfl) ?_
    refine lv_iconst (v := 2) hx hb dL_law_1052 (by decide) ?_
    refine lv_iadd hx hb dL_law_1053 ?_
    refine va_sld hx hb hX hbl hbA hW.2 (hin 2 (by decide) (by decide)) dL_law_1054 ?_
    refine lv_if_eq (tgt := 1062) hx hb dL_law_1055 (by decide) (fun q => absurd q cz) (fun _ => ?_)
    refine lv_iconst (v := 1) hx hb dL_law_1058 (by decide) ?_
    refine lv_goto (tgt := 1063) hx hb dL_law_1059 (by decide) ?_
    refine wz_rI (c' := cells + 0) (s' := slots + 0) hW (wz_runV (rest := [.int r]) C hW lVL_105 (ck h2).1 rfl (ctX10_keystone l G y (xs (i3 + 1).toNatClampNeg) 1 z1 h2) ⟨⟨rfl, rfl⟩, Nat.le_of_ble_eq_true rfl, Nat.le_of_ble_eq_true rfl⟩ rfl hl.1 rfl (Nat.le_of_ble_eq_true rfl) dL_law_1063 ⟨by show cells + _ ≤ 600000; omega, by show slots + _ ≤ 7302250; omega⟩) rfl rfl (fun H locs hW => ?_)
    refine lv_icmp_eq (tgt := 1341) hx hb dL_law_1066 (by decide) (fun _ => ?_) (fun q => absurd rfl q)
    refine W.widen (k := cells + 15) (n := slots + 140) (by omega) (by omega) ?_
    exact kk _ _ _ hI2 hW
set_option maxHeartbeats 4000000 in
set_option maxRecDepth 100000 in
theorem lwc_21 {p : Program} {l : Launch} {e : Env} {s : State} {m : MethodId} {below : List Frame} {meth : Method} {c : Code} {G : GW} {b L : Nat} {xs : Nat → Int32} {Q : State → Prop} {cells slots : Nat} (C : Cx p m c code 4 s #[Value.ref b] RLw G) (hX : va_X b L xs s s.heap) (hbl : b < s.heap.size) (hbA : ¬ AA G b) {Inv : AH → Prop} {x y : Nat} (hS : St_height Inv x y) {i3 : Int32} (hin : ∀ k : Int32, 0 ≤ k → k ≤ 5 → vp_in (i3 + k) L) {z : AH} (hI : Inv z) {H : Heap} {locs : List Loc} {ls : Array Slot} (hW : Wb G z s H locs) (hl : lv_has ls 4 [(0, .ref b), (1, .ref (gB G + x)), (2, .ref (gB G + y)), (3, .int i3)]) (hf : cells + 15 ≤ 600000 ∧ slots + 140 ≤ 7302250) (kk : ∀ (z2 : AH) (H : Heap) (locs : List Loc), Inv z2 → Wb G z2 s H locs → W p l e room_1 s m #[Value.ref b] below meth c H locs (cells + 15) (slots + 140) Q (F0 m 1341 ls [])) : W p l e room_1 s m #[Value.ref b] below meth c H locs cells slots Q (F0 m 1071 ls []) := by
  have hx := C.1
  have hb := C.2.1
  obtain ⟨r, z1, z2, h1, h2, hI2⟩ := hS z hI (xs (i3 + 1).toNatClampNeg) (xs (i3 + 2).toNatClampNeg)
  refine lv_aload_n hx hb dL_law_1071 rfl (lv_at hl 1 rfl) ?_
  refine lv_aload_n hx hb dL_law_1072 rfl (lv_at hl 0 rfl) ?_
  refine lv_iload_n hx hb dL_law_1073 rfl (lv_at hl 3 rfl) ?_
  refine lv_iconst (v := 1) hx hb dL_law_1074 (by decide) ?_
  refine lv_iadd hx hb dL_law_1075 ?_
  refine va_sld hx hb hX hbl hbA hW.2 (hin 1 (by decide) (by decide)) dL_law_1076 ?_
  refine lv_aload_n hx hb dL_law_1077 rfl (lv_at hl 0 rfl) ?_
  refine lv_iload_n hx hb dL_law_1078 rfl (lv_at hl 3 rfl) ?_
  refine lv_iconst (v := 2) hx hb dL_law_1079 (by decide) ?_
  refine lv_iadd hx hb dL_law_1080 ?_
  refine va_sld hx hb hX hbl hbA hW.2 (hin 2 (by decide) (by decide)) dL_law_1081 ?_
  refine wz_rI (c' := cells + 0) (s' := slots + 0) hW (wz_runV (rest := []) C hW lVL_106 (ck h1).1 rfl (ctX9_height l G x (xs (i3 + 1).toNatClampNeg) (xs (i3 + 2).toNatClampNeg) z h1) ⟨⟨rfl, rfl⟩, Nat.le_of_ble_eq_true rfl, Nat.le_of_ble_eq_true rfl⟩ rfl hl.1 rfl (Nat.le_of_ble_eq_true rfl) dL_law_1082 ⟨by show cells + _ ≤ 600000; omega, by show slots + _ ≤ 7302250; omega⟩) rfl rfl (fun H locs hW => ?_)
  refine lv_aload_n hx hb dL_law_1085 rfl (lv_at hl 2 rfl) ?_
  refine lv_aload_n hx hb dL_law_1086 rfl (lv_at hl 0 rfl) ?_
  refine lv_iload_n hx hb dL_law_1087 rfl (lv_at hl 3 rfl) ?_
  refine lv_iconst (v := 1) hx hb dL_law_1088 (by decide) ?_
  refine lv_iadd hx hb dL_law_1089 ?_
  refine va_sld hx hb hX hbl hbA hW.2 (hin 1 (by decide) (by decide)) dL_law_1090 ?_
  refine lv_aload_n hx hb dL_law_1091 rfl (lv_at hl 0 rfl) ?_
  refine lv_iload_n hx hb dL_law_1092 rfl (lv_at hl 3 rfl) ?_
  refine lv_iconst (v := 2) hx hb dL_law_1093 (by decide) ?_
  refine lv_iadd hx hb dL_law_1094 ?_
  refine va_sld hx hb hX hbl hbA hW.2 (hin 2 (by decide) (by decide)) dL_law_1095 ?_
  refine wz_rI (c' := cells + 0) (s' := slots + 0) hW (wz_runV (rest := [.int r]) C hW lVL_109 (ck h2).1 rfl (ctX10_height l G y (xs (i3 + 1).toNatClampNeg) (xs (i3 + 2).toNatClampNeg) z1 h2) ⟨⟨rfl, rfl⟩, Nat.le_of_ble_eq_true rfl, Nat.le_of_ble_eq_true rfl⟩ rfl hl.1 rfl (Nat.le_of_ble_eq_true rfl) dL_law_1096 ⟨by show cells + _ ≤ 600000; omega, by show slots + _ ≤ 7302250; omega⟩) rfl rfl (fun H locs hW => ?_)
  refine lv_icmp_eq (tgt := 1341) hx hb dL_law_1099 (by decide) (fun _ => ?_) (fun q => absurd rfl q)
  refine W.widen (k := cells + 15) (n := slots + 140) (by omega) (by omega) ?_
  exact kk _ _ _ hI2 hW
set_option maxHeartbeats 4000000 in
set_option maxRecDepth 100000 in
theorem lwc_22 {p : Program} {l : Launch} {e : Env} {s : State} {m : MethodId} {below : List Frame} {meth : Method} {c : Code} {G : GW} {b L : Nat} {xs : Nat → Int32} {Q : State → Prop} {cells slots : Nat} (C : Cx p m c code 4 s #[Value.ref b] RLw G) (hX : va_X b L xs s s.heap) (hbl : b < s.heap.size) (hbA : ¬ AA G b) {Inv : AH → Prop} {x y : Nat} (hS : St_meet Inv x y) {i3 : Int32} (hin : ∀ k : Int32, 0 ≤ k → k ≤ 5 → vp_in (i3 + k) L) {z : AH} (hI : Inv z) {H : Heap} {locs : List Loc} {ls : Array Slot} (hW : Wb G z s H locs) (hl : lv_has ls 4 [(0, .ref b), (1, .ref (gB G + x)), (2, .ref (gB G + y)), (3, .int i3)]) (hf : cells + 15 ≤ 600000 ∧ slots + 140 ≤ 7302250) (kk : ∀ (z2 : AH) (H : Heap) (locs : List Loc), Inv z2 → Wb G z2 s H locs → W p l e room_1 s m #[Value.ref b] below meth c H locs (cells + 15) (slots + 140) Q (F0 m 1341 ls [])) : W p l e room_1 s m #[Value.ref b] below meth c H locs cells slots Q (F0 m 1104 ls []) := by
  have hx := C.1
  have hb := C.2.1
  obtain ⟨r, z1, z2, h1, h2, hI2⟩ := hS z hI (xs (i3 + 1).toNatClampNeg) (xs (i3 + 2).toNatClampNeg) (xs (i3 + 3).toNatClampNeg)
  refine lv_aload_n hx hb dL_law_1104 rfl (lv_at hl 1 rfl) ?_
  refine lv_aload_n hx hb dL_law_1105 rfl (lv_at hl 0 rfl) ?_
  refine lv_iload_n hx hb dL_law_1106 rfl (lv_at hl 3 rfl) ?_
  refine lv_iconst (v := 1) hx hb dL_law_1107 (by decide) ?_
  refine lv_iadd hx hb dL_law_1108 ?_
  refine va_sld hx hb hX hbl hbA hW.2 (hin 1 (by decide) (by decide)) dL_law_1109 ?_
  refine lv_aload_n hx hb dL_law_1110 rfl (lv_at hl 0 rfl) ?_
  refine lv_iload_n hx hb dL_law_1111 rfl (lv_at hl 3 rfl) ?_
  refine lv_iconst (v := 2) hx hb dL_law_1112 (by decide) ?_
  refine lv_iadd hx hb dL_law_1113 ?_
  refine va_sld hx hb hX hbl hbA hW.2 (hin 2 (by decide) (by decide)) dL_law_1114 ?_
  refine lv_aload_n hx hb dL_law_1115 rfl (lv_at hl 0 rfl) ?_
  refine lv_iload_n hx hb dL_law_1116 rfl (lv_at hl 3 rfl) ?_
  refine lv_iconst (v := 3) hx hb dL_law_1117 (by decide) ?_
  refine lv_iadd hx hb dL_law_1118 ?_
  refine va_sld hx hb hX hbl hbA hW.2 (hin 3 (by decide) (by decide)) dL_law_1119 ?_
  refine wz_rI (c' := cells + 0) (s' := slots + 0) hW (wz_runV (rest := []) C hW lVL_110 (ck h1).1 rfl (ctX9_meet l G x (xs (i3 + 1).toNatClampNeg) (xs (i3 + 2).toNatClampNeg) (xs (i3 + 3).toNatClampNeg) z h1) ⟨⟨rfl, rfl⟩, Nat.le_of_ble_eq_true rfl, Nat.le_of_ble_eq_true rfl⟩ rfl hl.1 rfl (Nat.le_of_ble_eq_true rfl) dL_law_1120 ⟨by show cells + _ ≤ 600000; omega, by show slots + _ ≤ 7302250; omega⟩) rfl rfl (fun H locs hW => ?_)
  refine lv_aload_n hx hb dL_law_1123 rfl (lv_at hl 2 rfl) ?_
  refine lv_aload_n hx hb dL_law_1124 rfl (lv_at hl 0 rfl) ?_
  refine lv_iload_n hx hb dL_law_1125 rfl (lv_at hl 3 rfl) ?_
  refine lv_iconst (v := 1) hx hb dL_law_1126 (by decide) ?_
  refine lv_iadd hx hb dL_law_1127 ?_
  refine va_sld hx hb hX hbl hbA hW.2 (hin 1 (by decide) (by decide)) dL_law_1128 ?_
  refine lv_aload_n hx hb dL_law_1129 rfl (lv_at hl 0 rfl) ?_
  refine lv_iload_n hx hb dL_law_1130 rfl (lv_at hl 3 rfl) ?_
  refine lv_iconst (v := 2) hx hb dL_law_1131 (by decide) ?_
  refine lv_iadd hx hb dL_law_1132 ?_
  refine va_sld hx hb hX hbl hbA hW.2 (hin 2 (by decide) (by decide)) dL_law_1133 ?_
  refine lv_aload_n hx hb dL_law_1134 rfl (lv_at hl 0 rfl) ?_
  refine lv_iload_n hx hb dL_law_1135 rfl (lv_at hl 3 rfl) ?_
  refine lv_iconst (v := 3) hx hb dL_law_1136 (by decide) ?_
  refine lv_iadd hx hb dL_law_1137 ?_
  refine va_sld hx hb hX hbl hbA hW.2 (hin 3 (by decide) (by decide)) dL_law_1138 ?_
  refine wz_rI (c' := cells + 0) (s' := slots + 0) hW (wz_runV (rest := [.int r]) C hW lVL_113 (ck h2).1 rfl (ctX10_meet l G y (xs (i3 + 1).toNatClampNeg) (xs (i3 + 2).toNatClampNeg) (xs (i3 + 3).toNatClampNeg) z1 h2) ⟨⟨rfl, rfl⟩, Nat.le_of_ble_eq_true rfl, Nat.le_of_ble_eq_true rfl⟩ rfl hl.1 rfl (Nat.le_of_ble_eq_true rfl) dL_law_1139 ⟨by show cells + _ ≤ 600000; omega, by show slots + _ ≤ 7302250; omega⟩) rfl rfl (fun H locs hW => ?_)
  refine lv_icmp_eq (tgt := 1341) hx hb dL_law_1142 (by decide) (fun _ => ?_) (fun q => absurd rfl q)
  refine W.widen (k := cells + 15) (n := slots + 140) (by omega) (by omega) ?_
  exact kk _ _ _ hI2 hW
set_option maxHeartbeats 4000000 in
set_option maxRecDepth 100000 in
theorem lwc_23 {p : Program} {l : Launch} {e : Env} {s : State} {m : MethodId} {below : List Frame} {meth : Method} {c : Code} {G : GW} {b L : Nat} {xs : Nat → Int32} {Q : State → Prop} {cells slots : Nat} (C : Cx p m c code 4 s #[Value.ref b] RLw G) (hX : va_X b L xs s s.heap) (hbl : b < s.heap.size) (hbA : ¬ AA G b) {Inv : AH → Prop} {x y : Nat} (hS : St_after Inv x y) {i3 : Int32} (hin : ∀ k : Int32, 0 ≤ k → k ≤ 5 → vp_in (i3 + k) L) {z : AH} (hI : Inv z) {H : Heap} {locs : List Loc} {ls : Array Slot} (hW : Wb G z s H locs) (hl : lv_has ls 4 [(0, .ref b), (1, .ref (gB G + x)), (2, .ref (gB G + y)), (3, .int i3)]) (hf : cells + 15 ≤ 600000 ∧ slots + 140 ≤ 7302250) (kk : ∀ (z2 : AH) (H : Heap) (locs : List Loc), Inv z2 → Wb G z2 s H locs → W p l e room_1 s m #[Value.ref b] below meth c H locs (cells + 15) (slots + 140) Q (F0 m 1341 ls [])) : W p l e room_1 s m #[Value.ref b] below meth c H locs cells slots Q (F0 m 1147 ls []) := by
  have hx := C.1
  have hb := C.2.1
  obtain ⟨r, z1, z2, h1, h2, hI2⟩ := hS z hI (xs (i3 + 1).toNatClampNeg) (xs (i3 + 2).toNatClampNeg) (xs (i3 + 3).toNatClampNeg)
  refine lv_aload_n hx hb dL_law_1147 rfl (lv_at hl 1 rfl) ?_
  refine lv_aload_n hx hb dL_law_1148 rfl (lv_at hl 0 rfl) ?_
  refine lv_iload_n hx hb dL_law_1149 rfl (lv_at hl 3 rfl) ?_
  refine lv_iconst (v := 1) hx hb dL_law_1150 (by decide) ?_
  refine lv_iadd hx hb dL_law_1151 ?_
  refine va_sld hx hb hX hbl hbA hW.2 (hin 1 (by decide) (by decide)) dL_law_1152 ?_
  refine lv_aload_n hx hb dL_law_1153 rfl (lv_at hl 0 rfl) ?_
  refine lv_iload_n hx hb dL_law_1154 rfl (lv_at hl 3 rfl) ?_
  refine lv_iconst (v := 2) hx hb dL_law_1155 (by decide) ?_
  refine lv_iadd hx hb dL_law_1156 ?_
  refine va_sld hx hb hX hbl hbA hW.2 (hin 2 (by decide) (by decide)) dL_law_1157 ?_
  refine lv_aload_n hx hb dL_law_1158 rfl (lv_at hl 0 rfl) ?_
  refine lv_iload_n hx hb dL_law_1159 rfl (lv_at hl 3 rfl) ?_
  refine lv_iconst (v := 3) hx hb dL_law_1160 (by decide) ?_
  refine lv_iadd hx hb dL_law_1161 ?_
  refine va_sld hx hb hX hbl hbA hW.2 (hin 3 (by decide) (by decide)) dL_law_1162 ?_
  refine wz_rI (c' := cells + 0) (s' := slots + 0) hW (wz_runV (rest := []) C hW lVL_114 (ck h1).1 rfl (ctX9_after l G x (xs (i3 + 1).toNatClampNeg) (xs (i3 + 2).toNatClampNeg) (xs (i3 + 3).toNatClampNeg) z h1) ⟨⟨rfl, rfl⟩, Nat.le_of_ble_eq_true rfl, Nat.le_of_ble_eq_true rfl⟩ rfl hl.1 rfl (Nat.le_of_ble_eq_true rfl) dL_law_1163 ⟨by show cells + _ ≤ 600000; omega, by show slots + _ ≤ 7302250; omega⟩) rfl rfl (fun H locs hW => ?_)
  refine lv_aload_n hx hb dL_law_1166 rfl (lv_at hl 2 rfl) ?_
  refine lv_aload_n hx hb dL_law_1167 rfl (lv_at hl 0 rfl) ?_
  refine lv_iload_n hx hb dL_law_1168 rfl (lv_at hl 3 rfl) ?_
  refine lv_iconst (v := 1) hx hb dL_law_1169 (by decide) ?_
  refine lv_iadd hx hb dL_law_1170 ?_
  refine va_sld hx hb hX hbl hbA hW.2 (hin 1 (by decide) (by decide)) dL_law_1171 ?_
  refine lv_aload_n hx hb dL_law_1172 rfl (lv_at hl 0 rfl) ?_
  refine lv_iload_n hx hb dL_law_1173 rfl (lv_at hl 3 rfl) ?_
  refine lv_iconst (v := 2) hx hb dL_law_1174 (by decide) ?_
  refine lv_iadd hx hb dL_law_1175 ?_
  refine va_sld hx hb hX hbl hbA hW.2 (hin 2 (by decide) (by decide)) dL_law_1176 ?_
  refine lv_aload_n hx hb dL_law_1177 rfl (lv_at hl 0 rfl) ?_
  refine lv_iload_n hx hb dL_law_1178 rfl (lv_at hl 3 rfl) ?_
  refine lv_iconst (v := 3) hx hb dL_law_1179 (by decide) ?_
  refine lv_iadd hx hb dL_law_1180 ?_
  refine va_sld hx hb hX hbl hbA hW.2 (hin 3 (by decide) (by decide)) dL_law_1181 ?_
  refine wz_rI (c' := cells + 0) (s' := slots + 0) hW (wz_runV (rest := [.int r]) C hW lVL_117 (ck h2).1 rfl (ctX10_after l G y (xs (i3 + 1).toNatClampNeg) (xs (i3 + 2).toNatClampNeg) (xs (i3 + 3).toNatClampNeg) z1 h2) ⟨⟨rfl, rfl⟩, Nat.le_of_ble_eq_true rfl, Nat.le_of_ble_eq_true rfl⟩ rfl hl.1 rfl (Nat.le_of_ble_eq_true rfl) dL_law_1182 ⟨by show cells + _ ≤ 600000; omega, by show slots + _ ≤ 7302250; omega⟩) rfl rfl (fun H locs hW => ?_)
  refine lv_icmp_eq (tgt := 1341) hx hb dL_law_1185 (by decide) (fun _ => ?_) (fun q => absurd rfl q)
  refine W.widen (k := cells + 15) (n := slots + 140) (by omega) (by omega) ?_
  exact kk _ _ _ hI2 hW
set_option maxHeartbeats 4000000 in
set_option maxRecDepth 100000 in
theorem lwc_24 {p : Program} {l : Launch} {e : Env} {s : State} {m : MethodId} {below : List Frame} {meth : Method} {c : Code} {G : GW} {b L : Nat} {xs : Nat → Int32} {Q : State → Prop} {cells slots : Nat} (C : Cx p m c code 4 s #[Value.ref b] RLw G) (hX : va_X b L xs s s.heap) (hbl : b < s.heap.size) (hbA : ¬ AA G b) {Inv : AH → Prop} {x y : Nat} (hS : St_wrong Inv x y) {i3 : Int32} (hin : ∀ k : Int32, 0 ≤ k → k ≤ 5 → vp_in (i3 + k) L) {z : AH} (hI : Inv z) {H : Heap} {locs : List Loc} {ls : Array Slot} (hW : Wb G z s H locs) (hl : lv_has ls 4 [(0, .ref b), (1, .ref (gB G + x)), (2, .ref (gB G + y)), (3, .int i3)]) (hf : cells + 15 ≤ 600000 ∧ slots + 140 ≤ 7302250) (kk : ∀ (z2 : AH) (H : Heap) (locs : List Loc), Inv z2 → Wb G z2 s H locs → W p l e room_1 s m #[Value.ref b] below meth c H locs (cells + 15) (slots + 140) Q (F0 m 1341 ls [])) : W p l e room_1 s m #[Value.ref b] below meth c H locs cells slots Q (F0 m 1190 ls []) := by
  have hx := C.1
  have hb := C.2.1
  by_cases cz : (xs (i3 + 3).toNatClampNeg) = 0
  · obtain ⟨r, z1, z2, h1, h2, hI2⟩ := hS z hI (xs (i3 + 1).toNatClampNeg) (xs (i3 + 2).toNatClampNeg) 0 (Or.inl rfl)
    refine lv_aload_n hx hb dL_law_1190 rfl (lv_at hl 1 rfl) ?_
    refine lv_aload_n hx hb dL_law_1191 rfl (lv_at hl 0 rfl) ?_
    refine lv_iload_n hx hb dL_law_1192 rfl (lv_at hl 3 rfl) ?_
    refine lv_iconst (v := 1) hx hb dL_law_1193 (by decide) ?_
    refine lv_iadd hx hb dL_law_1194 ?_
    refine va_sld hx hb hX hbl hbA hW.2 (hin 1 (by decide) (by decide)) dL_law_1195 ?_
    refine lv_aload_n hx hb dL_law_1196 rfl (lv_at hl 0 rfl) ?_
    refine lv_iload_n hx hb dL_law_1197 rfl (lv_at hl 3 rfl) ?_
    refine lv_iconst (v := 2) hx hb dL_law_1198 (by decide) ?_
    refine lv_iadd hx hb dL_law_1199 ?_
    refine va_sld hx hb hX hbl hbA hW.2 (hin 2 (by decide) (by decide)) dL_law_1200 ?_
    refine lv_aload_n hx hb dL_law_1201 rfl (lv_at hl 0 rfl) ?_
    refine lv_iload_n hx hb dL_law_1202 rfl (lv_at hl 3 rfl) ?_
    refine lv_iconst (v := 3) hx hb dL_law_1203 (by decide) ?_
    refine lv_iadd hx hb dL_law_1204 ?_
    refine va_sld hx hb hX hbl hbA hW.2 (hin 3 (by decide) (by decide)) dL_law_1205 ?_
    refine lv_if_eq (tgt := 1213) hx hb dL_law_1206 (by decide) (fun _ => ?_) (fun q => absurd cz q)
    refine lv_iconst (v := 0) hx hb dL_law_1213 (by decide) ?_
    refine wz_rI (c' := cells + 0) (s' := slots + 0) hW (wz_runV (rest := []) C hW lVL_118 (ck h1).1 rfl (ctX9_wrong l G x (xs (i3 + 1).toNatClampNeg) (xs (i3 + 2).toNatClampNeg) 0 z h1) ⟨⟨rfl, rfl⟩, Nat.le_of_ble_eq_true rfl, Nat.le_of_ble_eq_true rfl⟩ rfl hl.1 rfl (Nat.le_of_ble_eq_true rfl) dL_law_1214 ⟨by show cells + _ ≤ 600000; omega, by show slots + _ ≤ 7302250; omega⟩) rfl rfl (fun H locs hW => ?_)
    refine lv_aload_n hx hb dL_law_1217 rfl (lv_at hl 2 rfl) ?_
    refine lv_aload_n hx hb dL_law_1218 rfl (lv_at hl 0 rfl) ?_
    refine lv_iload_n hx hb dL_law_1219 rfl (lv_at hl 3 rfl) ?_
    refine lv_iconst (v := 1) hx hb dL_law_1220 (by decide) ?_
    refine lv_iadd hx hb dL_law_1221 ?_
    refine va_sld hx hb hX hbl hbA hW.2 (hin 1 (by decide) (by decide)) dL_law_1222 ?_
    refine lv_aload_n hx hb dL_law_1223 rfl (lv_at hl 0 rfl) ?_
    refine lv_iload_n hx hb dL_law_1224 rfl (lv_at hl 3 rfl) ?_
    refine lv_iconst (v := 2) hx hb dL_law_1225 (by decide) ?_
    refine lv_iadd hx hb dL_law_1226 ?_
    refine va_sld hx hb hX hbl hbA hW.2 (hin 2 (by decide) (by decide)) dL_law_1227 ?_
    refine lv_aload_n hx hb dL_law_1228 rfl (lv_at hl 0 rfl) ?_
    refine lv_iload_n hx hb dL_law_1229 rfl (lv_at hl 3 rfl) ?_
    refine lv_iconst (v := 3) hx hb dL_law_1230 (by decide) ?_
    refine lv_iadd hx hb dL_law_1231 ?_
    refine va_sld hx hb hX hbl hbA hW.2 (hin 3 (by decide) (by decide)) dL_law_1232 ?_
    refine lv_if_eq (tgt := 1240) hx hb dL_law_1233 (by decide) (fun _ => ?_) (fun q => absurd cz q)
    refine lv_iconst (v := 0) hx hb dL_law_1240 (by decide) ?_
    refine wz_rI (c' := cells + 0) (s' := slots + 0) hW (wz_runV (rest := [.int r]) C hW lVL_121 (ck h2).1 rfl (ctX10_wrong l G y (xs (i3 + 1).toNatClampNeg) (xs (i3 + 2).toNatClampNeg) 0 z1 h2) ⟨⟨rfl, rfl⟩, Nat.le_of_ble_eq_true rfl, Nat.le_of_ble_eq_true rfl⟩ rfl hl.1 rfl (Nat.le_of_ble_eq_true rfl) dL_law_1241 ⟨by show cells + _ ≤ 600000; omega, by show slots + _ ≤ 7302250; omega⟩) rfl rfl (fun H locs hW => ?_)
    refine lv_icmp_eq (tgt := 1341) hx hb dL_law_1244 (by decide) (fun _ => ?_) (fun q => absurd rfl q)
    refine W.widen (k := cells + 15) (n := slots + 140) (by omega) (by omega) ?_
    exact kk _ _ _ hI2 hW
  · obtain ⟨r, z1, z2, h1, h2, hI2⟩ := hS z hI (xs (i3 + 1).toNatClampNeg) (xs (i3 + 2).toNatClampNeg) 1 (Or.inr rfl)
    refine lv_aload_n hx hb dL_law_1190 rfl (lv_at hl 1 rfl) ?_
    refine lv_aload_n hx hb dL_law_1191 rfl (lv_at hl 0 rfl) ?_
    refine lv_iload_n hx hb dL_law_1192 rfl (lv_at hl 3 rfl) ?_
    refine lv_iconst (v := 1) hx hb dL_law_1193 (by decide) ?_
    refine lv_iadd hx hb dL_law_1194 ?_
    refine va_sld hx hb hX hbl hbA hW.2 (hin 1 (by decide) (by decide)) dL_law_1195 ?_
    refine lv_aload_n hx hb dL_law_1196 rfl (lv_at hl 0 rfl) ?_
    refine lv_iload_n hx hb dL_law_1197 rfl (lv_at hl 3 rfl) ?_
    refine lv_iconst (v := 2) hx hb dL_law_1198 (by decide) ?_
    refine lv_iadd hx hb dL_law_1199 ?_
    refine va_sld hx hb hX hbl hbA hW.2 (hin 2 (by decide) (by decide)) dL_law_1200 ?_
    refine lv_aload_n hx hb dL_law_1201 rfl (lv_at hl 0 rfl) ?_
    refine lv_iload_n hx hb dL_law_1202 rfl (lv_at hl 3 rfl) ?_
    refine lv_iconst (v := 3) hx hb dL_law_1203 (by decide) ?_
    refine lv_iadd hx hb dL_law_1204 ?_
    refine va_sld hx hb hX hbl hbA hW.2 (hin 3 (by decide) (by decide)) dL_law_1205 ?_
    refine lv_if_eq (tgt := 1213) hx hb dL_law_1206 (by decide) (fun q => absurd q cz) (fun _ => ?_)
    refine lv_iconst (v := 1) hx hb dL_law_1209 (by decide) ?_
    refine lv_goto (tgt := 1214) hx hb dL_law_1210 (by decide) ?_
    refine wz_rI (c' := cells + 0) (s' := slots + 0) hW (wz_runV (rest := []) C hW lVL_118 (ck h1).1 rfl (ctX9_wrong l G x (xs (i3 + 1).toNatClampNeg) (xs (i3 + 2).toNatClampNeg) 1 z h1) ⟨⟨rfl, rfl⟩, Nat.le_of_ble_eq_true rfl, Nat.le_of_ble_eq_true rfl⟩ rfl hl.1 rfl (Nat.le_of_ble_eq_true rfl) dL_law_1214 ⟨by show cells + _ ≤ 600000; omega, by show slots + _ ≤ 7302250; omega⟩) rfl rfl (fun H locs hW => ?_)
    refine lv_aload_n hx hb dL_law_1217 rfl (lv_at hl 2 rfl) ?_
    refine lv_aload_n hx hb dL_law_1218 rfl (lv_at hl 0 rfl) ?_
    refine lv_iload_n hx hb dL_law_1219 rfl (lv_at hl 3 rfl) ?_
    refine lv_iconst (v := 1) hx hb dL_law_1220 (by decide) ?_
    refine lv_iadd hx hb dL_law_1221 ?_
    refine va_sld hx hb hX hbl hbA hW.2 (hin 1 (by decide) (by decide)) dL_law_1222 ?_
    refine lv_aload_n hx hb dL_law_1223 rfl (lv_at hl 0 rfl) ?_
    refine lv_iload_n hx hb dL_law_1224 rfl (lv_at hl 3 rfl) ?_
    refine lv_iconst (v := 2) hx hb dL_law_1225 (by decide) ?_
    refine lv_iadd hx hb dL_law_1226 ?_
    refine va_sld hx hb hX hbl hbA hW.2 (hin 2 (by decide) (by decide)) dL_law_1227 ?_
    refine lv_aload_n hx hb dL_law_1228 rfl (lv_at hl 0 rfl) ?_
    refine lv_iload_n hx hb dL_law_1229 rfl (lv_at hl 3 rfl) ?_
    refine lv_iconst (v := 3) hx hb dL_law_1230 (by decide) ?_
    refine lv_iadd hx hb dL_law_1231 ?_
    refine va_sld hx hb hX hbl hbA hW.2 (hin 3 (by decide) (by decide)) dL_law_1232 ?_
    refine lv_if_eq (tgt := 1240) hx hb dL_law_1233 (by decide) (fun q => absurd q cz) (fun _ => ?_)
    refine lv_iconst (v := 1) hx hb dL_law_1236 (by decide) ?_
    refine lv_goto (tgt := 1241) hx hb dL_law_1237 (by decide) ?_
    refine wz_rI (c' := cells + 0) (s' := slots + 0) hW (wz_runV (rest := [.int r]) C hW lVL_121 (ck h2).1 rfl (ctX10_wrong l G y (xs (i3 + 1).toNatClampNeg) (xs (i3 + 2).toNatClampNeg) 1 z1 h2) ⟨⟨rfl, rfl⟩, Nat.le_of_ble_eq_true rfl, Nat.le_of_ble_eq_true rfl⟩ rfl hl.1 rfl (Nat.le_of_ble_eq_true rfl) dL_law_1241 ⟨by show cells + _ ≤ 600000; omega, by show slots + _ ≤ 7302250; omega⟩) rfl rfl (fun H locs hW => ?_)
    refine lv_icmp_eq (tgt := 1341) hx hb dL_law_1244 (by decide) (fun _ => ?_) (fun q => absurd rfl q)
    refine W.widen (k := cells + 15) (n := slots + 140) (by omega) (by omega) ?_
    exact kk _ _ _ hI2 hW
set_option maxHeartbeats 4000000 in
set_option maxRecDepth 100000 in
theorem lwc_25 {p : Program} {l : Launch} {e : Env} {s : State} {m : MethodId} {below : List Frame} {meth : Method} {c : Code} {G : GW} {b L : Nat} {xs : Nat → Int32} {Q : State → Prop} {cells slots : Nat} (C : Cx p m c code 4 s #[Value.ref b] RLw G) (hX : va_X b L xs s s.heap) (hbl : b < s.heap.size) (hbA : ¬ AA G b) {Inv : AH → Prop} {x y : Nat} (hS : St_tell Inv x y) {i3 : Int32} (hin : ∀ k : Int32, 0 ≤ k → k ≤ 5 → vp_in (i3 + k) L) {z : AH} (hI : Inv z) {H : Heap} {locs : List Loc} {ls : Array Slot} (hW : Wb G z s H locs) (hl : lv_has ls 4 [(0, .ref b), (1, .ref (gB G + x)), (2, .ref (gB G + y)), (3, .int i3)]) (hf : cells + 15 ≤ 600000 ∧ slots + 140 ≤ 7302250) (kk : ∀ (z2 : AH) (H : Heap) (locs : List Loc), Inv z2 → Wb G z2 s H locs → W p l e room_1 s m #[Value.ref b] below meth c H locs (cells + 15) (slots + 140) Q (F0 m 1341 ls [])) : W p l e room_1 s m #[Value.ref b] below meth c H locs cells slots Q (F0 m 1249 ls []) := by
  have hx := C.1
  have hb := C.2.1
  obtain ⟨r, z2, h1, h2, hI2⟩ := hS z hI (xs (i3 + 1).toNatClampNeg)
  refine lv_aload_n hx hb dL_law_1249 rfl (lv_at hl 1 rfl) ?_
  refine lv_aload_n hx hb dL_law_1250 rfl (lv_at hl 0 rfl) ?_
  refine lv_iload_n hx hb dL_law_1251 rfl (lv_at hl 3 rfl) ?_
  refine lv_iconst (v := 1) hx hb dL_law_1252 (by decide) ?_
  refine lv_iadd hx hb dL_law_1253 ?_
  refine va_sld hx hb hX hbl hbA hW.2 (hin 1 (by decide) (by decide)) dL_law_1254 ?_
  refine wz_rI (c' := cells + 0) (s' := slots + 0) hW (wz_runV (rest := []) C hW lVL_122 (ck h1).1 rfl (ctX9_tell l G x (xs (i3 + 1).toNatClampNeg) z h1) ⟨⟨rfl, rfl⟩, Nat.le_of_ble_eq_true rfl, Nat.le_of_ble_eq_true rfl⟩ rfl hl.1 rfl (Nat.le_of_ble_eq_true rfl) dL_law_1255 ⟨by show cells + _ ≤ 600000; omega, by show slots + _ ≤ 7302250; omega⟩) rfl rfl (fun H locs hW => ?_)
  refine lv_aload_n hx hb dL_law_1258 rfl (lv_at hl 2 rfl) ?_
  refine lv_aload_n hx hb dL_law_1259 rfl (lv_at hl 0 rfl) ?_
  refine lv_iload_n hx hb dL_law_1260 rfl (lv_at hl 3 rfl) ?_
  refine lv_iconst (v := 1) hx hb dL_law_1261 (by decide) ?_
  refine lv_iadd hx hb dL_law_1262 ?_
  refine va_sld hx hb hX hbl hbA hW.2 (hin 1 (by decide) (by decide)) dL_law_1263 ?_
  refine wz_rI (c' := cells + 0) (s' := slots + 0) hW (wz_runV (rest := [.int r]) C hW lVL_125 (ck h2).1 rfl (ctX10_tell l G y (xs (i3 + 1).toNatClampNeg) z h2) ⟨⟨rfl, rfl⟩, Nat.le_of_ble_eq_true rfl, Nat.le_of_ble_eq_true rfl⟩ rfl hl.1 rfl (Nat.le_of_ble_eq_true rfl) dL_law_1264 ⟨by show cells + _ ≤ 600000; omega, by show slots + _ ≤ 7302250; omega⟩) rfl rfl (fun H locs hW => ?_)
  refine lv_icmp_eq (tgt := 1341) hx hb dL_law_1267 (by decide) (fun _ => ?_) (fun q => absurd rfl q)
  refine W.widen (k := cells + 15) (n := slots + 140) (by omega) (by omega) ?_
  exact kk _ _ _ hI2 hW
set_option maxHeartbeats 4000000 in
set_option maxRecDepth 100000 in
theorem lwc_26 {p : Program} {l : Launch} {e : Env} {s : State} {m : MethodId} {below : List Frame} {meth : Method} {c : Code} {G : GW} {b L : Nat} {xs : Nat → Int32} {Q : State → Prop} {cells slots : Nat} (C : Cx p m c code 4 s #[Value.ref b] RLw G) (hX : va_X b L xs s s.heap) (hbl : b < s.heap.size) (hbA : ¬ AA G b) {Inv : AH → Prop} {x y : Nat} (hS : St_count Inv x y) {i3 : Int32} (hin : ∀ k : Int32, 0 ≤ k → k ≤ 5 → vp_in (i3 + k) L) {z : AH} (hI : Inv z) {H : Heap} {locs : List Loc} {ls : Array Slot} (hW : Wb G z s H locs) (hl : lv_has ls 4 [(0, .ref b), (1, .ref (gB G + x)), (2, .ref (gB G + y)), (3, .int i3)]) (hf : cells + 15 ≤ 600000 ∧ slots + 140 ≤ 7302250) (kk : ∀ (z2 : AH) (H : Heap) (locs : List Loc), Inv z2 → Wb G z2 s H locs → W p l e room_1 s m #[Value.ref b] below meth c H locs (cells + 15) (slots + 140) Q (F0 m 1341 ls [])) : W p l e room_1 s m #[Value.ref b] below meth c H locs cells slots Q (F0 m 1272 ls []) := by
  have hx := C.1
  have hb := C.2.1
  obtain ⟨r, z2, h1, h2, hI2⟩ := hS z hI (xs (i3 + 1).toNatClampNeg)
  refine lv_aload_n hx hb dL_law_1272 rfl (lv_at hl 1 rfl) ?_
  refine lv_aload_n hx hb dL_law_1273 rfl (lv_at hl 0 rfl) ?_
  refine lv_iload_n hx hb dL_law_1274 rfl (lv_at hl 3 rfl) ?_
  refine lv_iconst (v := 1) hx hb dL_law_1275 (by decide) ?_
  refine lv_iadd hx hb dL_law_1276 ?_
  refine va_sld hx hb hX hbl hbA hW.2 (hin 1 (by decide) (by decide)) dL_law_1277 ?_
  refine wz_rI (c' := cells + 0) (s' := slots + 0) hW (wz_runV (rest := []) C hW lVL_126 (ck h1).1 rfl (ctX9_count l G x (xs (i3 + 1).toNatClampNeg) z h1) ⟨⟨rfl, rfl⟩, Nat.le_of_ble_eq_true rfl, Nat.le_of_ble_eq_true rfl⟩ rfl hl.1 rfl (Nat.le_of_ble_eq_true rfl) dL_law_1278 ⟨by show cells + _ ≤ 600000; omega, by show slots + _ ≤ 7302250; omega⟩) rfl rfl (fun H locs hW => ?_)
  refine lv_aload_n hx hb dL_law_1281 rfl (lv_at hl 2 rfl) ?_
  refine lv_aload_n hx hb dL_law_1282 rfl (lv_at hl 0 rfl) ?_
  refine lv_iload_n hx hb dL_law_1283 rfl (lv_at hl 3 rfl) ?_
  refine lv_iconst (v := 1) hx hb dL_law_1284 (by decide) ?_
  refine lv_iadd hx hb dL_law_1285 ?_
  refine va_sld hx hb hX hbl hbA hW.2 (hin 1 (by decide) (by decide)) dL_law_1286 ?_
  refine wz_rI (c' := cells + 0) (s' := slots + 0) hW (wz_runV (rest := [.int r]) C hW lVL_129 (ck h2).1 rfl (ctX10_count l G y (xs (i3 + 1).toNatClampNeg) z h2) ⟨⟨rfl, rfl⟩, Nat.le_of_ble_eq_true rfl, Nat.le_of_ble_eq_true rfl⟩ rfl hl.1 rfl (Nat.le_of_ble_eq_true rfl) dL_law_1287 ⟨by show cells + _ ≤ 600000; omega, by show slots + _ ≤ 7302250; omega⟩) rfl rfl (fun H locs hW => ?_)
  refine lv_icmp_eq (tgt := 1341) hx hb dL_law_1290 (by decide) (fun _ => ?_) (fun q => absurd rfl q)
  refine W.widen (k := cells + 15) (n := slots + 140) (by omega) (by omega) ?_
  exact kk _ _ _ hI2 hW
set_option maxHeartbeats 4000000 in
set_option maxRecDepth 100000 in
theorem lwc_27 {p : Program} {l : Launch} {e : Env} {s : State} {m : MethodId} {below : List Frame} {meth : Method} {c : Code} {G : GW} {b L : Nat} {xs : Nat → Int32} {Q : State → Prop} {cells slots : Nat} (C : Cx p m c code 4 s #[Value.ref b] RLw G) (hX : va_X b L xs s s.heap) (hbl : b < s.heap.size) (hbA : ¬ AA G b) {Inv : AH → Prop} {x y : Nat} (hS : St_image Inv x y) {i3 : Int32} (hin : ∀ k : Int32, 0 ≤ k → k ≤ 5 → vp_in (i3 + k) L) {z : AH} (hI : Inv z) {H : Heap} {locs : List Loc} {ls : Array Slot} (hW : Wb G z s H locs) (hl : lv_has ls 4 [(0, .ref b), (1, .ref (gB G + x)), (2, .ref (gB G + y)), (3, .int i3)]) (hf : cells + 15 ≤ 600000 ∧ slots + 140 ≤ 7302250) (kk : ∀ (z2 : AH) (H : Heap) (locs : List Loc), Inv z2 → Wb G z2 s H locs → W p l e room_1 s m #[Value.ref b] below meth c H locs (cells + 15) (slots + 140) Q (F0 m 1341 ls [])) : W p l e room_1 s m #[Value.ref b] below meth c H locs cells slots Q (F0 m 1295 ls []) := by
  have hx := C.1
  have hb := C.2.1
  obtain ⟨r, z1, z2, h1, h2, hI2⟩ := hS z hI (xs (i3 + 1).toNatClampNeg)
  refine lv_aload_n hx hb dL_law_1295 rfl (lv_at hl 1 rfl) ?_
  refine lv_aload_n hx hb dL_law_1296 rfl (lv_at hl 0 rfl) ?_
  refine lv_iload_n hx hb dL_law_1297 rfl (lv_at hl 3 rfl) ?_
  refine lv_iconst (v := 1) hx hb dL_law_1298 (by decide) ?_
  refine lv_iadd hx hb dL_law_1299 ?_
  refine va_sld hx hb hX hbl hbA hW.2 (hin 1 (by decide) (by decide)) dL_law_1300 ?_
  refine wz_rI (c' := cells + 0) (s' := slots + 0) hW (wz_runV (rest := []) C hW lVL_130 (ck h1).1 rfl (ctX9_image l G x (xs (i3 + 1).toNatClampNeg) z h1) ⟨⟨rfl, rfl⟩, Nat.le_of_ble_eq_true rfl, Nat.le_of_ble_eq_true rfl⟩ rfl hl.1 rfl (Nat.le_of_ble_eq_true rfl) dL_law_1301 ⟨by show cells + _ ≤ 600000; omega, by show slots + _ ≤ 7302250; omega⟩) rfl rfl (fun H locs hW => ?_)
  refine lv_aload_n hx hb dL_law_1304 rfl (lv_at hl 2 rfl) ?_
  refine lv_aload_n hx hb dL_law_1305 rfl (lv_at hl 0 rfl) ?_
  refine lv_iload_n hx hb dL_law_1306 rfl (lv_at hl 3 rfl) ?_
  refine lv_iconst (v := 1) hx hb dL_law_1307 (by decide) ?_
  refine lv_iadd hx hb dL_law_1308 ?_
  refine va_sld hx hb hX hbl hbA hW.2 (hin 1 (by decide) (by decide)) dL_law_1309 ?_
  refine wz_rI (c' := cells + 0) (s' := slots + 0) hW (wz_runV (rest := [.int r]) C hW lVL_134 (ck h2).1 rfl (ctX10_image l G y (xs (i3 + 1).toNatClampNeg) z1 h2) ⟨⟨rfl, rfl⟩, Nat.le_of_ble_eq_true rfl, Nat.le_of_ble_eq_true rfl⟩ rfl hl.1 rfl (Nat.le_of_ble_eq_true rfl) dL_law_1310 ⟨by show cells + _ ≤ 600000; omega, by show slots + _ ≤ 7302250; omega⟩) rfl rfl (fun H locs hW => ?_)
  refine lv_icmp_eq (tgt := 1341) hx hb dL_law_1313 (by decide) (fun _ => ?_) (fun q => absurd rfl q)
  refine W.widen (k := cells + 15) (n := slots + 140) (by omega) (by omega) ?_
  exact kk _ _ _ hI2 hW
set_option maxHeartbeats 4000000 in
set_option maxRecDepth 100000 in
theorem lwc_28 {p : Program} {l : Launch} {e : Env} {s : State} {m : MethodId} {below : List Frame} {meth : Method} {c : Code} {G : GW} {b L : Nat} {xs : Nat → Int32} {Q : State → Prop} {cells slots : Nat} (C : Cx p m c code 4 s #[Value.ref b] RLw G) (hX : va_X b L xs s s.heap) (hbl : b < s.heap.size) (hbA : ¬ AA G b) {Inv : AH → Prop} {x y : Nat} (hS : St_again Inv x y) {i3 : Int32} (hin : ∀ k : Int32, 0 ≤ k → k ≤ 5 → vp_in (i3 + k) L) {z : AH} (hI : Inv z) {H : Heap} {locs : List Loc} {ls : Array Slot} (hW : Wb G z s H locs) (hl : lv_has ls 4 [(0, .ref b), (1, .ref (gB G + x)), (2, .ref (gB G + y)), (3, .int i3)]) (hf : cells + 15 ≤ 600000 ∧ slots + 140 ≤ 7302250) (kk : ∀ (z2 : AH) (H : Heap) (locs : List Loc), Inv z2 → Wb G z2 s H locs → W p l e room_1 s m #[Value.ref b] below meth c H locs (cells + 15) (slots + 140) Q (F0 m 1341 ls [])) : W p l e room_1 s m #[Value.ref b] below meth c H locs cells slots Q (F0 m 1318 ls []) := by
  have hx := C.1
  have hb := C.2.1
  obtain ⟨r, z1, z2, h1, h2, hI2⟩ := hS z hI (xs (i3 + 1).toNatClampNeg)
  refine lv_aload_n hx hb dL_law_1318 rfl (lv_at hl 1 rfl) ?_
  refine lv_aload_n hx hb dL_law_1319 rfl (lv_at hl 0 rfl) ?_
  refine lv_iload_n hx hb dL_law_1320 rfl (lv_at hl 3 rfl) ?_
  refine lv_iconst (v := 1) hx hb dL_law_1321 (by decide) ?_
  refine lv_iadd hx hb dL_law_1322 ?_
  refine va_sld hx hb hX hbl hbA hW.2 (hin 1 (by decide) (by decide)) dL_law_1323 ?_
  refine wz_rI (c' := cells + 0) (s' := slots + 0) hW (wz_runV (rest := []) C hW lVL_135 (ck h1).1 rfl (ctX9_again l G x (xs (i3 + 1).toNatClampNeg) z h1) ⟨⟨rfl, rfl⟩, Nat.le_of_ble_eq_true rfl, Nat.le_of_ble_eq_true rfl⟩ rfl hl.1 rfl (Nat.le_of_ble_eq_true rfl) dL_law_1324 ⟨by show cells + _ ≤ 600000; omega, by show slots + _ ≤ 7302250; omega⟩) rfl rfl (fun H locs hW => ?_)
  refine lv_aload_n hx hb dL_law_1327 rfl (lv_at hl 2 rfl) ?_
  refine lv_aload_n hx hb dL_law_1328 rfl (lv_at hl 0 rfl) ?_
  refine lv_iload_n hx hb dL_law_1329 rfl (lv_at hl 3 rfl) ?_
  refine lv_iconst (v := 1) hx hb dL_law_1330 (by decide) ?_
  refine lv_iadd hx hb dL_law_1331 ?_
  refine va_sld hx hb hX hbl hbA hW.2 (hin 1 (by decide) (by decide)) dL_law_1332 ?_
  refine wz_rI (c' := cells + 0) (s' := slots + 0) hW (wz_runV (rest := [.int r]) C hW lVL_138 (ck h2).1 rfl (ctX10_again l G y (xs (i3 + 1).toNatClampNeg) z1 h2) ⟨⟨rfl, rfl⟩, Nat.le_of_ble_eq_true rfl, Nat.le_of_ble_eq_true rfl⟩ rfl hl.1 rfl (Nat.le_of_ble_eq_true rfl) dL_law_1333 ⟨by show cells + _ ≤ 600000; omega, by show slots + _ ≤ 7302250; omega⟩) rfl rfl (fun H locs hW => ?_)
  refine lv_icmp_eq (tgt := 1341) hx hb dL_law_1336 (by decide) (fun _ => ?_) (fun q => absurd rfl q)
  refine W.widen (k := cells + 15) (n := slots + 140) (by omega) (by omega) ?_
  exact kk _ _ _ hI2 hW
theorem lw_more {L j : Nat} (hL : L ≤ 3072) (hj : j ≤ 3100) (h : ¬ nI L - 6 < nI j) : j + 6 ≤ L := by
  rw [Int32.lt_iff_toInt_lt, show (6 : Int32) = nI 6 from rfl, pk_sub_toInt (by omega) (by omega), nI_toInt (by omega)] at h
  omega
theorem lw_ix {L j : Nat} (hL : L ≤ 3072) (h : j + 6 ≤ L) : ∀ k : Int32, 0 ≤ k → k ≤ 5 → vp_in (nI j + k) L := by
  intro k h0 h5
  obtain ⟨i, hi, rfl⟩ := nI_of2 (M := 5) (n := 5) (by decide) (Int32.not_lt.mpr h0) h5
  rw [nI_add]
  exact vp_in_nI (by omega) (by omega)
set_option maxHeartbeats 4000000 in
set_option maxRecDepth 100000 in
theorem law_loop {p : Program} {l : Launch} {e : Env} {s : State} {m : MethodId} {below : List Frame} {meth : Method} {c : Code} {G : GW} {b L : Nat} {xs : Nat → Int32}  (C : Cx p m c code 4 s #[Value.ref b] RLw G) (hX : va_X b L xs s s.heap) (hbl : b < s.heap.size) (hbA : ¬ AA G b) (hgB : gB G = s.heap.size) (hL : L ≤ 3072) (hrt : meth.sig.returnType = ret) (hlk : meth.locks = false) {Inv : AH → Prop} {x y : Nat} (hS : LawSteps Inv x y) : ∀ (n j : Nat) (z : AH) (H : Heap) (locs : List Loc) (ls : Array Slot) (i3 : Int32) (cells slots : Nat), i3 = nI (6 * j) → (L + 6 ≤ 6 * j + 6 * n ∧ 6 * j ≤ L) → Inv z → Wb G z s H locs → lv_has ls 4 [(0, .ref b), (1, .ref (gB G + x)), (2, .ref (gB G + y)), (3, .int i3)] → (j ≤ 512 ∧ cells = 113 + j * 15 ∧ slots = 9212 + j * 140) → W p l e room_1 s m #[Value.ref b] below meth c H locs cells slots (lw_Z below #[Value.ref b] s) (F0 m 18 ls []) := by
  have hx := C.1
  have hb := C.2.1
  obtain ⟨hS0, hS1, hS2, hS3, hS4, hS5, hS6, hS7, hS8, hS9, hS10, hS11, hS12, hS13, hS14, hS15, hS16, hS17, hS18, hS19, hS20, hS21, hS22, hS23, hS24, hS25, hS26, hS27, hS28⟩ := hS
  intro n
  induction n with
  | zero => intro j z H locs ls i3 cells slots ei hn; exfalso; omega
  | succ n ih =>
    intro j z H locs ls i3 cells slots ei hn hI hW hl hc
    refine lv_iload_n hx hb dL_law_18 rfl (lv_at hl 3 rfl) ?_
    refine lv_aload_n hx hb dL_law_19 rfl (lv_at hl 0 rfl) ?_
    refine va_slen hx hb hX hbl hbA hW.2 dL_law_20 ?_
    refine lv_bipush (v := 6) hx hb dL_law_21 (by decide) ?_
    refine lv_isub hx hb dL_law_23 ?_
    refine lv_icmp_gt (tgt := 1347) hx hb dL_law_24 (by decide) (fun _ => ?_) (fun c24 => ?_)
    · refine lv_iconst (v := 1) hx hb dL_law_1347 (by decide) ?_
      refine va_forget (fun q hq => by rw [← hgB]; exact hW.free q hq) ?_
      refine W.widen (k := 600000) (n := 7302250) (by omega) (by omega) ?_
      exact lw_ret hx hb hrt hlk dL_law_1348
    · have hjL : 6 * j + 6 ≤ L := lw_more hL (by omega) (by rw [← ei]; exact c24)
      have hin : ∀ k : Int32, 0 ≤ k → k ≤ 5 → vp_in (i3 + k) L := by rw [ei]; exact lw_ix hL hjL
      have hin0 : vp_in i3 L := by rw [ei]; exact vp_in_nI (by omega) (by omega)
      have kk : ∀ (z2 : AH) (H : Heap) (locs : List Loc), Inv z2 → Wb G z2 s H locs → W p l e room_1 s m #[Value.ref b] below meth c H locs (cells + 15) (slots + 140) (lw_Z below #[Value.ref b] s) (F0 m 1341 ls []) := by
        intro z2 H locs hI2 hW2
        obtain ⟨v, ev⟩ : ∃ v : Int32, v = i3 + 6 := ⟨_, rfl⟩
        refine lv_iinc (v := v) (lv' := [(3, .int v), (0, .ref b), (1, .ref (gB G + x)), (2, .ref (gB G + y))]) hx hb dL_law_1341 hl (k := 3) rfl (by rw [ev]; rfl) (by decide) rfl (fun ls hl => ?_)
        refine lv_goto (tgt := 18) hx hb dL_law_1344 (by decide) ?_
        exact ih (j + 1) z2 H locs ls v _ _ (by rw [ev, ei, show (6 : Int32) = nI 6 from rfl, nI_add]; rfl) ⟨by omega, by omega⟩ hI2 hW2 (lv_sub hl [1, 2, 3, 0] rfl) ⟨by omega, by rw [hc.2.1]; omega, by rw [hc.2.2]; omega⟩
      have hf : cells + 15 ≤ 600000 ∧ slots + 140 ≤ 7302250 := by
        obtain ⟨h1, h2, h3⟩ := hc
        have hj : j ≤ 511 := by omega
        omega
      refine lv_aload_n hx hb dL_law_27 rfl (lv_at hl 0 rfl) ?_
      refine lv_iload_n hx hb dL_law_28 rfl (lv_at hl 3 rfl) ?_
      refine va_sld hx hb hX hbl hbA hW.2 hin0 dL_law_29 ?_
      refine lv_bipush (v := 31) hx hb dL_law_30 (by decide) ?_
      refine lv_iand hx hb dL_law_32 ?_
      obtain ⟨o, ho, eo⟩ := pk_andE (xs i3.toNatClampNeg) (m := 31) 5 (by decide)
      rw [eo]
      have ho32 : o = 0 ∨ o = 1 ∨ o = 2 ∨ o = 3 ∨ o = 4 ∨ o = 5 ∨ o = 6 ∨ o = 7 ∨ o = 8 ∨ o = 9 ∨ o = 10 ∨ o = 11 ∨ o = 12 ∨ o = 13 ∨ o = 14 ∨ o = 15 ∨ o = 16 ∨ o = 17 ∨ o = 18 ∨ o = 19 ∨ o = 20 ∨ o = 21 ∨ o = 22 ∨ o = 23 ∨ o = 24 ∨ o = 25 ∨ o = 26 ∨ o = 27 ∨ o = 28 ∨ o = 29 ∨ o = 30 ∨ o = 31 := by omega
      rcases ho32 with rfl | rfl | rfl | rfl | rfl | rfl | rfl | rfl | rfl | rfl | rfl | rfl | rfl | rfl | rfl | rfl | rfl | rfl | rfl | rfl | rfl | rfl | rfl | rfl | rfl | rfl | rfl | rfl | rfl | rfl | rfl | rfl
      · refine lv_tableIn (tgt := 164) hx hb dL_law_33 (by decide) (by decide) rfl (by decide) ?_
        exact lwc_0 C hX hbl hbA hS0 hin hI hW hl hf kk
      · refine lv_tableIn (tgt := 227) hx hb dL_law_33 (by decide) (by decide) rfl (by decide) ?_
        exact lwc_1 C hX hbl hbA hS1 hin hI hW hl hf kk
      · refine lv_tableIn (tgt := 250) hx hb dL_law_33 (by decide) (by decide) rfl (by decide) ?_
        exact lwc_2 C hX hbl hbA hS2 hin hI hW hl hf kk
      · refine lv_tableIn (tgt := 283) hx hb dL_law_33 (by decide) (by decide) rfl (by decide) ?_
        exact lwc_3 C hX hbl hbA hS3 hin hI hW hl hf kk
      · refine lv_tableIn (tgt := 306) hx hb dL_law_33 (by decide) (by decide) rfl (by decide) ?_
        exact lwc_4 C hX hbl hbA hS4 hin hI hW hl hf kk
      · refine lv_tableIn (tgt := 339) hx hb dL_law_33 (by decide) (by decide) rfl (by decide) ?_
        exact lwc_5 C hX hbl hbA hS5 hin hI hW hl hf kk
      · refine lv_tableIn (tgt := 382) hx hb dL_law_33 (by decide) (by decide) rfl (by decide) ?_
        exact lwc_6 C hX hbl hbA hS6 hin hI hW hl hf kk
      · refine lv_tableIn (tgt := 415) hx hb dL_law_33 (by decide) (by decide) rfl (by decide) ?_
        exact lwc_7 C hX hbl hbA hS7 hin hI hW hl hf kk
      · refine lv_tableIn (tgt := 468) hx hb dL_law_33 (by decide) (by decide) rfl (by decide) ?_
        exact lwc_8 C hX hbl hbA hS8 hin hI hW hl hf kk
      · refine lv_tableIn (tgt := 501) hx hb dL_law_33 (by decide) (by decide) rfl (by decide) ?_
        exact lwc_9 C hX hbl hbA hS9 hin hI hW hl hf kk
      · refine lv_tableIn (tgt := 534) hx hb dL_law_33 (by decide) (by decide) rfl (by decide) ?_
        exact lwc_10 C hX hbl hbA hS10 hin hI hW hl hf kk
      · refine lv_tableIn (tgt := 603) hx hb dL_law_33 (by decide) (by decide) rfl (by decide) ?_
        exact lwc_11 C hX hbl hbA hS11 hin hI hW hl hf kk
      · refine lv_tableIn (tgt := 662) hx hb dL_law_33 (by decide) (by decide) rfl (by decide) ?_
        exact lwc_12 C hX hbl hbA hS12 hin hI hW hl hf kk
      · refine lv_tableIn (tgt := 685) hx hb dL_law_33 (by decide) (by decide) rfl (by decide) ?_
        exact lwc_13 C hX hbl hbA hS13 hin hI hW hl hf kk
      · refine lv_tableIn (tgt := 764) hx hb dL_law_33 (by decide) (by decide) rfl (by decide) ?_
        exact lwc_14 C hX hbl hbA hS14 hin hI hW hl hf kk
      · refine lv_tableIn (tgt := 807) hx hb dL_law_33 (by decide) (by decide) rfl (by decide) ?_
        exact lwc_15 C hX hbl hbA hS15 hin hI hW hl hf kk
      · refine lv_tableIn (tgt := 850) hx hb dL_law_33 (by decide) (by decide) rfl (by decide) ?_
        exact lwc_16 C hX hbl hbA hS16 hin hI hW hl hf kk
      · refine lv_tableIn (tgt := 893) hx hb dL_law_33 (by decide) (by decide) rfl (by decide) ?_
        exact lwc_17 C hX hbl hbA hS17 hin hI hW hl hf kk
      · refine lv_tableIn (tgt := 926) hx hb dL_law_33 (by decide) (by decide) rfl (by decide) ?_
        exact lwc_18 C hX hbl hbA hS18 hin hI hW hl hf kk
      · refine lv_tableIn (tgt := 979) hx hb dL_law_33 (by decide) (by decide) rfl (by decide) ?_
        exact lwc_19 C hX hbl hbA hS19 hin hI hW hl hf kk
      · refine lv_tableIn (tgt := 1022) hx hb dL_law_33 (by decide) (by decide) rfl (by decide) ?_
        exact lwc_20 C hX hbl hbA hS20 hin hI hW hl hf kk
      · refine lv_tableIn (tgt := 1071) hx hb dL_law_33 (by decide) (by decide) rfl (by decide) ?_
        exact lwc_21 C hX hbl hbA hS21 hin hI hW hl hf kk
      · refine lv_tableIn (tgt := 1104) hx hb dL_law_33 (by decide) (by decide) rfl (by decide) ?_
        exact lwc_22 C hX hbl hbA hS22 hin hI hW hl hf kk
      · refine lv_tableIn (tgt := 1147) hx hb dL_law_33 (by decide) (by decide) rfl (by decide) ?_
        exact lwc_23 C hX hbl hbA hS23 hin hI hW hl hf kk
      · refine lv_tableIn (tgt := 1190) hx hb dL_law_33 (by decide) (by decide) rfl (by decide) ?_
        exact lwc_24 C hX hbl hbA hS24 hin hI hW hl hf kk
      · refine lv_tableIn (tgt := 1249) hx hb dL_law_33 (by decide) (by decide) rfl (by decide) ?_
        exact lwc_25 C hX hbl hbA hS25 hin hI hW hl hf kk
      · refine lv_tableIn (tgt := 1272) hx hb dL_law_33 (by decide) (by decide) rfl (by decide) ?_
        exact lwc_26 C hX hbl hbA hS26 hin hI hW hl hf kk
      · refine lv_tableIn (tgt := 1295) hx hb dL_law_33 (by decide) (by decide) rfl (by decide) ?_
        exact lwc_27 C hX hbl hbA hS27 hin hI hW hl hf kk
      · refine lv_tableIn (tgt := 1318) hx hb dL_law_33 (by decide) (by decide) rfl (by decide) ?_
        exact lwc_28 C hX hbl hbA hS28 hin hI hW hl hf kk
      · refine lv_tableOut (tgt := 1341) hx hb dL_law_33 (Or.inr (by decide)) (by decide) ?_
        refine W.widen (k := cells + 15) (n := slots + 140) (by omega) (by omega) ?_
        exact kk _ _ _ hI hW
      · refine lv_tableOut (tgt := 1341) hx hb dL_law_33 (Or.inr (by decide)) (by decide) ?_
        refine W.widen (k := cells + 15) (n := slots + 140) (by omega) (by omega) ?_
        exact kk _ _ _ hI hW
      · refine lv_tableOut (tgt := 1341) hx hb dL_law_33 (Or.inr (by decide)) (by decide) ?_
        refine W.widen (k := cells + 15) (n := slots + 140) (by omega) (by omega) ?_
        exact kk _ _ _ hI hW
