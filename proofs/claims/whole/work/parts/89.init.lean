/-! ===== behind the constructors ===== -/
theorem zz_at (z0 l : AH) (i : Nat) : (z0 ++ l)[z0.length + i]? = l[i]? := by
  rw [List.getElem?_append_right (by omega), Nat.add_sub_cancel_left]
theorem zz_set (z0 l : AH) (i : Nat) (e : AE) : (z0 ++ l).set (z0.length + i) e = z0 ++ l.set i e := by
  rw [List.set_append_right _ _ (by omega), Nat.add_sub_cancel_left]
theorem zz_pF (c k : Nat) (z0 l : AH) (i : Nat) (v : Value) : pF c k (z0 ++ l) (z0.length + i) v = (pF c k l i v).map (fun x => z0 ++ x) := by
  unfold pF
  rw [zz_at]
  split
  · rw [zz_set]; split <;> rfl
  · rfl
theorem zz_isO (c : Nat) (z0 l : AH) (i : Nat) : isO c (z0 ++ l) (z0.length + i) = isO c l i := by
  unfold isO
  rw [zz_at]
theorem zz_stI (t : Nat) (z0 l : AH) (i : Nat) (j x : Int32) : stI t (z0 ++ l) (z0.length + i) j x = (stI t l i j x).map (fun y => z0 ++ y) := by
  unfold stI
  rw [zz_at]
  split
  · rw [zz_set]; split <;> rfl
  · rfl
theorem zz_gN (c k : Nat) (z0 l : AH) (i : Nat) : gN c k (z0 ++ l) (z0.length + i) = gN c k l i := by
  unfold gN oF
  rw [zz_at]
theorem zz_mk {β : Type} (e : AE) (z0 l : AH) (k : Nat → AH → β) : mk e (z0 ++ l) k = k (z0.length + l.length) (z0 ++ (l ++ [e])) := by
  unfold mk
  rw [List.length_append, List.append_assoc]
theorem zz_p0 (c k : Nat) (z0 t : AH) (fs : List Value) (v : Value) (h : k < fs.length) : pF c k (z0 ++ (.inr (.inr (c, fs)) :: t)) (z0.length + 0) v = some (z0 ++ (.inr (.inr (c, fs.set k v)) :: t)) := by
  rw [zz_pF]
  unfold pF
  simp only [List.getElem?_cons_zero, true_and, if_pos h, List.set_cons_zero, Option.map_some]
theorem zz_i0 (c : Nat) (z0 t : AH) (fs : List Value) : isO c (z0 ++ (.inr (.inr (c, fs)) :: t)) (z0.length + 0) = true := by
  rw [zz_isO]
  unfold isO
  simp only [List.getElem?_cons_zero, beq_self_eq_true]
theorem nw_6 : newF 6 = [.null, .int 0, .int 0, .int 0, .null, .null, .null] := rfl
theorem nw_5 : newF 5 = [.null, .null, .null, .null, .null, .int 0, .int 0, .int 0, .int 0, .int 0, .int 0, .int 0, .int 0, .int 0, .int 0] := rfl
theorem nw_3 : newF 3 = [.null, .null, .null, .null, .null, .int 0, .int 0, .null, .int 0, .int 0, .int 0, .int 0, .int 0, .int 0, .int 0] := rfl
theorem nw_1 : newF 1 = [.null, .null, .null] := rfl
theorem nw_2 : newF 2 = [.null, .int 0] := rfl
theorem i_told (z0 : AH) : fX7_init (z0.length + 0) (z0 ++ [.inr (.inr (6, newF 6))]) = some (z0 ++ [.inr (.inr (6, [.ref (z0.length + 1), .int 0, .int 0, .int (-1), .ref (z0.length + 2), .ref (z0.length + 3), .ref (z0.length + 4)])), .inl (1, 600, fun _ => 0), .inl (0, 4, fun _ => 0), .inr (.inl (0, 2, fun _ => none)), .inr (.inl (4, 8, fun _ => none))]) := by
  unfold fX7_init
  rw [nw_6]
  simp (config := { decide := true }) only [zz_i0, zz_mk, zz_p0, if_true, List.cons_append, List.nil_append, List.length_cons, List.length_nil, List.length_set, List.set_cons_zero, List.set_cons_succ, Option.bind_some, Nat.zero_add, Nat.reduceAdd, Nat.reduceLT]
theorem i_scene (z0 : AH) (q : Nat) : fX6_init (z0.length + 0) q (z0 ++ [.inr (.inr (5, newF 5))]) = some (z0 ++ [.inr (.inr (5, [.ref q, .ref (z0.length + 1), .ref (z0.length + 2), .ref (z0.length + 4), .ref (z0.length + 3), .int 0, .int 0, .int 0, .int 0, .int 0, .int 0, .int 0, .int 0, .int 0, .int 0])), .inl (0, 8, fun _ => 0), .inl (0, 8, fun _ => 0), .inl (0, 8, fun _ => 0), .inl (0, 4, fun _ => 0)]) := by
  unfold fX6_init
  rw [nw_5]
  simp (config := { decide := true }) only [zz_i0, zz_mk, zz_p0, if_true, List.cons_append, List.nil_append, List.length_cons, List.length_nil, List.length_set, List.set_cons_zero, List.set_cons_succ, Option.bind_some, Nat.zero_add, Nat.reduceAdd, Nat.reduceLT]
theorem i_reader (z0 : AH) : fX4_init (z0.length + 0) (z0 ++ [.inr (.inr (3, newF 3))]) = some (z0 ++ [.inr (.inr (3, [.ref (z0.length + 1), .ref (z0.length + 2), .ref (z0.length + 3), .ref (z0.length + 4), .ref (z0.length + 5), .int 0, .int 0, .null, .int 0, .int 0, .int 0, .int 0, .int 0, .int 0, .int 0])), .inl (0, 120, fun _ => 0), .inl (0, 120, fun _ => 0), .inl (0, 360, fun _ => 0), .inl (0, 360, fun _ => 0), .inl (0, 8, fun _ => 0)]) := by
  unfold fX4_init
  rw [nw_3]
  simp (config := { decide := true }) only [zz_i0, zz_mk, zz_p0, if_true, List.cons_append, List.nil_append, List.length_cons, List.length_nil, List.length_set, List.set_cons_zero, List.set_cons_succ, Option.bind_some, Nat.zero_add, Nat.reduceAdd, Nat.reduceLT]
theorem i_eyes (z0 : AH) : fX1_init (z0.length + 0) (z0 ++ [.inr (.inr (1, newF 1))]) = some (z0 ++ [.inr (.inr (1, [.ref (z0.length + 1), .ref (z0.length + 2), .ref (z0.length + 3)])), .inl (0, 4, fun _ => 0), .inl (0, 4, fun _ => 0), .inl (0, 4, fun _ => 0)]) := by
  unfold fX1_init
  rw [nw_1]
  simp (config := { decide := true }) only [zz_i0, zz_mk, zz_p0, if_true, List.cons_append, List.nil_append, List.length_cons, List.length_nil, List.length_set, List.set_cons_zero, List.set_cons_succ, Option.bind_some, Nat.zero_add, Nat.reduceAdd, Nat.reduceLT]
theorem i_field (z0 : AH) : fX2_init (z0.length + 0) (z0 ++ [.inr (.inr (2, newF 2))]) = some (z0 ++ [.inr (.inr (2, [.ref (z0.length + 1), .int 0])), .inl (0, 100, fun _ => 0)]) := by
  unfold fX2_init
  rw [nw_2]
  simp (config := { decide := true }) only [zz_i0, zz_mk, zz_p0, if_true, List.cons_append, List.nil_append, List.length_cons, List.length_nil, List.length_set, List.set_cons_zero, List.set_cons_succ, Option.bind_some, Nat.zero_add, Nat.reduceAdd, Nat.reduceLT]
