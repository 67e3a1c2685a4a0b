/-! ===== behind the constructors ===== -/
theorem zz_at (z0 l : AH) (i : Nat) : (z0 ++ l)[z0.length + i]? = l[i]? := by
  rw [List.getElem?_append_right (by omega), Nat.add_sub_cancel_left]
theorem zz_set (z0 l : AH) (i : Nat) (e : AE) : (z0 ++ l).set (z0.length + i) e = z0 ++ l.set i e := by
  rw [List.set_append_right _ _ (by omega), Nat.add_sub_cancel_left]
theorem zz_pF (c k : Nat) (z0 l : AH) (i : Nat) (v : Value) : pF c k (z0 ++ l) (z0.length + i) v = (pF c k l i v).map (fun x => z0 ++ x) := by
  unfold pF
  rw [zz_at]
  split
  · rw [zz_set]; split <;> rfl
  · rfl
theorem zz_isO (c : Nat) (z0 l : AH) (i : Nat) : isO c (z0 ++ l) (z0.length + i) = isO c l i := by
  unfold isO
  rw [zz_at]
theorem zz_stI (t : Nat) (z0 l : AH) (i : Nat) (j x : Int32) : stI t (z0 ++ l) (z0.length + i) j x = (stI t l i j x).map (fun y => z0 ++ y) := by
  unfold stI
  rw [zz_at]
  split
  · rw [zz_set]; split <;> rfl
  · rfl
theorem zz_gN (c k : Nat) (z0 l : AH) (i : Nat) : gN c k (z0 ++ l) (z0.length + i) = gN c k l i := by
  unfold gN oF
  rw [zz_at]
theorem zz_mk {β : Type} (e : AE) (z0 l : AH) (k : Nat → AH → β) : mk e (z0 ++ l) k = k (z0.length + l.length) (z0 ++ (l ++ [e])) := by
  unfold mk
  rw [List.length_append, List.append_assoc]
theorem zz_p0 (c k : Nat) (z0 t : AH) (fs : List Value) (v : Value) (h : k < fs.length) : pF c k (z0 ++ (.inr (.inr (c, fs)) :: t)) (z0.length + 0) v = some (z0 ++ (.inr (.inr (c, fs.set k v)) :: t)) := by
  rw [zz_pF]
  unfold pF
  simp only [List.getElem?_cons_zero, true_and, if_pos h, List.set_cons_zero, Option.map_some]
theorem zz_i0 (c : Nat) (z0 t : AH) (fs : List Value) : isO c (z0 ++ (.inr (.inr (c, fs)) :: t)) (z0.length + 0) = true := by
  rw [zz_isO]
  unfold isO
  simp only [List.getElem?_cons_zero, beq_self_eq_true]
theorem nw_6 : newF 6 = [.null, .int 0, .int 0, .int 0, .null, .null, .null] := rfl
theorem nw_5 : newF 5 = [.null, .null, .null, .null, .null, .int 0, .int 0, .int 0, .int 0, .int 0, .int 0, .int 0, .int 0, .int 0, .int 0] := rfl
theorem nw_3 : newF 3 = [.null, .null, .null, .null, .null, .int 0, .int 0, .null, .int 0, .int 0, .int 0, .int 0, .int 0, .int 0, .int 0] := rfl
theorem nw_1 : newF 1 = [.null, .null, .null] := rfl
theorem nw_2 : newF 2 = [.null, .int 0] := rfl
theorem i_told (z0 : AH) : fX7_init (z0.length + 0) (z0 ++ [.inr (.inr (6, newF 6))]) = some (z0 ++ [.inr (.inr (6, [.ref (z0.length + 1), .int 0, .int 0, .int (-1), .ref (z0.length + 2), .ref (z0.length + 3), .ref (z0.length + 4)])), .inl (1, 600, fun _ => 0), .inl (0, 4, fun _ => 0), .inr (.inl (0, 2, fun _ => none)), .inr (.inl (4, 8, fun _ => none))]) := by
  unfold fX7_init
  rw [nw_6]
  simp (config := { decide := true }) only [zz_i0, zz_mk, zz_p0, if_true, List.cons_append, List.nil_append, List.length_cons, List.length_nil, List.length_set, List.set_cons_zero, List.set_cons_succ, Option.bind_some, Nat.zero_add, Nat.reduceAdd, Nat.reduceLT]
theorem i_scene (z0 : AH) (q : Nat) : fX6_init (z0.length + 0) q (z0 ++ [.inr (.inr (5, newF 5))]) = some (z0 ++ [.inr (.inr (5, [.ref q, .ref (z0.length + 1), .ref (z0.length + 2), .ref (z0.length + 4), .ref (z0.length + 3), .int 0, .int 0, .int 0, .int 0, .int 0, .int 0, .int 0, .int 0, .int 0, .int 0])), .inl (0, 8, fun _ => 0), .inl (0, 8, fun _ => 0), .inl (0, 8, fun _ => 0), .inl (0, 4, fun _ => 0)]) := by
  unfold fX6_init
  rw [nw_5]
  simp (config := { decide := true }) only [zz_i0, zz_mk, zz_p0, if_true, List.cons_append, List.nil_append, List.length_cons, List.length_nil, List.length_set, List.set_cons_zero, List.set_cons_succ, Option.bind_some, Nat.zero_add, Nat.reduceAdd, Nat.reduceLT]
theorem i_reader (z0 : AH) : fX4_init (z0.length + 0) (z0 ++ [.inr (.inr (3, newF 3))]) = some (z0 ++ [.inr (.inr (3, [.ref (z0.length + 1), .ref (z0.length + 2), .ref (z0.length + 3), .ref (z0.length + 4), .ref (z0.length + 5), .int 0, .int 0, .null, .int 0, .int 0, .int 0, .int 0, .int 0, .int 0, .int 0])), .inl (0, 120, fun _ => 0), .inl (0, 120, fun _ => 0), .inl (0, 360, fun _ => 0), .inl (0, 360, fun _ => 0), .inl (0, 8, fun _ => 0)]) := by
  unfold fX4_init
  rw [nw_3]
  simp (config := { decide := true }) only [zz_i0, zz_mk, zz_p0, if_true, List.cons_append, List.nil_append, List.length_cons, List.length_nil, List.length_set, List.set_cons_zero, List.set_cons_succ, Option.bind_some, Nat.zero_add, Nat.reduceAdd, Nat.reduceLT]
theorem i_eyes (z0 : AH) : fX1_init (z0.length + 0) (z0 ++ [.inr (.inr (1, newF 1))]) = some (z0 ++ [.inr (.inr (1, [.ref (z0.length + 1), .ref (z0.length + 2), .ref (z0.length + 3)])), .inl (0, 4, fun _ => 0), .inl (0, 4, fun _ => 0), .inl (0, 4, fun _ => 0)]) := by
  unfold fX1_init
  rw [nw_1]
  simp (config := { decide := true }) only [zz_i0, zz_mk, zz_p0, if_true, List.cons_append, List.nil_append, List.length_cons, List.length_nil, List.length_set, List.set_cons_zero, List.set_cons_succ, Option.bind_some, Nat.zero_add, Nat.reduceAdd, Nat.reduceLT]
theorem i_field (z0 : AH) : fX2_init (z0.length + 0) (z0 ++ [.inr (.inr (2, newF 2))]) = some (z0 ++ [.inr (.inr (2, [.ref (z0.length + 1), .int 0])), .inl (0, 100, fun _ => 0)]) := by
  unfold fX2_init
  rw [nw_2]
  simp (config := { decide := true }) only [zz_i0, zz_mk, zz_p0, if_true, List.cons_append, List.nil_append, List.length_cons, List.length_nil, List.length_set, List.set_cons_zero, List.set_cons_succ, Option.bind_some, Nat.zero_add, Nat.reduceAdd, Nat.reduceLT]
theorem i_loop0 (z0 t : AH) (fs : List Value) (r1 r2 r3 : AE) (hf : fs[4]? = some (.ref (z0.length + 4))) : ∀ (m i : Nat) (f : Nat → Int32) (n : Nat), i + m = 8 → m < n → ∃ f', (∀ t, t < 8 → i ≤ t → f' t = -1) ∧ (∀ t, t < i → f' t = f t) ∧ fX0_init_119 n (z0.length + 0) (nI i) (z0 ++ (.inr (.inr (0, fs)) :: r1 :: r2 :: r3 :: .inl (0, 8, f) :: t)) = some (z0 ++ (.inr (.inr (0, fs)) :: r1 :: r2 :: r3 :: .inl (0, 8, f') :: t)) := by
  intro m
  induction m with
  | zero =>
    intro i f n hi hn
    obtain ⟨n, rfl⟩ : ∃ q, n = q + 1 := ⟨n - 1, by omega⟩
    refine ⟨f, fun t h1 h2 => by omega, fun _ _ => rfl, ?_⟩
    have : i = 8 := by omega
    subst this
    show bX0_init_119 _ _ _ _ = _
    unfold bX0_init_119
    rw [if_pos (by decide)]
  | succ m ih =>
    intro i f n hi hn
    obtain ⟨n, rfl⟩ : ∃ q, n = q + 1 := ⟨n - 1, by omega⟩
    obtain ⟨f', h1, h2, h3⟩ := ih (i + 1) (upd f i (-1)) n (by omega) (by omega)
    refine ⟨f', fun t g1 g2 => ?_, fun t g => ?_, ?_⟩
    · by_cases e : t = i
      · subst e; rw [h2 t (by omega), pk_us]
      · exact h1 t g1 (by omega)
    · rw [h2 t (by omega), pk_un (by omega)]
    · show bX0_init_119 _ _ _ _ = _
      unfold bX0_init_119
      have hg : gN 0 4 (z0 ++ (.inr (.inr (0, fs)) :: r1 :: r2 :: r3 :: .inl (0, 8, f) :: t)) (z0.length + 0) = some (z0.length + 4) := by
        rw [zz_gN]; unfold gN oF
        simp only [List.getElem?_cons_zero, if_true, hf]
      have hs : stI 0 (z0 ++ (.inr (.inr (0, fs)) :: r1 :: r2 :: r3 :: .inl (0, 8, f) :: t)) (z0.length + 4) (nI i) (-1) = some (z0 ++ (.inr (.inr (0, fs)) :: r1 :: r2 :: r3 :: .inl (0, 8, upd f i (-1)) :: t)) := by
        rw [zz_stI]; unfold stI
        simp only [List.getElem?_cons_zero, List.getElem?_cons_succ, true_and]
        rw [nI_clamp (by omega), if_pos (by rintro (h | h); exact nI_pos (by omega) h; omega)]
        rfl
      rw [if_neg (show ¬ (8 : Int32) ≤ nI i from fun h => absurd ((nI_leI (a := 8) (by omega) (by omega)).mp h) (by omega)), hg]
      simp only [Option.bind_some]
      rw [hs]
      simp only [Option.bind_some, nm]
      rw [show nI i + 1 = nI (i + 1) from (nI_succ i).symm]
      exact h3
