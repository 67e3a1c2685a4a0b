/-! ===== text: new Rows, a new Country ===== -/
theorem zz_row {β : Type} (c k : Nat) (z0 t : AH) (fs : List Value) (e : AE) (K : AH → Option β) (h : k < fs.length) : mk e (z0 ++ (.inr (.inr (c, fs)) :: t)) (fun b z => (pF c k z (z0.length + 0) (.ref b)).bind K) = K (z0 ++ (.inr (.inr (c, fs.set k (.ref (z0.length + (t.length + 1))))) :: (t ++ [e]))) := by
  rw [zz_mk, List.cons_append, zz_p0 c k z0 _ fs _ h, Option.bind_some]; rfl
theorem nw_0 : newF 0 = [.int 0, .null, .null, .null, .null, .null, .null, .int 0, .null, .null, .int 0, .int 0, .null, .null, .int 0, .null, .null, .null, .null, .int 0] := rfl
theorem nw_4 : newF 4 = [.null, .null, .null, .int 0] := rfl
theorem i_rows (z0 : AH) {m : Nat} (hm : m ≤ 40) : fX5_init (z0.length + 0) (nI m) (z0 ++ [.inr (.inr (4, newF 4))]) = some (z0 ++ [.inr (.inr (4, [.ref (z0.length + 1), .ref (z0.length + 2), .ref (z0.length + 3), .int 0])), .inl (0, m, fun _ => 0), .inl (0, m, fun _ => 0), .inl (0, m, fun _ => 0)]) := by
  have e1 : imax 0 (nI m) = nI m := imax0 (by rw [nI_toInt (by omega)]; omega)
  have e2 : ¬ nI m < 0 ∧ (nI m).toNatClampNeg ≤ 40 := ⟨nI_pos (by omega), by rw [nI_clamp (by omega)]; exact hm⟩
  unfold fX5_init
  rw [nw_4, if_pos (zz_i0 4 z0 [] _), nmE, e1, if_pos e2, nI_clamp (by omega)]
  refine (zz_row 4 0 z0 [] _ _ _ (by decide)).trans ?_
  rw [if_pos ⟨e2.1, hm⟩]
  refine (zz_row 4 1 z0 _ _ _ _ (by simp only [List.length_set]; decide)).trans ?_
  rw [if_pos ⟨e2.1, hm⟩]
  refine (zz_row 4 2 z0 _ _ _ _ (by simp only [List.length_set]; decide)).trans ?_
  refine sb (zz_p0 4 3 z0 _ _ _ (by simp only [List.length_set]; decide)) ?_
  rfl
theorem i_country (z0 : AH) : ∃ f' : Nat → Int32, (∀ t, t < 8 → f' t = -1) ∧ fX0_init (z0.length + 0) (z0 ++ [.inr (.inr (0, newF 0))]) = some (z0 ++ [.inr (.inr (0, [.int 0, .ref (z0.length + 1), .ref (z0.length + 2), .ref (z0.length + 3), .ref (z0.length + 4), .ref (z0.length + 5), .ref (z0.length + 6), .int 0, .ref (z0.length + 7), .ref (z0.length + 8), .int 0, .int 0, .ref (z0.length + 9), .ref (z0.length + 10), .int 0, .ref (z0.length + 11), .ref (z0.length + 12), .ref (z0.length + 13), .ref (z0.length + 14), .int 3])), .inl (0, 8, fun _ => 0), .inl (0, 8, fun _ => 0), .inl (0, 8, fun _ => 0), .inl (0, 8, f'), .inl (0, 8, fun _ => 0), .inl (0, 8, fun _ => 0), .inl (0, 12, fun _ => 0), .inl (0, 12, fun _ => 0), .inl (0, 4, fun _ => 0), .inl (0, 4, fun _ => 0), .inl (0, 4, fun _ => 0), .inl (0, 4, fun _ => 0), .inl (0, 16, fun _ => 0), .inl (0, 16, fun _ => 0)]) := by
  obtain ⟨f', h1, h2, h3⟩ := i_loop0 z0 [.inl (0, 8, fun _ => 0), .inl (0, 8, fun _ => 0), .inl (0, 12, fun _ => 0), .inl (0, 12, fun _ => 0), .inl (0, 4, fun _ => 0), .inl (0, 4, fun _ => 0), .inl (0, 4, fun _ => 0), .inl (0, 4, fun _ => 0), .inl (0, 16, fun _ => 0), .inl (0, 16, fun _ => 0)] [.int 0, .ref (z0.length + 1), .ref (z0.length + 2), .ref (z0.length + 3), .ref (z0.length + 4), .ref (z0.length + 5), .ref (z0.length + 6), .int 0, .ref (z0.length + 7), .ref (z0.length + 8), .int 0, .int 0, .ref (z0.length + 9), .ref (z0.length + 10), .int 0, .ref (z0.length + 11), .ref (z0.length + 12), .ref (z0.length + 13), .ref (z0.length + 14), .int 3] (.inl (0, 8, fun _ => 0)) (.inl (0, 8, fun _ => 0)) (.inl (0, 8, fun _ => 0)) rfl 8 0 (fun _ => 0) FU (by omega) (by rw [FUn]; omega)
  refine ⟨f', fun t ht => h1 t ht (Nat.zero_le _), ?_⟩
  rw [← h3]
  unfold fX0_init
  rw [nw_0, if_pos (zz_i0 0 z0 [] _)]
  refine (zz_row 0 1 z0 [] _ _ _ (by decide)).trans ?_
  refine (zz_row 0 2 z0 _ _ _ _ (by simp only [List.length_set]; decide)).trans ?_
  refine (zz_row 0 3 z0 _ _ _ _ (by simp only [List.length_set]; decide)).trans ?_
  refine (zz_row 0 4 z0 _ _ _ _ (by simp only [List.length_set]; decide)).trans ?_
  refine (zz_row 0 5 z0 _ _ _ _ (by simp only [List.length_set]; decide)).trans ?_
  refine (zz_row 0 6 z0 _ _ _ _ (by simp only [List.length_set]; decide)).trans ?_
  refine (zz_row 0 8 z0 _ _ _ _ (by simp only [List.length_set]; decide)).trans ?_
  refine (zz_row 0 9 z0 _ _ _ _ (by simp only [List.length_set]; decide)).trans ?_
  refine (zz_row 0 12 z0 _ _ _ _ (by simp only [List.length_set]; decide)).trans ?_
  refine (zz_row 0 13 z0 _ _ _ _ (by simp only [List.length_set]; decide)).trans ?_
  refine (zz_row 0 15 z0 _ _ _ _ (by simp only [List.length_set]; decide)).trans ?_
  refine (zz_row 0 16 z0 _ _ _ _ (by simp only [List.length_set]; decide)).trans ?_
  refine (zz_row 0 17 z0 _ _ _ _ (by simp only [List.length_set]; decide)).trans ?_
  refine (zz_row 0 18 z0 _ _ _ _ (by simp only [List.length_set]; decide)).trans ?_
  refine sb (zz_p0 0 19 z0 _ _ _ (by simp only [List.length_set]; decide)) ?_
  rfl
/-- their views -/
theorem rd_rows (z0 : AH) {m : Nat} : RD 4 z0.length ((fun _ => none), (fun _ _ => none), m) ((fun _ => 0), (fun _ _ => 0), 0) (z0 ++ [.inr (.inr (4, [.ref (z0.length + 1), .ref (z0.length + 2), .ref (z0.length + 3), .int 0])), .inl (0, m, fun _ => 0), .inl (0, m, fun _ => 0), .inl (0, m, fun _ => 0)]) := by
  refine ⟨zz_at z0 _ 0, fun d k hk h0 => ?_⟩
  have hd := rk_lt hk h0
  replace hd : d < 4 := hd
  rw [zz_at]
  have : d = 1 ∨ d = 2 ∨ d = 3 := by omega
  rcases this with rfl | rfl | rfl
  · have : (0 : Nat) = k := Option.some.inj hk
    subst this; rfl
  · have : (1 : Nat) = k := Option.some.inj hk
    subst this; rfl
  · have : (2 : Nat) = k := Option.some.inj hk
    subst this; rfl
theorem rd_country (z0 : AH) (f' : Nat → Int32) : RD 0 z0.length ((fun _ => none), (fun _ _ => none), 0) ((fun k => if k = 19 then 3 else 0), (fun k => if k = 4 then f' else fun _ => 0), 0) (z0 ++ [.inr (.inr (0, [.int 0, .ref (z0.length + 1), .ref (z0.length + 2), .ref (z0.length + 3), .ref (z0.length + 4), .ref (z0.length + 5), .ref (z0.length + 6), .int 0, .ref (z0.length + 7), .ref (z0.length + 8), .int 0, .int 0, .ref (z0.length + 9), .ref (z0.length + 10), .int 0, .ref (z0.length + 11), .ref (z0.length + 12), .ref (z0.length + 13), .ref (z0.length + 14), .int 3])), .inl (0, 8, fun _ => 0), .inl (0, 8, fun _ => 0), .inl (0, 8, fun _ => 0), .inl (0, 8, f'), .inl (0, 8, fun _ => 0), .inl (0, 8, fun _ => 0), .inl (0, 12, fun _ => 0), .inl (0, 12, fun _ => 0), .inl (0, 4, fun _ => 0), .inl (0, 4, fun _ => 0), .inl (0, 4, fun _ => 0), .inl (0, 4, fun _ => 0), .inl (0, 16, fun _ => 0), .inl (0, 16, fun _ => 0)]) := by
  refine ⟨zz_at z0 _ 0, fun d k hk h0 => ?_⟩
  have hd := rk_lt hk h0
  replace hd : d < 15 := hd
  rw [zz_at]
  have : d = 1 ∨ d = 2 ∨ d = 3 ∨ d = 4 ∨ d = 5 ∨ d = 6 ∨ d = 7 ∨ d = 8 ∨ d = 9 ∨ d = 10 ∨ d = 11 ∨ d = 12 ∨ d = 13 ∨ d = 14 := by omega
  rcases this with rfl | rfl | rfl | rfl | rfl | rfl | rfl | rfl | rfl | rfl | rfl | rfl | rfl | rfl
  · have : (1 : Nat) = k := Option.some.inj hk
    subst this; rfl
  · have : (2 : Nat) = k := Option.some.inj hk
    subst this; rfl
  · have : (3 : Nat) = k := Option.some.inj hk
    subst this; rfl
  · have : (4 : Nat) = k := Option.some.inj hk
    subst this; rfl
  · have : (5 : Nat) = k := Option.some.inj hk
    subst this; rfl
  · have : (6 : Nat) = k := Option.some.inj hk
    subst this; rfl
  · have : (8 : Nat) = k := Option.some.inj hk
    subst this; rfl
  · have : (9 : Nat) = k := Option.some.inj hk
    subst this; rfl
  · have : (12 : Nat) = k := Option.some.inj hk
    subst this; rfl
  · have : (13 : Nat) = k := Option.some.inj hk
    subst this; rfl
  · have : (15 : Nat) = k := Option.some.inj hk
    subst this; rfl
  · have : (16 : Nat) = k := Option.some.inj hk
    subst this; rfl
  · have : (17 : Nat) = k := Option.some.inj hk
    subst this; rfl
  · have : (18 : Nat) = k := Option.some.inj hk
    subst this; rfl
