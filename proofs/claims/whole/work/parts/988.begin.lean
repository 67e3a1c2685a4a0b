/-! ===== behind the constructors: the whole heap ===== -/
/-- the cells of an object -/
def ch (c n : Nat) (ρ : RV) (S : SV) : AH := obZ c n ρ S :: (rkl c).map (rowZ c ρ S)
theorem ch_len {c n : Nat} {ρ : RV} {S : SV} : (ch c n ρ S).length = szV c := by simp [ch, szV]
theorem rd_ch {c n : Nat} {ρ : RV} {S : SV} {z0 : AH} (h : z0.length = n) : RD c n ρ S (z0 ++ ch c n ρ S) := by
  subst h
  refine ⟨zz_at z0 _ 0, fun d k hk h0 => ?_⟩
  obtain ⟨d, rfl⟩ : ∃ q, d = q + 1 := ⟨d - 1, by omega⟩
  rw [zz_at]
  show ((rkl c).map (rowZ c ρ S))[d]? = _
  rw [List.getElem?_map, show (rkl c)[d]? = some k from hk]; rfl
theorem at_app {z : AH} {i : Nat} {e : AE} (h : z[i]? = some e) (l : AH) : (z ++ l)[i]? = some e := by
  rw [List.getElem?_append_left (List.getElem?_eq_some_iff.mp h).1]; exact h
def Sz : SV := ((fun _ => 0), (fun _ _ => 0), 0)
def ρz : RV := ((fun _ => none), (fun _ _ => none), 0)
def ρs (q : Nat) : RV := ((fun k => if k = 0 then some q else none), (fun _ _ => none), 0)
def St6 : SV := ((fun k => if k = 3 then -1 else 0), (fun _ _ => 0), 0)
def Sc0 (f : Nat → Int32) : SV := ((fun k => if k = 19 then 3 else 0), (fun k => if k = 4 then f else fun _ => 0), 0)
def S9z : SV := ((fun _ => 0), (fun k => if k = 4 then upd (fun _ => 0) 0 (-1) else fun _ => 0), 0)
theorem iz_told {n : Nat} {z0 : AH} (h : z0.length = n) : fX7_init n (z0 ++ [.inr (.inr (6, newF 6))]) = some (z0 ++ ch 6 n ρz St6) := by
  subst h; exact i_told z0
theorem iz_scene {n q : Nat} {z0 : AH} (h : z0.length = n) : fX6_init n q (z0 ++ [.inr (.inr (5, newF 5))]) = some (z0 ++ ch 5 n (ρs q) Sz) := by
  subst h; exact i_scene z0 q
theorem iz_reader {n : Nat} {z0 : AH} (h : z0.length = n) : fX4_init n (z0 ++ [.inr (.inr (3, newF 3))]) = some (z0 ++ ch 3 n ρz Sz) := by
  subst h; exact i_reader z0
theorem iz_eyes {n : Nat} {z0 : AH} (h : z0.length = n) : fX1_init n (z0 ++ [.inr (.inr (1, newF 1))]) = some (z0 ++ ch 1 n ρz Sz) := by
  subst h; exact i_eyes z0
theorem iz_field {n : Nat} {z0 : AH} (h : z0.length = n) : fX2_init n (z0 ++ [.inr (.inr (2, newF 2))]) = some (z0 ++ ch 2 n ρz Sz) := by
  subst h; exact i_field z0
theorem iz_country {n : Nat} {z0 : AH} (h : z0.length = n) : ∃ f', fX0_init n (z0 ++ [.inr (.inr (0, newF 0))]) = some (z0 ++ ch 0 n ρz (Sc0 f')) := by
  subst h
  obtain ⟨f', -, h⟩ := i_country z0
  exact ⟨f', h⟩
/-- a reference put into a row of references -/
theorem q_st {z0 t : AH} {T n b : Nat} {g : Nat → Option Nat} {i : Int32} (hi : ¬ (i < 0 ∨ n ≤ i.toNatClampNeg)) (hb : isO T (z0 ++ (.inr (.inl (T, n, g)) :: t)) b = true) : stQ T (z0 ++ (.inr (.inl (T, n, g)) :: t)) z0.length i (some b) = some (z0 ++ (.inr (.inl (T, n, va_up g i.toNatClampNeg (some b))) :: t)) := by
  have h1 : (z0 ++ (.inr (.inl (T, n, g)) :: t))[z0.length]? = some (.inr (.inl (T, n, g))) := zz_at z0 _ 0
  have h2 : ∀ e : AE, (z0 ++ (.inr (.inl (T, n, g)) :: t)).set z0.length e = z0 ++ (e :: t) := fun e => zz_set z0 _ 0 e
  unfold stQ
  rw [h1]
  simp only [h2]
  rw [if_pos ⟨⟨trivial, hb⟩, hi⟩]
/-- a new object, put into a field -/
theorem w_obj {β : Type} {c k n : Nat} {fs : List Value} {z0 t : AH} {e : AE} {l : AH} {I : Nat → AH → Option AH} {K : AH → Option β} (hn : z0.length + (t.length + 1) = n) (hi : ∀ y : AH, y.length = n → I n (y ++ [e]) = some (y ++ l)) (hk : k < fs.length) : mk e (z0 ++ (.inr (.inr (c, fs)) :: t)) (fun b z => (I b z).bind fun z' => (pF c k z' (z0.length + 0) (.ref b)).bind K) = K (z0 ++ (.inr (.inr (c, fs.set k (.ref n))) :: (t ++ l))) := by
  have h := hi (z0 ++ (.inr (.inr (c, fs)) :: t)) (by rw [List.length_append, List.length_cons]; exact hn)
  unfold mk
  rw [show (z0 ++ (.inr (.inr (c, fs)) :: t)).length = n by rw [List.length_append, List.length_cons]; exact hn]
  show (I n _).bind _ = _
  rw [h, Option.bind_some, List.append_assoc, List.cons_append, zz_p0 c k z0 _ fs _ hk, Option.bind_some]
theorem w_len {β : Type} {z0 t : AH} {fs : List Value} {g : Nat → Option Nat} {R : Option β} (hf : fs[0]? = some (.ref (z0.length + 1))) : ((gN 7 0 (z0 ++ (.inr (.inr (7, fs)) :: .inr (.inl (5, 5, g)) :: t)) (z0.length + 0)).bind fun b => (lnQ 5 (z0 ++ (.inr (.inr (7, fs)) :: .inr (.inl (5, 5, g)) :: t)) b).bind fun x => if x = (5 : Int32) then R else none) = R := by
  have hg : gN 7 0 (z0 ++ (.inr (.inr (7, fs)) :: .inr (.inl (5, 5, g)) :: t)) (z0.length + 0) = some (z0.length + 1) := by
    rw [zz_gN]; unfold gN oF; simp only [List.getElem?_cons_zero, if_true, hf]
  have hl : lnQ 5 (z0 ++ (.inr (.inr (7, fs)) :: .inr (.inl (5, 5, g)) :: t)) (z0.length + 1) = some 5 := by
    unfold lnQ; rw [zz_at]; rfl
  rw [hg, Option.bind_some, hl, Option.bind_some, if_pos rfl]
theorem w_step {β : Type} {z0 t : AH} {fs : List Value} {g : Nat → Option Nat} {q n : Nat} {i : Int32} {K : AH → Option β} (hf : fs[0]? = some (.ref (z0.length + 1))) (hn : z0.length + (t.length + 2) = n) (hi : ¬ (i < 0 ∨ 5 ≤ i.toNatClampNeg)) : ((gN 7 0 (z0 ++ (.inr (.inr (7, fs)) :: .inr (.inl (5, 5, g)) :: t)) (z0.length + 0)).bind fun b => (lnQ 5 (z0 ++ (.inr (.inr (7, fs)) :: .inr (.inl (5, 5, g)) :: t)) b).bind fun x => if x = (5 : Int32) then ((gN 7 0 (z0 ++ (.inr (.inr (7, fs)) :: .inr (.inl (5, 5, g)) :: t)) (z0.length + 0)).bind fun b24 => mk (.inr (.inr (5, newF 5))) (z0 ++ (.inr (.inr (7, fs)) :: .inr (.inl (5, 5, g)) :: t)) fun b28 z28 => (fX6_init b28 q z28).bind fun z33 => (stQ 5 z33 b24 i (some b28)).bind K) else none) = K (z0 ++ (.inr (.inr (7, fs)) :: .inr (.inl (5, 5, va_up g i.toNatClampNeg (some n))) :: (t ++ ch 5 n (ρs q) Sz))) := by
  have hg : gN 7 0 (z0 ++ (.inr (.inr (7, fs)) :: .inr (.inl (5, 5, g)) :: t)) (z0.length + 0) = some (z0.length + 1) := by
    rw [zz_gN]; unfold gN oF; simp only [List.getElem?_cons_zero, if_true, hf]
  rw [w_len hf, hg, Option.bind_some]
  have hn' : (z0 ++ (.inr (.inr (7, fs)) :: .inr (.inl (5, 5, g)) :: t)).length = n := by rw [List.length_append, List.length_cons, List.length_cons]; exact hn
  have e : (z0 ++ (.inr (.inr (7, fs)) :: .inr (.inl (5, 5, g)) :: t)) ++ ch 5 n (ρs q) Sz = (z0 ++ [.inr (.inr (7, fs))]) ++ (.inr (.inl (5, 5, g)) :: (t ++ ch 5 n (ρs q) Sz)) := by simp only [List.append_assoc, List.cons_append, List.nil_append]
  have h1 : z0.length + 1 = (z0 ++ [(.inr (.inr (7, fs)) : AE)]).length := by rw [List.length_append]; rfl
  have hs := q_st (z0 := z0 ++ [.inr (.inr (7, fs))]) (t := t ++ ch 5 n (ρs q) Sz) (T := 5) (n := 5) (b := n) (g := g) hi (by rw [← e]; exact isO_rd (rd_ch hn'))
  unfold mk
  rw [hn']
  show (fX6_init n q _).bind _ = _
  rw [iz_scene hn', Option.bind_some, e, h1, hs, Option.bind_some]
  congr 1
  simp only [List.append_assoc, List.cons_append, List.nil_append]
theorem nw_7 : newF 7 = [.null, .null, .null, .null, .null, .int 0, .int 0, .int 0] := rfl
def rw5 (n : Nat) : Nat → Option Nat := va_up (va_up (va_up (va_up (va_up (fun _ => none) (0 : Int32).toNatClampNeg (some (n + 2))) (1 : Int32).toNatClampNeg (some (n + 7))) (2 : Int32).toNatClampNeg (some (n + 12))) (3 : Int32).toNatClampNeg (some (n + 17))) (4 : Int32).toNatClampNeg (some (n + 22))
def wat (n q : Nat) : AH := .inr (.inr (7, [.ref (n + 1), .ref (n + 27), .ref (n + 32), .ref (n + 33), .null, .int 0, .int 0, .int 0])) :: .inr (.inl (5, 5, rw5 n)) :: (((((((([] ++ ch 5 (n + 2) (ρs q) Sz) ++ ch 5 (n + 7) (ρs q) Sz) ++ ch 5 (n + 12) (ρs q) Sz) ++ ch 5 (n + 17) (ρs q) Sz) ++ ch 5 (n + 22) (ρs q) Sz) ++ ch 5 (n + 27) (ρs q) Sz) ++ [.inl (0, 4, fun _ => 0)]) ++ [.inl (0, 4, fun _ => 0)])
theorem iz_watch {n q : Nat} {z0 : AH} (h : z0.length = n) : fX8_init n q (z0 ++ [.inr (.inr (7, newF 7))]) = some (z0 ++ wat n q) := by
  subst h
  unfold fX8_init
  have e0 : z0.length = z0.length + 0 := rfl
  rw [e0, nw_7, if_pos (zz_i0 7 z0 [] _)]
  refine (zz_row 7 0 z0 [] _ _ _ (by decide)).trans ?_
  refine (w_step (n := z0.length + 2) rfl (by rfl) (by decide)).trans ?_
  refine (w_step (n := z0.length + 7) rfl (by simp only [List.length_append, List.length_nil, ch_len, s5]) (by decide)).trans ?_
  refine (w_step (n := z0.length + 12) rfl (by simp only [List.length_append, List.length_nil, ch_len, s5]) (by decide)).trans ?_
  refine (w_step (n := z0.length + 17) rfl (by simp only [List.length_append, List.length_nil, ch_len, s5]) (by decide)).trans ?_
  refine (w_step (n := z0.length + 22) rfl (by simp only [List.length_append, List.length_nil, ch_len, s5]) (by decide)).trans ?_
  refine (w_len rfl).trans ?_
  refine (w_obj (c := 7) (k := 1) (n := z0.length + 27) (I := fun b z => fX6_init b q z) (by simp only [List.length_append, List.length_cons, List.length_nil, ch_len, s5]) (fun y hy => iz_scene hy) (by simp only [List.length_set]; decide)).trans ?_
  refine (zz_row 7 2 z0 _ _ _ _ (by simp only [List.length_set]; decide)).trans ?_
  refine (zz_row 7 3 z0 _ _ _ _ (by simp only [List.length_set]; decide)).trans ?_
  refine sb (zz_p0 7 4 z0 _ _ _ (by simp only [List.length_set]; decide)) ?_
  rfl
