/-! ===== views of objects: what each holds, without addresses ===== -/
/-- what a view holds: ints by their fields, rows of ints by their fields, the long -/
abbrev SV : Type := (Nat → Int32) × (Nat → Nat → Int32) × Int64
/-- references by their fields, rows of references by their fields, the length of its rows where it isn't fixed (class 4) -/
abbrev RV : Type := (Nat → Option Nat) × (Nat → Nat → Option Nat) × Nat
/-- of class c, field by field: kind (0 int, 1 int row, 2 byte row, 3 boolean row, 4 reference, 5 long, 6 row of references), place of its row, its length, the class of its parts -/
def dsc (c m : Nat) : List (Nat × Nat × Nat × Nat) := match c with
  | 0 => [(0, 0, 0, 0), (1, 1, 8, 0), (1, 2, 8, 0), (1, 3, 8, 0), (1, 4, 8, 0), (1, 5, 8, 0), (1, 6, 8, 0), (0, 0, 0, 0), (1, 7, 12, 0), (1, 8, 12, 0), (0, 0, 0, 0), (0, 0, 0, 0), (1, 9, 4, 0), (1, 10, 4, 0), (0, 0, 0, 0), (1, 11, 4, 0), (1, 12, 4, 0), (1, 13, 16, 0), (1, 14, 16, 0), (0, 0, 0, 0)]
  | 1 => [(1, 1, 4, 0), (1, 2, 4, 0), (1, 3, 4, 0)]
  | 2 => [(1, 1, 100, 0), (0, 0, 0, 0)]
  | 3 => [(1, 1, 120, 0), (1, 2, 120, 0), (1, 3, 360, 0), (1, 4, 360, 0), (1, 5, 8, 0), (0, 0, 0, 0), (0, 0, 0, 0), (4, 0, 0, 0), (0, 0, 0, 0), (0, 0, 0, 0), (0, 0, 0, 0), (0, 0, 0, 0), (0, 0, 0, 0), (0, 0, 0, 0), (0, 0, 0, 0)]
  | 5 => [(4, 0, 0, 0), (1, 1, 8, 0), (1, 2, 8, 0), (1, 4, 4, 0), (1, 3, 8, 0), (0, 0, 0, 0), (0, 0, 0, 0), (0, 0, 0, 0), (0, 0, 0, 0), (0, 0, 0, 0), (0, 0, 0, 0), (0, 0, 0, 0), (0, 0, 0, 0), (0, 0, 0, 0), (0, 0, 0, 0)]
  | 6 => [(2, 1, 600, 0), (0, 0, 0, 0), (0, 0, 0, 0), (0, 0, 0, 0), (1, 2, 4, 0), (6, 3, 2, 0), (6, 4, 8, 4)]
  | 9 => [(0, 0, 0, 0), (2, 1, 2400, 0), (1, 2, 4, 0), (1, 3, 4, 0), (1, 4, 4, 0), (1, 5, 16, 0), (1, 6, 880, 0), (1, 7, 968, 0), (1, 8, 136, 0), (1, 9, 392, 0), (0, 0, 0, 0), (0, 0, 0, 0), (0, 0, 0, 0), (0, 0, 0, 0), (0, 0, 0, 0), (5, 0, 0, 0), (0, 0, 0, 0), (0, 0, 0, 0), (0, 0, 0, 0), (1, 10, 121, 0), (1, 11, 4, 0), (0, 0, 0, 0), (0, 0, 0, 0), (0, 0, 0, 0), (0, 0, 0, 0), (0, 0, 0, 0), (0, 0, 0, 0), (0, 0, 0, 0), (1, 12, 8, 0), (1, 13, 8, 0), (1, 14, 8, 0), (0, 0, 0, 0), (0, 0, 0, 0), (0, 0, 0, 0), (0, 0, 0, 0), (0, 0, 0, 0), (0, 0, 0, 0), (0, 0, 0, 0), (0, 0, 0, 0), (1, 15, 4, 0), (1, 16, 4, 0), (0, 0, 0, 0), (0, 0, 0, 0), (0, 0, 0, 0), (1, 17, 4, 0), (1, 18, 4, 0), (1, 19, 4, 0), (0, 0, 0, 0), (1, 20, 100, 0), (0, 0, 0, 0), (0, 0, 0, 0), (0, 0, 0, 0), (0, 0, 0, 0), (1, 21, 16, 0), (1, 22, 4, 0), (3, 23, 3, 0)]
  | 4 => [(1, 1, m, 0), (1, 2, m, 0), (1, 3, m, 0), (0, 0, 0, 0)]
  | _ => []
/-- the fields of the rows, in the order of their places -/
def rkl (c : Nat) : List Nat := match c with
  | 0 => [1, 2, 3, 4, 5, 6, 8, 9, 12, 13, 15, 16, 17, 18]
  | 1 => [0, 1, 2]
  | 2 => [0]
  | 3 => [0, 1, 2, 3, 4]
  | 5 => [1, 2, 4, 3]
  | 6 => [0, 4, 5, 6]
  | 9 => [1, 2, 3, 4, 5, 6, 7, 8, 9, 19, 20, 28, 29, 30, 39, 40, 44, 45, 46, 48, 53, 54, 55]
  | 4 => [0, 1, 2]
  | _ => []
def rk (c d : Nat) : Option Nat := (rkl c)[d - 1]?
def szV (c : Nat) : Nat := (rkl c).length + 1
def fvZ (c a : Nat) (ρ : RV) (S : SV) (k : Nat) : Value := match (dsc c ρ.2.2)[k]? with
  | some (0, _, _, _) => .int (S.1 k)
  | some (4, _, _, _) => va_rf (ρ.1 k)
  | some (5, _, _, _) => .long S.2.2
  | some (_, off, _, _) => .ref (a + off)
  | none => .null
def obZ (c a : Nat) (ρ : RV) (S : SV) : AE := .inr (.inr (c, (List.range (dsc c ρ.2.2).length).map (fvZ c a ρ S)))
def rowZ (c : Nat) (ρ : RV) (S : SV) (k : Nat) : AE := match (dsc c ρ.2.2)[k]? with
  | some (1, _, n, _) => .inl (0, n, S.2.1 k)
  | some (2, _, n, _) => .inl (1, n, S.2.1 k)
  | some (3, _, n, _) => .inl (2, n, S.2.1 k)
  | some (6, _, n, t) => .inr (.inl (t, n, ρ.2.1 k))
  | _ => .inl (0, 0, fun _ => 0)
/-- the cells of an object at a -/
def RD (c a : Nat) (ρ : RV) (S : SV) (z : AH) : Prop := z[a]? = some (obZ c a ρ S) ∧ ∀ d k, rk c d = some k → 0 < d → z[a + d]? = some (rowZ c ρ S k)
/-- written into a list -/
def wr (c a : Nat) (ρ : RV) (S : SV) (z : AH) : AH := z.mapIdx (fun i e => if i = a then obZ c a ρ S else if a < i then (match rk c (i - a) with
  | some k => rowZ c ρ S k
  | none => e) else e)
section VW
variable {c a : Nat} {ρ : RV} {S : SV} {z : AH}
theorem wr_len : (wr c a ρ S z).length = z.length := by simp [wr]
theorem rk_lt {d k : Nat} (h : rk c d = some k) (h0 : 0 < d) : d < szV c := by
  have := (List.getElem?_eq_some_iff.mp h).1
  unfold szV; omega
theorem rk_no {d : Nat} (h : szV c ≤ d) : rk c d = none := by
  unfold szV at h
  exact List.getElem?_eq_none (by omega)
theorem wr_at (h : a + szV c ≤ z.length) : (wr c a ρ S z)[a]? = some (obZ c a ρ S) := by
  have h1 : a < z.length := by unfold szV at h; omega
  simp [wr, List.getElem?_mapIdx, h1]
theorem wr_row (h : a + szV c ≤ z.length) {d k : Nat} (hk : rk c d = some k) (h0 : 0 < d) : (wr c a ρ S z)[a + d]? = some (rowZ c ρ S k) := by
  have h1 : a + d < z.length := by have := rk_lt hk h0; omega
  have h2 : a + d ≠ a := by omega
  have h3 : a < a + d := by omega
  have h4 : d ≠ 0 := by omega
  simp [wr, List.getElem?_mapIdx, h1, h4, h0, hk]
theorem wr_out {i : Nat} (h : i < a ∨ a + szV c ≤ i) : (wr c a ρ S z)[i]? = z[i]? := by
  have h2 : i ≠ a := by unfold szV at h; omega
  simp only [wr, List.getElem?_mapIdx, h2, if_false]
  by_cases h3 : a < i
  · rw [rk_no (c := c) (d := i - a) (by omega)]
    simp [h3]
  · simp [h3]
theorem rd_wr (h : a + szV c ≤ z.length) : RD c a ρ S (wr c a ρ S z) := ⟨wr_at h, fun _ _ hk h0 => wr_row h hk h0⟩
theorem RD.far {c2 b : Nat} {ρ2 : RV} {S2 : SV} (h : RD c2 b ρ2 S2 z) (hd : b + szV c2 ≤ a ∨ a + szV c ≤ b) : RD c2 b ρ2 S2 (wr c a ρ S z) := by
  refine ⟨?_, fun d k hk h0 => ?_⟩
  · rw [wr_out (by unfold szV at *; omega)]; exact h.1
  · rw [wr_out (by have := rk_lt hk h0; omega)]; exact h.2 d k hk h0
theorem wr_ext {z' : AH} (hz : z'.length = z.length) (h1 : RD c a ρ S z') (h2 : ∀ i, i < a ∨ a + szV c ≤ i → z'[i]? = z[i]?) (h3 : ∀ d, 0 < d → d < szV c → ∃ k, rk c d = some k) (hl : a + szV c ≤ z.length) : z' = wr c a ρ S z := by
  apply List.ext_getElem?
  intro i
  by_cases h : i < a ∨ a + szV c ≤ i
  · rw [h2 i h, wr_out h]
  · by_cases h4 : i = a
    · subst h4; rw [h1.1, wr_at hl]
    · obtain ⟨k, hk⟩ := h3 (i - a) (by omega) (by omega)
      have h5 := h1.2 (i - a) k hk (by omega)
      have h6 := wr_row (ρ := ρ) (S := S) hl hk (by omega)
      rw [show a + (i - a) = i by omega] at h5 h6
      rw [h5, h6]
theorem wr_wr {ρ2 : RV} {S2 : SV} : wr c a ρ S (wr c a ρ2 S2 z) = wr c a ρ S z := by
  apply List.ext_getElem?
  intro i
  simp only [wr, List.getElem?_mapIdx, Option.map_map]
  cases z[i]? with
  | none => rfl
  | some e =>
    simp only [Option.map_some, Function.comp]
    by_cases h : i = a
    · simp [h]
    · by_cases h2 : a < i
      · simp only [h, h2, if_false, if_true]
        cases rk c (i - a) <;> rfl
      · simp [h, h2]
/-- reading -/
theorem oF_rd (h : RD c a ρ S z) {k : Nat} (hk : k < (dsc c ρ.2.2).length) : oF c z a k = some (fvZ c a ρ S k) := by
  unfold oF
  rw [h.1]
  simp [obZ, hk]
theorem gI_rd (h : RD c a ρ S z) {k : Nat} {q : Nat × Nat × Nat} (hk : (dsc c ρ.2.2)[k]? = some (0, q)) : gI c k z a = some (S.1 k) := by
  have hl := (List.getElem?_eq_some_iff.mp hk).1
  unfold gI
  rw [oF_rd h hl]
  simp [fvZ, hk]
theorem gJ_rd (h : RD c a ρ S z) {k : Nat} {q : Nat × Nat × Nat} (hk : (dsc c ρ.2.2)[k]? = some (5, q)) : gJ c k z a = some S.2.2 := by
  have hl := (List.getElem?_eq_some_iff.mp hk).1
  unfold gJ
  rw [oF_rd h hl]
  simp [fvZ, hk]
theorem gN_rd (h : RD c a ρ S z) {k kd off n t : Nat} (hk : (dsc c ρ.2.2)[k]? = some (kd, off, n, t)) (hd : kd = 1 ∨ kd = 2 ∨ kd = 3 ∨ kd = 6) : gN c k z a = some (a + off) := by
  have hl := (List.getElem?_eq_some_iff.mp hk).1
  unfold gN
  rw [oF_rd h hl]
  rcases hd with rfl | rfl | rfl | rfl <;> simp [fvZ, hk]
theorem gR_rd (h : RD c a ρ S z) {k : Nat} {q : Nat × Nat × Nat} (hk : (dsc c ρ.2.2)[k]? = some (4, q)) : gN c k z a = ρ.1 k := by
  have hl := (List.getElem?_eq_some_iff.mp hk).1
  unfold gN
  rw [oF_rd h hl]
  simp only [fvZ, hk]
  cases ρ.1 k <;> rfl
theorem gQ_rd (h : RD c a ρ S z) {k : Nat} {q : Nat × Nat × Nat} (hk : (dsc c ρ.2.2)[k]? = some (4, q)) : gQ c k z a = some (ρ.1 k) := by
  have hl := (List.getElem?_eq_some_iff.mp hk).1
  unfold gQ
  rw [oF_rd h hl]
  simp only [fvZ, hk]
  cases ρ.1 k <;> rfl
theorem isO_rd (h : RD c a ρ S z) : isO c z a = true := by
  unfold isO
  rw [h.1]
  simp [obZ]
/-- a place of a row of n -/
def rA (n : Nat) (f : Nat → Int32) (i : Int32) : Option Int32 := if ¬ (i < 0 ∨ n ≤ i.toNatClampNeg) then some (f i.toNatClampNeg) else none
def rQ (n : Nat) (f : Nat → Option Nat) (i : Int32) : Option (Option Nat) := if ¬ (i < 0 ∨ n ≤ i.toNatClampNeg) then some (f i.toNatClampNeg) else none
def wI (S : SV) (k : Nat) (x : Int32) : SV := (upd S.1 k x, S.2)
def wL (S : SV) (x : Int64) : SV := (S.1, S.2.1, x)
def wR (S : SV) (k : Nat) (f : Nat → Int32) : SV := (S.1, fun j => if j = k then f else S.2.1 j, S.2.2)
def wA (k n : Nat) (S : SV) (i x : Int32) : Option SV := if ¬ (i < 0 ∨ n ≤ i.toNatClampNeg) then some (wR S k (upd (S.2.1 k) i.toNatClampNeg x)) else none
theorem ixI_rd (h : RD c a ρ S z) {k kd off n t : Nat} (hk : (dsc c ρ.2.2)[k]? = some (kd, off, n, t)) (hr : rk c off = some k) (h0 : 0 < off) (t0 : Nat) (hd : kd = t0 + 1) (ht : t0 < 3) (i : Int32) : ixI t0 z (a + off) i = rA n (S.2.1 k) i := by
  unfold ixI
  rw [h.2 off k hr h0]
  have : t0 = 0 ∨ t0 = 1 ∨ t0 = 2 := by omega
  rcases this with rfl | rfl | rfl <;> subst hd <;> simp [rowZ, hk, rA]
theorem lnI_rd (h : RD c a ρ S z) {k kd off n t : Nat} (hk : (dsc c ρ.2.2)[k]? = some (kd, off, n, t)) (hr : rk c off = some k) (h0 : 0 < off) (t0 : Nat) (hd : kd = t0 + 1) (ht : t0 < 3) : lnI t0 z (a + off) = some (Int32.ofNat n) := by
  unfold lnI
  rw [h.2 off k hr h0]
  have : t0 = 0 ∨ t0 = 1 ∨ t0 = 2 := by omega
  rcases this with rfl | rfl | rfl <;> subst hd <;> simp [rowZ, hk]
theorem ixQ_rd (h : RD c a ρ S z) {k off n t : Nat} (hk : (dsc c ρ.2.2)[k]? = some (6, off, n, t)) (hr : rk c off = some k) (h0 : 0 < off) (i : Int32) : ixQ t z (a + off) i = rQ n (ρ.2.1 k) i := by
  unfold ixQ
  rw [h.2 off k hr h0]
  simp [rowZ, hk, rQ]
/-- writing -/
theorem obZ_ne {S2 : SV} {ρ2 : RV} (hm : ρ2.2.2 = ρ.2.2) (h : ∀ k, k < (dsc c ρ.2.2).length → fvZ c a ρ S k = fvZ c a ρ2 S2 k) : obZ c a ρ S = obZ c a ρ2 S2 := by
  unfold obZ
  rw [hm]
  congr 3
  exact List.map_congr_left (fun k hk => h k (List.mem_range.mp hk))
theorem set_ob {S2 : SV} {ρ2 : RV} (hl : a + szV c ≤ z.length) (h : ∀ d k, rk c d = some k → rowZ c ρ2 S2 k = rowZ c ρ S k) : (wr c a ρ S z).set a (obZ c a ρ2 S2) = wr c a ρ2 S2 z := by
  apply List.ext_getElem?
  intro i
  by_cases hi : i = a
  · subst hi
    rw [List.getElem?_set_self (by rw [wr_len]; unfold szV at hl; omega), wr_at hl]
  · rw [List.getElem?_set_ne (Ne.symm hi)]
    simp only [wr, List.getElem?_mapIdx, hi, if_false]
    by_cases h3 : a < i
    · simp only [h3, if_true]
      cases hk : rk c (i - a) with
      | none => rfl
      | some k => simp only [h _ _ hk]
    · simp [h3]
theorem set_row {S2 : SV} {ρ2 : RV} {d k : Nat} (hl : a + szV c ≤ z.length) (hk : rk c d = some k) (h0 : 0 < d) (ho : obZ c a ρ2 S2 = obZ c a ρ S) (h : ∀ d' k', rk c d' = some k' → 0 < d' → d' ≠ d → rowZ c ρ2 S2 k' = rowZ c ρ S k') : (wr c a ρ S z).set (a + d) (rowZ c ρ2 S2 k) = wr c a ρ2 S2 z := by
  apply List.ext_getElem?
  intro i
  by_cases hi : i = a + d
  · subst hi
    rw [List.getElem?_set_self (by rw [wr_len]; have := rk_lt hk h0; omega), wr_row hl hk h0]
  · rw [List.getElem?_set_ne (Ne.symm hi)]
    simp only [wr, List.getElem?_mapIdx]
    by_cases h2 : i = a
    · simp [h2, ho]
    · simp only [h2, if_false]
      by_cases h3 : a < i
      · simp only [h3, if_true]
        cases hk' : rk c (i - a) with
        | none => rfl
        | some k' => simp only [h _ _ hk' (by omega) (by omega)]
      · simp [h3]
theorem pF_gen {S2 : SV} {ρ2 : RV} (hm : ρ2.2.2 = ρ.2.2) (hl : a + szV c ≤ z.length) {k : Nat} (hk : k < (dsc c ρ.2.2).length) (v : Value) (h1 : fvZ c a ρ2 S2 k = v) (h2 : ∀ j, j ≠ k → fvZ c a ρ2 S2 j = fvZ c a ρ S j) (h3 : ∀ d k, rk c d = some k → rowZ c ρ2 S2 k = rowZ c ρ S k) : pF c k (wr c a ρ S z) a v = some (wr c a ρ2 S2 z) := by
  have e : (Sum.inr (Sum.inr (c, ((List.range (dsc c ρ.2.2).length).map (fvZ c a ρ S)).set k v)) : AE) = obZ c a ρ2 S2 := by
    have e2 : ((List.range (dsc c ρ.2.2).length).map (fvZ c a ρ S)).set k v = (List.range (dsc c ρ.2.2).length).map (fvZ c a ρ2 S2) := by
      apply List.ext_getElem?
      intro j
      simp only [List.getElem?_set, List.getElem?_map, List.length_map, List.length_range]
      by_cases hj : k = j
      · subst hj
        simp [hk, h1]
      · simp only [hj, if_false]
        by_cases hj2 : j < (dsc c ρ.2.2).length
        · simp [hj2, h2 j (Ne.symm hj)]
        · simp [hj2]
    rw [e2]; unfold obZ; rw [hm]
  unfold pF
  rw [wr_at hl]
  simp only [obZ, List.length_map, List.length_range, hk, and_self, if_true]
  rw [e, set_ob hl h3]
theorem pF_int (hl : a + szV c ≤ z.length) {k : Nat} {q : Nat × Nat × Nat} (hk : (dsc c ρ.2.2)[k]? = some (0, q)) (x : Int32) : pF c k (wr c a ρ S z) a (.int x) = some (wr c a ρ (wI S k x) z) := by
  refine pF_gen rfl hl (List.getElem?_eq_some_iff.mp hk).1 _ ?_ (fun j hj => ?_) (fun _ _ _ => rfl)
  · simp [fvZ, hk, wI, upd]
  · unfold fvZ
    split <;> simp_all [wI, upd]
theorem pF_lng (hl : a + szV c ≤ z.length) {k : Nat} {q : Nat × Nat × Nat} (hk : (dsc c ρ.2.2)[k]? = some (5, q)) (hu : ∀ j, j ≠ k → ∀ r, (dsc c ρ.2.2)[j]? ≠ some (5, r)) (x : Int64) : pF c k (wr c a ρ S z) a (.long x) = some (wr c a ρ (wL S x) z) := by
  refine pF_gen rfl hl (List.getElem?_eq_some_iff.mp hk).1 _ ?_ (fun j hj => ?_) (fun _ _ _ => rfl)
  · simp [fvZ, hk, wL]
  · have h5 := hu j hj
    unfold fvZ
    split <;> simp_all [wL]
theorem pF_ref (hl : a + szV c ≤ z.length) {k : Nat} {q : Nat × Nat × Nat} (hk : (dsc c ρ.2.2)[k]? = some (4, q)) (r : Option Nat) : pF c k (wr c a ρ S z) a (va_rf r) = some (wr c a (va_up ρ.1 k r, ρ.2) S z) := by
  refine pF_gen (ρ := ρ) (S := S) (S2 := S) (ρ2 := (va_up ρ.1 k r, ρ.2)) rfl hl (List.getElem?_eq_some_iff.mp hk).1 _ ?_ (fun j hj => ?_) (fun _ _ _ => rfl)
  · simp [fvZ, hk, va_up]
  · unfold fvZ
    split <;> simp_all [va_up]
/-- each row has its own field -/
def rkOk (c : Nat) : Bool := (List.range (szV c)).all fun d => (List.range (szV c)).all fun e => d == 0 || e == 0 || d == e || decide (rk c d ≠ rk c e) || decide (rk c d = none)
theorem rk_inj (h : rkOk c = true) {d e k : Nat} (h1 : rk c d = some k) (h2 : rk c e = some k) (hd : 0 < d) (he : 0 < e) : d = e := by
  have h3 := List.all_eq_true.mp (List.all_eq_true.mp h d (List.mem_range.mpr (rk_lt h1 hd))) e (List.mem_range.mpr (rk_lt h2 he))
  simp only [Bool.or_eq_true, beq_iff_eq, decide_eq_true_eq, h1, h2] at h3
  rcases h3 with (((h | h) | h) | h) | h
  · omega
  · omega
  · exact h
  · exact absurd rfl h
  · cases h
theorem stI_rd (hc : rkOk c = true) (hl : a + szV c ≤ z.length) {k kd off n t : Nat} (hk : (dsc c ρ.2.2)[k]? = some (kd, off, n, t)) (hr : rk c off = some k) (h0 : 0 < off) (t0 : Nat) (hd : kd = t0 + 1) (ht : t0 < 3) (i x : Int32) : stI t0 (wr c a ρ S z) (a + off) i x = (wA k n S i x).map (fun S' => wr c a ρ S' z) := by
  unfold stI
  rw [wr_row hl hr h0]
  have key : ∀ f, (wr c a ρ S z).set (a + off) (rowZ c ρ (wR S k f) k) = wr c a ρ (wR S k f) z := by
    intro f
    refine set_row hl hr h0 (obZ_ne rfl (fun j hj => ?_)) (fun d' k' hk' hd' hne => ?_)
    · unfold fvZ; split <;> simp_all [wR]
    · have hkk : k' ≠ k := fun e => hne (rk_inj hc (by rw [hk', e]) hr hd' h0)
      unfold rowZ
      simp [wR, hkk]
  have h3 : t0 = 0 ∨ t0 = 1 ∨ t0 = 2 := by omega
  unfold wA
  rcases h3 with rfl | rfl | rfl <;> subst hd
  · have e : rowZ c ρ S k = .inl (0, n, S.2.1 k) := by simp [rowZ, hk]
    have e2 : ∀ f, rowZ c ρ (wR S k f) k = .inl (0, n, f) := fun f => by simp [rowZ, hk, wR]
    rw [e]
    by_cases hc2 : ¬ (i < 0 ∨ n ≤ i.toNatClampNeg)
    · simp only [hc2, and_self, if_true, not_false_eq_true, Option.map_some, ← e2, key]
    · simp only [hc2, and_false, if_false, Option.map_none]
  · have e : rowZ c ρ S k = .inl (1, n, S.2.1 k) := by simp [rowZ, hk]
    have e2 : ∀ f, rowZ c ρ (wR S k f) k = .inl (1, n, f) := fun f => by simp [rowZ, hk, wR]
    rw [e]
    by_cases hc2 : ¬ (i < 0 ∨ n ≤ i.toNatClampNeg)
    · simp only [hc2, and_self, if_true, not_false_eq_true, Option.map_some, ← e2, key]
    · simp only [hc2, and_false, if_false, Option.map_none]
  · have e : rowZ c ρ S k = .inl (2, n, S.2.1 k) := by simp [rowZ, hk]
    have e2 : ∀ f, rowZ c ρ (wR S k f) k = .inl (2, n, f) := fun f => by simp [rowZ, hk, wR]
    rw [e]
    by_cases hc2 : ¬ (i < 0 ∨ n ≤ i.toNatClampNeg)
    · simp only [hc2, and_self, if_true, not_false_eq_true, Option.map_some, ← e2, key]
    · simp only [hc2, and_false, if_false, Option.map_none]
/-! two functions side by side -/
theorem sb {α β : Type} {o : Option α} {x : α} {F : α → Option β} {R : Option β} (h : o = some x) (hF : F x = R) : o.bind F = R := by rw [h]; exact hF
theorem eb {α β γ : Type} {o o' : Option α} {F : α → Option β} {G : α → Option γ} {L : γ → β} (h : o = o') (hF : ∀ x, F x = (G x).map L) : o.bind F = (o'.bind G).map L := by
  subst h; cases o with
  | none => rfl
  | some x => exact hF x
theorem eb0 {α β : Type} {o o' : Option α} {F G : α → Option β} (h : o = o') (hF : ∀ x, F x = G x) : o.bind F = o'.bind G := by
  subst h; cases o with
  | none => rfl
  | some x => exact hF x
theorem em {α β γ δ : Type} {o : Option α} {o' : Option δ} {f : δ → α} {F : α → Option β} {G : δ → Option γ} {L : γ → β} (h : o = o'.map f) (hF : ∀ x, F (f x) = (G x).map L) : o.bind F = (o'.bind G).map L := by
  subst h; cases o' with
  | none => rfl
  | some x => exact hF x
theorem ep {α β γ δ : Type} {o : Option α} {e : δ} {f : δ → α} {F : α → Option β} {G : δ → Option γ} {L : γ → β} (h : o = some (f e)) (hF : ∀ x, F (f x) = (G x).map L) : o.bind F = (nm e G).map L := by
  subst h; exact hF e
theorem e2m {α β γ δ ε : Type} {o : Option (α × β)} {o' : Option (α × δ)} {f : δ → β} {F : α → β → Option γ} {G : α → δ → Option ε} {L : ε → γ} (h : o = o'.map (fun q => (q.1, f q.2))) (hF : ∀ x v, F x (f v) = (G x v).map L) : b2 o F = (b2 o' G).map L := by
  subst h
  match o' with
  | none => rfl
  | some (x, v) => exact hF x v
theorem en {α β γ : Type} {e : α} {F : α → Option β} {G : α → Option γ} {L : γ → β} (hF : ∀ v, F v = (G v).map L) : nm e F = (nm e G).map L := hF e
theorem en0 {α β : Type} {e : α} {F G : α → β} (hF : ∀ v, F v = G v) : nm e F = nm e G := hF e
theorem ei {P : Prop} [Decidable P] {β γ : Type} {A B : Option β} {A' B' : Option γ} {L : γ → β} (h1 : P → A = A'.map L) (h2 : ¬ P → B = B'.map L) : (if P then A else B) = (if P then A' else B').map L := by
  by_cases h : P
  · rw [if_pos h, if_pos h]; exact h1 h
  · rw [if_neg h, if_neg h]; exact h2 h
theorem ei0 {P : Prop} [Decidable P] {β : Type} {A B A' B' : β} (h1 : P → A = A') (h2 : ¬ P → B = B') : (if P then A else B) = (if P then A' else B') := by
  by_cases h : P
  · rw [if_pos h, if_pos h]; exact h1 h
  · rw [if_neg h, if_neg h]; exact h2 h
theorem eo {b : Bool} {β : Type} {A B R : β} (hb : b = true) (h : A = R) : (if b = true then A else B) = R := by rw [if_pos hb]; exact h
/-- a row by itself -/
def RW (t b n : Nat) (f : Nat → Int32) (z : AH) : Prop := z[b]? = some (.inl (t, n, f))
theorem ixI_rw {t b n : Nat} {f : Nat → Int32} (h : RW t b n f z) (i : Int32) : ixI t z b i = rA n f i := by
  unfold ixI
  rw [show z[b]? = _ from h]
  simp [rA]
theorem lnI_rw {t b n : Nat} {f : Nat → Int32} (h : RW t b n f z) : lnI t z b = some (Int32.ofNat n) := by
  unfold lnI
  rw [show z[b]? = _ from h]
  simp
theorem rw_rd (h : RD c a ρ S z) {k kd off n t : Nat} (hk : (dsc c ρ.2.2)[k]? = some (kd, off, n, t)) (hr : rk c off = some k) (h0 : 0 < off) (t0 : Nat) (hd : kd = t0 + 1) (ht : t0 < 3) : RW t0 (a + off) n (S.2.1 k) z := by
  have := h.2 off k hr h0
  have h3 : t0 = 0 ∨ t0 = 1 ∨ t0 = 2 := by omega
  rcases h3 with rfl | rfl | rfl <;> subst hd <;> simpa [rowZ, hk, RW] using this
theorem RW.far {t b n : Nat} {f : Nat → Int32} (h : RW t b n f z) (hd : b < a ∨ a + szV c ≤ b) : RW t b n f (wr c a ρ S z) := by
  unfold RW
  rw [wr_out hd]
  exact h
end VW
