/-! ===== the world: a plain list of cells, by their numbers; the address of cell k is base + k ===== -/
/-- the words that may be carried into a call -/
def tz : List Cond := lw_tbl.filter goodWord
theorem tw (i : Nat) {w : Cond} (h : lw_tbl[i]? = some w) (hg : goodWord w = true) : w ∈ tz := List.mem_filter.mpr ⟨List.mem_of_getElem? h, hg⟩
theorem tz_in : ∀ q ∈ vwCl, ∀ w ∈ u_ws q.1 q.2.1 q.2.2, w ∈ tz := by decide +kernel
/-- the words of a method's contract -/
abbrev wy (y : MethodName) (b : ByteArray) (n : Nat) (r : Option FieldType) : List Cond := Cond.code y b n r :: tz
theorem wy_good {y y' : MethodName} {b b' : ByteArray} {n n' : Nat} {r r' : Option FieldType} (h : Cond.code y' b' n' r' ∈ tz) : GoodIn (wy y b n r) (wy y' b' n' r') := by
  intro w hw
  rcases List.mem_cons.mp hw with rfl | hw
  · exact ⟨List.mem_cons_of_mem _ h, good_of_word (List.mem_filter.mp h).2⟩
  · exact ⟨List.mem_cons_of_mem _ hw, good_of_word (List.mem_filter.mp hw).2⟩
theorem tz_good {y' : MethodName} {b' : ByteArray} {n' : Nat} {r' : Option FieldType} (h : Cond.code y' b' n' r' ∈ tz) : GoodIn tz (wy y' b' n' r') := by
  intro w hw
  rcases List.mem_cons.mp hw with rfl | hw
  · exact ⟨h, good_of_word (List.mem_filter.mp h).2⟩
  · exact ⟨hw, good_of_word (List.mem_filter.mp hw).2⟩
/-- a cell: int-like row (kind 0 int, 1 byte, 2 boolean), row of references (by the class of its parts), object (class, fields) -/
abbrev AE : Type := (Nat × Nat × (Nat → Int32)) ⊕ (Nat × Nat × (Nat → Option Nat)) ⊕ (Nat × List Value)
abbrev AH : Type := List AE
/-- the launch's numbers: classes and fields; rows' classes; the base; addresses of static rows; of texts and their bytes -/
abbrev GW : Type := va_G × (Nat → ClassId) × (Nat → ClassId) × Nat × (Nat → Nat) × (Nat → Nat) × (Nat → Nat)
abbrev gB (G : GW) : Nat := G.2.2.2.1
def cv (G : GW) : Value → Value
  | .ref k => .ref (gB G + k)
  | v => v
def rv (G : GW) (r : Option Nat) : Value := va_rf (r.map (gB G + ·))
def toE (G : GW) : AE → va_E
  | .inl (t, n, f) => .inl (G.2.1 t, n, .inl f)
  | .inr (.inl (t, n, f)) => .inl (G.2.2.1 t, n, .inr (.inr (.inr (.inr (fun j => (f j).map (gB G + ·))))))
  | .inr (.inr (c, vs)) => .inr (c, vs.map (cv G))
def wsZ (G : GW) (ah : AH) : va_W := ah.mapIdx (fun k e => (gB G + k, toE G e))
def tysZ (G : GW) : List (ClassId × FieldType) := [(G.2.1 0, .int), (G.2.1 1, .byte), (G.2.1 2, .boolean), (G.2.2.1 0, .object RX0), (G.2.2.1 4, .object RX5), (G.2.2.1 5, .object RX6), (G.2.2.1 6, .object RX7)]
def AA (G : GW) : Nat → Prop := fun q => gB G ≤ q
theorem wsZ_at {G : GW} {ah : AH} {a : Nat} {e : AE} (h : ah[a]? = some e) : (wsZ G ah)[a]? = some (gB G + a, toE G e) := by
  simp [wsZ, List.getElem?_mapIdx, h]
theorem wsZ_of {G : GW} {ah : AH} {a : Nat} {q : Nat × va_E} (h : (wsZ G ah)[a]? = some q) : ∃ e, ah[a]? = some e ∧ q = (gB G + a, toE G e) := by
  simp only [wsZ, List.getElem?_mapIdx, Option.map_eq_some_iff] at h
  obtain ⟨e, h1, h2⟩ := h
  exact ⟨e, h1, h2.symm⟩
theorem wsZ_set (G : GW) (ah : AH) (a : Nat) (e : AE) : wsZ G (ah.set a e) = (wsZ G ah).set a (gB G + a, toE G e) := by
  apply List.ext_getElem?
  intro k
  simp only [wsZ, List.getElem?_mapIdx, List.getElem?_set, List.length_mapIdx]
  by_cases h : a = k
  · subst h
    by_cases h2 : a < ah.length <;> simp [h2]
  · simp [h]
theorem wsZ_push (G : GW) (ah : AH) (e : AE) : wsZ G (ah ++ [e]) = wsZ G ah ++ [(gB G + ah.length, toE G e)] := by
  simp [wsZ, List.mapIdx_append]
theorem wsZ_D (G : GW) (ah : AH) : va_D (AA G) (wsZ G ah) := by
  refine ⟨fun i j p q h1 h2 h3 => ?_, fun k q h => ?_⟩
  · obtain ⟨e, -, rfl⟩ := wsZ_of h1
    obtain ⟨f, -, rfl⟩ := wsZ_of h2
    have : gB G + i = gB G + j := h3
    omega
  · obtain ⟨e, -, rfl⟩ := wsZ_of h
    exact Nat.le_add_right _ _
/-- the static rows, and what they hold -/
def sTab : List (String × List Int32) := [("FIRST_KIND", [0, 9, 14, 17]),
  ("TOPS", [99, 9, 9, 7, 7, -1, 7, 7, -1, 3, 3, -1, 9, -1, -1, 9, -1, -1, 9, -1, -1, 3, 3, 9, 3, 3, 9, 3, 7, -1, 3, -1, -1, 3, -1, -1, 7, -1, -1, -1, -1, -1, 9, -1, -1, 9, -1, -1, 9, -1, -1, 3, 7, -1, 7, -1, -1, 7, -1, -1]),
  ("TELLS_OF", [0, 0, 0, 1, 1, 0, 1, 1, 0, 2, 3, 0, 0, 0, 0, 0, 0, 0, 0, 0, 0, 2, 3, 0, 3, 2, 0]),
  ("GROUPS", [0, -1, 1, 2, 3, 4, -1, -1, -1, 5, 5, 5, 5, 5, 6, 6, 6, 7, 7, 7]),
  ("MOST_OF_GROUP", [8, 12, 4, 4, 4, 40, 8, 16]),
  ("MOST_ROWS", [0, 40, 8, 16])]
def sVal (i j : Nat) : Int32 := (sTab[i]?.elim [] (·.2)).getD j 0
def sLen (i : Nat) : Nat := (sTab[i]?.elim [] (·.2)).length
def sNam (i : Nat) : String := sTab[i]?.elim "" (·.1)
def StZ (G : GW) (U : State) (H : Heap) : Prop := ∀ i, i < 6 → va_Z RX4 (sNam i) "[I" (.ref (G.2.2.2.2.1 i)) (AA G) U H ∧ va_T .int (G.2.2.2.2.1 i) (sLen i) (fun j => .int (sVal i j)) (AA G) U H
/-- the texts of the reader, their entries, lengths and bytes -/
def sTx : List String := ["thing rests path couple left right hand likes liked ", "look words peace mirror hour ", "straight right left ", "looked shimmers still "]
def sCp : List Nat := [115, 117, 119, 121]
def strL : List Nat := [52, 29, 20, 22]
def strB : List (List Int32) := [[116, 104, 105, 110, 103, 32, 114, 101, 115, 116, 115, 32, 112, 97, 116, 104, 32, 99, 111, 117, 112, 108, 101, 32, 108, 101, 102, 116, 32, 114, 105, 103, 104, 116, 32, 104, 97, 110, 100, 32, 108, 105, 107, 101, 115, 32, 108, 105, 107, 101, 100, 32], [108, 111, 111, 107, 32, 119, 111, 114, 100, 115, 32, 112, 101, 97, 99, 101, 32, 109, 105, 114, 114, 111, 114, 32, 104, 111, 117, 114, 32], [115, 116, 114, 97, 105, 103, 104, 116, 32, 114, 105, 103, 104, 116, 32, 108, 101, 102, 116, 32], [108, 111, 111, 107, 101, 100, 32, 115, 104, 105, 109, 109, 101, 114, 115, 32, 115, 116, 105, 108, 108, 32]]
def TxZ (G : GW) (U : State) (H : Heap) : Prop := (∀ i, i < 4 → vk_R RX4 (sCp.getD i 0) (sTx.getD i "") (G.2.2.2.2.2.1 i) U) ∧ vk_S 4 strL strB G.2.2.2.2.2.1 G.2.2.2.2.2.2 (AA G) U H ∧ va_Z "java/lang/String" "COMPACT_STRINGS" "Z" (.int 1) (AA G) U H ∧ va_Zq "jdk/internal/util/Preconditions" "SIOOBE_FORMATTER" "Ljava/util/function/BiFunction;" (AA G) U H
def nestW : List (String × Nat × MethodName) := [("PairedViews$Told", 41, yX9_pick), ("PairedViews$Reader", 149, yX9_pick), ("PairedViews$Country", 80, yX9_pick), ("PairedViews$Rows", 31, yX9_pick), ("PairedViews$Eyes", 59, yX9_pick), ("PairedViews$Field", 19, yX9_pick), ("PairedViews$Watchers", 54, yX9_pick), ("PairedViews$Scene", 77, yX9_hasBit), ("PairedViews$Eyes", 49, yX9_hasBit), ("PairedViews$Quarrel", 36, yX9_hasBit), ("PairedViews$Watchers", 77, yX9_hasBit)]
/-- what the tables say all the time -/
def Kz (G : GW) (U : State) : Prop := va_K G.1 vwCl (tysZ G) U ∧ (∀ q ∈ nestW, va_Nw (.methodLinkNest q.1 q.2.1 q.2.2 "PairedViews") U) ∧ (∀ C ∈ [RX0, RX5, RX6, RX7], va_AO C U) ∧ StZ G U U.heap ∧ TxZ G U U.heap
theorem Kz.warm {G : GW} {s U : State} (h : Kz G s) (hW : s.WarmedH U.vm) (hq : ∀ q : Nat, q < s.heap.size → ¬ AA G q → U.heap[q]? = s.heap[q]?) : Kz G U := by
  obtain ⟨h1, h2, h3, h4, h5, h6, h7, h8⟩ := h
  refine ⟨va_K.moved hW.alike h1, fun q hq => va_Nw.warmM hW (h2 q hq), fun C hC => va_AO.moved hW.alike (h3 C hC), fun i hi => ?_, fun i hi => (h5 i hi).warm hW, (h6.moved hW.alike).kept hq, va_Z.kept (va_Z.moved hW.alike h7) hq, va_Zq.kept (va_Zq.moved hW.alike h8) hq⟩
  obtain ⟨a, b⟩ := h4 i hi
  exact ⟨va_Z.kept (va_Z.moved hW.alike a) hq, va_T.kept (va_T.moved hW.alike b) hq⟩
theorem Kz.blind {G : GW} {U : State} {g : JFrame} {mk : MethodId} {a : Array Value} (h : Kz G U) : Kz G (U.calling g mk a) := by
  obtain ⟨h1, h2, h3, h4, h5, h6, h7, h8⟩ := h
  refine ⟨va_K.moved (u := U) (U := U.calling g mk a) (Vm.Alike.refl U.vm) h1, fun q hq => va_Nw.same rfl rfl (h2 q hq), fun C hC => va_AO.moved (u := U) (U := U.calling g mk a) (Vm.Alike.refl U.vm) (h3 C hC), fun i hi => ?_, fun i hi => vk_R.same rfl (h5 i hi), vk_S.moved (u := U) (Vm.Alike.refl U.vm) h6, va_Z.moved (u := U) (Vm.Alike.refl U.vm) h7, va_Zq.moved (u := U) (Vm.Alike.refl U.vm) h8⟩
  obtain ⟨a, b⟩ := h4 i hi
  exact ⟨va_Z.moved (u := U) (Vm.Alike.refl U.vm) a, va_T.moved (u := U) (Vm.Alike.refl U.vm) b⟩
/-- the heap holds the list -/
def HZ (G : GW) (ah : AH) (H : Heap) : Prop := va_P G.1 vwCl (wsZ G ah) H ∧ H.size = gB G + ah.length
/-- a contract's start -/
def Pz (G : GW) (av : List Value) (ah : AH) : Array Value → State → Prop := va_Pc av (fun U => HZ G ah U.heap ∧ Kz G U)
theorem Pz.blind {G : GW} {av : List Value} {ah : AH} : FrameBlind (Pz G av ah) := fun _ _ _ _ h => ⟨h.1, h.2.1, h.2.2.blind⟩
/-- its ends -/
def Qi (G : GW) (r : Int32) (ah : AH) : Array Value → State → Outcome → State → Prop := va_Qi (fun r' (_ : Unit) => r' = r) (fun _ t => HZ G ah t.heap) (AA G)
def Qv (G : GW) (ah : AH) : Array Value → State → Outcome → State → Prop := va_Qv (fun _ : Unit => True) (fun _ t => HZ G ah t.heap) (AA G)
def Qq (G : GW) (r : Option Nat) (ah : AH) : Array Value → State → Outcome → State → Prop := va_Qq (fun r' (_ : Unit) => r' = r.map (gB G + ·)) (fun _ t => HZ G ah t.heap) (AA G)
/-- inside a method: the heap holds the list, nothing below the base has changed -/
def Wb (G : GW) (ah : AH) (s : State) (H : Heap) (locs : List Loc) : Prop := HZ G ah H ∧ va_S (AA G) s.heap H locs
theorem Wb.free {G : GW} {ah : AH} {s : State} {H : Heap} {locs : List Loc} (h : Wb G ah s H locs) : ∀ q ∈ locs, AA G q.base := h.2.2.2
/-- what is fixed inside a method -/
abbrev Cx (p : Program) (m : MethodId) (c : Code) (cc : ByteArray) (nL : Nat) (s : State) (args : Array Value) (own : String) (G : GW) : Prop :=
  p.tables.exec = Jvm.exec ∧ c.code = cc ∧ c.maxLocals = nL ∧ s.vm.findClass own = some m.cls ∧ (∀ w ∈ tz, w.before args s = true) ∧ Kz G s ∧ (∀ q : Nat, s.heap.size ≤ q → AA G q)
/-- a field's link: of class c, place k -/
def FL (own : String) (idx c k : Nat) : Prop := ∃ q : vw_C, vwCl[c]? = some q ∧ k < q.2.2 ∧ Cond.fieldLink own idx q.1 (q.2.1 k).2.1 (q.2.1 k).2.2.1 ∈ tz ∧ (q.2.1 k).1 = q.1
theorem tz_cls {c : Nat} {q : vw_C} (h : vwCl[c]? = some q) : ∀ w ∈ u_ws q.1 q.2.1 q.2.2, w ∈ tz := tz_in q (List.mem_of_getElem? h)
def tyCl (c : Nat) : Nat → FieldType := match c with
  | 0 => tyX0
  | 1 => tyX1
  | 2 => tyX2
  | 3 => tyX4
  | 4 => tyX5
  | 5 => tyX6
  | 6 => tyX7
  | 7 => tyX8
  | 8 => tyX9
  | _ => tyX10
theorem cls_ok : ∀ (c : Nat) (q : vw_C), vwCl[c]? = some q → (∀ k, k < q.2.2 → parseFieldDescriptor (q.2.1 k).2.2.1 = some (tyCl c k)) ∧ (∀ a, a < q.2.2 → ∀ b, b < q.2.2 → a ≠ b → (q.2.1 a).2.1 ≠ (q.2.1 b).2.1) := by
  intro c q h
  match c, h with
  | 0, h => cases h; exact ⟨tyX0_ok, nmX0⟩
  | 1, h => cases h; exact ⟨tyX1_ok, nmX1⟩
  | 2, h => cases h; exact ⟨tyX2_ok, nmX2⟩
  | 3, h => cases h; exact ⟨tyX4_ok, nmX4⟩
  | 4, h => cases h; exact ⟨tyX5_ok, nmX5⟩
  | 5, h => cases h; exact ⟨tyX6_ok, nmX6⟩
  | 6, h => cases h; exact ⟨tyX7_ok, nmX7⟩
  | 7, h => cases h; exact ⟨tyX8_ok, nmX8⟩
  | 8, h => cases h; exact ⟨tyX9_ok, nmX9⟩
  | 9, h => cases h; exact ⟨tyX10_ok, nmX10⟩
  | c + 10, h => simp [vwCl] at h
/-! the reads and writes, as plain functions -/
def oF (c : Nat) (ah : AH) (a k : Nat) : Option Value := match ah[a]? with
  | some (.inr (.inr (c', fs))) => if c' = c then fs[k]? else none
  | _ => none
/-- an object of class c -/
def isO (c : Nat) (ah : AH) (a : Nat) : Bool := match ah[a]? with
  | some (.inr (.inr (c', _))) => c' == c
  | _ => false
def gI (c k : Nat) (ah : AH) (a : Nat) : Option Int32 := match oF c ah a k with
  | some (.int x) => some x
  | _ => none
def gJ (c k : Nat) (ah : AH) (a : Nat) : Option Int64 := match oF c ah a k with
  | some (.long x) => some x
  | _ => none
def gN (c k : Nat) (ah : AH) (a : Nat) : Option Nat := match oF c ah a k with
  | some (.ref x) => some x
  | _ => none
def gQ (c k : Nat) (ah : AH) (a : Nat) : Option (Option Nat) := match oF c ah a k with
  | some (.ref x) => some (some x)
  | some .null => some none
  | _ => none
def pF (c k : Nat) (ah : AH) (a : Nat) (v : Value) : Option AH := match ah[a]? with
  | some (.inr (.inr (c', fs))) => if c' = c ∧ k < fs.length then some (ah.set a (.inr (.inr (c, fs.set k v)))) else none
  | _ => none
/-- a place in a row: loads and stores (kind t) -/
def ixI (t : Nat) (ah : AH) (a : Nat) (i : Int32) : Option Int32 := match ah[a]? with
  | some (.inl (t', n, f)) => if t' = t ∧ ¬ (i < 0 ∨ n ≤ i.toNatClampNeg) then some (f i.toNatClampNeg) else none
  | _ => none
def stI (t : Nat) (ah : AH) (a : Nat) (i x : Int32) : Option AH := match ah[a]? with
  | some (.inl (t', n, f)) => if t' = t ∧ ¬ (i < 0 ∨ n ≤ i.toNatClampNeg) then some (ah.set a (.inl (t, n, upd f i.toNatClampNeg x))) else none
  | _ => none
def lnI (t : Nat) (ah : AH) (a : Nat) : Option Int32 := match ah[a]? with
  | some (.inl (t', n, _)) => if t' = t then some (Int32.ofNat n) else none
  | _ => none
def ixQ (t : Nat) (ah : AH) (a : Nat) (i : Int32) : Option (Option Nat) := match ah[a]? with
  | some (.inr (.inl (t', n, f))) => if t' = t ∧ ¬ (i < 0 ∨ n ≤ i.toNatClampNeg) then some (f i.toNatClampNeg) else none
  | _ => none
def ixN (t : Nat) (ah : AH) (a : Nat) (i : Int32) : Option Nat := match ah[a]? with
  | some (.inr (.inl (t', n, f))) => if t' = t ∧ ¬ (i < 0 ∨ n ≤ i.toNatClampNeg) then f i.toNatClampNeg else none
  | _ => none
def lnQ (t : Nat) (ah : AH) (a : Nat) : Option Int32 := match ah[a]? with
  | some (.inr (.inl (t', n, _))) => if t' = t then some (Int32.ofNat n) else none
  | _ => none
def okQ (t : Nat) (ah : AH) : Option Nat → Bool
  | none => true
  | some b => isO t ah b
def stQ (t : Nat) (ah : AH) (a : Nat) (i : Int32) (r : Option Nat) : Option AH := match ah[a]? with
  | some (.inr (.inl (t', n, f))) => if (t' = t ∧ okQ t ah r = true) ∧ ¬ (i < 0 ∨ n ≤ i.toNatClampNeg) then some (ah.set a (.inr (.inl (t, n, va_up f i.toNatClampNeg r)))) else none
  | _ => none
/-- arraycopy of int rows (kind 0) and byte rows (kind 1) -/
def cpI (t : Nat) (ah : AH) (a : Nat) (i : Int32) (b : Nat) (j n : Int32) : Option AH := match ah[a]?, ah[b]? with
  | some (.inl (t0, n0, f)), some (.inl (t1, n1, g)) =>
    if (t0 = t ∧ t1 = t) ∧ (¬ i < 0 ∧ ¬ j < 0 ∧ ¬ n < 0) ∧ (i.toNatClampNeg + n.toNatClampNeg ≤ n0 ∧ j.toNatClampNeg + n.toNatClampNeg ≤ n1) ∧ (t = 0 ∨ (List.range n.toNatClampNeg).all (fun k => fits .byte (.int (f (i.toNatClampNeg + k)))) = true) then
      some (ah.set b (.inl (t, n1, va_cpy f g i.toNatClampNeg j.toNatClampNeg n.toNatClampNeg)))
    else none
  | _, _ => none
/-- a value with a name -/
def nm {α β : Type} (e : α) (k : α → β) : β := k e
theorem nm_to {α β : Type} {e x : α} {k : α → β} {r : β} (h : nm e k = r) (hx : x = e) : k x = r := by subst hx; exact h
theorem ob {α β : Type} {o : Option α} {k : α → Option β} {r : β} (h : o.bind k = some r) : ∃ x, o = some x ∧ k x = some r := Option.bind_eq_some_iff.mp h
theorem ck {P : Prop} [Decidable P] {β : Type} {k : Option β} {r : β} (h : (if P then k else none) = some r) : P ∧ k = some r := by
  by_cases hp : P
  · rw [if_pos hp] at h; exact ⟨hp, h⟩
  · rw [if_neg hp] at h; cases h
theorem isO_of {c : Nat} {ah : AH} {a : Nat} (h : isO c ah a = true) : ∃ fs, ah[a]? = some (.inr (.inr (c, fs))) := by
  unfold isO at h
  split at h
  · rename_i c' fs heq
    exact ⟨fs, by rw [heq]; have : c' = c := by simpa using h
                  rw [this]⟩
  · cases h
theorem oF_of {c : Nat} {ah : AH} {a k : Nat} {v : Value} (h : oF c ah a k = some v) : ∃ fs, ah[a]? = some (.inr (.inr (c, fs))) ∧ fs[k]? = some v := by
  unfold oF at h
  split at h
  · rename_i c' fs heq
    obtain ⟨rfl, h2⟩ := ck h
    exact ⟨fs, heq, h2⟩
  · cases h
theorem gI_of {c k : Nat} {ah : AH} {a : Nat} {x : Int32} (h : gI c k ah a = some x) : oF c ah a k = some (.int x) := by
  unfold gI at h; split at h <;> simp_all
theorem gJ_of {c k : Nat} {ah : AH} {a : Nat} {x : Int64} (h : gJ c k ah a = some x) : oF c ah a k = some (.long x) := by
  unfold gJ at h; split at h <;> simp_all
theorem gN_of {c k : Nat} {ah : AH} {a : Nat} {x : Nat} (h : gN c k ah a = some x) : oF c ah a k = some (.ref x) := by
  unfold gN at h; split at h <;> simp_all
theorem gQ_of {c k : Nat} {ah : AH} {a : Nat} {x : Option Nat} (h : gQ c k ah a = some x) : oF c ah a k = some (va_rf x) := by
  unfold gQ at h; split at h <;> simp_all [va_rf]
  · subst h; rfl
  · subst h; rfl
theorem pF_of {c k : Nat} {ah ah' : AH} {a : Nat} {v : Value} (h : pF c k ah a v = some ah') : ∃ fs, ah[a]? = some (.inr (.inr (c, fs))) ∧ k < fs.length ∧ ah' = ah.set a (.inr (.inr (c, fs.set k v))) := by
  unfold pF at h
  split at h
  · rename_i c' fs heq
    obtain ⟨⟨rfl, hk⟩, h2⟩ := ck h
    exact ⟨fs, heq, hk, (Option.some.inj h2).symm⟩
  · cases h
theorem ixI_of {t : Nat} {ah : AH} {a : Nat} {i x : Int32} (h : ixI t ah a i = some x) : ∃ n f, ah[a]? = some (.inl (t, n, f)) ∧ vp_in i n ∧ x = f i.toNatClampNeg := by
  unfold ixI at h
  split at h
  · rename_i t' n f heq
    obtain ⟨⟨rfl, hk⟩, h2⟩ := ck h
    exact ⟨n, f, heq, hk, (Option.some.inj h2).symm⟩
  · cases h
theorem stI_of {t : Nat} {ah ah' : AH} {a : Nat} {i x : Int32} (h : stI t ah a i x = some ah') : ∃ n f, ah[a]? = some (.inl (t, n, f)) ∧ vp_in i n ∧ ah' = ah.set a (.inl (t, n, upd f i.toNatClampNeg x)) := by
  unfold stI at h
  split at h
  · rename_i t' n f heq
    obtain ⟨⟨rfl, hk⟩, h2⟩ := ck h
    exact ⟨n, f, heq, hk, (Option.some.inj h2).symm⟩
  · cases h
theorem lnI_of {t : Nat} {ah : AH} {a : Nat} {x : Int32} (h : lnI t ah a = some x) : ∃ n f, ah[a]? = some (.inl (t, n, f)) ∧ Int32.ofNat n = x := by
  unfold lnI at h
  split at h
  · rename_i t' n f heq
    obtain ⟨rfl, h2⟩ := ck h
    exact ⟨n, f, heq, Option.some.inj h2⟩
  · cases h
theorem ixQ_of {t : Nat} {ah : AH} {a : Nat} {i : Int32} {x : Option Nat} (h : ixQ t ah a i = some x) : ∃ n f, ah[a]? = some (.inr (.inl (t, n, f))) ∧ vp_in i n ∧ x = f i.toNatClampNeg := by
  unfold ixQ at h
  split at h
  · rename_i t' n f heq
    obtain ⟨⟨rfl, hk⟩, h2⟩ := ck h
    exact ⟨n, f, heq, hk, (Option.some.inj h2).symm⟩
  · cases h
theorem ixN_of {t : Nat} {ah : AH} {a : Nat} {i : Int32} {x : Nat} (h : ixN t ah a i = some x) : ∃ n f, ah[a]? = some (.inr (.inl (t, n, f))) ∧ vp_in i n ∧ some x = f i.toNatClampNeg := by
  unfold ixN at h
  split at h
  · rename_i t' n f heq
    obtain ⟨⟨rfl, hk⟩, h2⟩ := ck h
    exact ⟨n, f, heq, hk, h2.symm⟩
  · cases h
theorem lnQ_of {t : Nat} {ah : AH} {a : Nat} {x : Int32} (h : lnQ t ah a = some x) : ∃ n f, ah[a]? = some (.inr (.inl (t, n, f))) ∧ Int32.ofNat n = x := by
  unfold lnQ at h
  split at h
  · rename_i t' n f heq
    obtain ⟨rfl, h2⟩ := ck h
    exact ⟨n, f, heq, Option.some.inj h2⟩
  · cases h
theorem stQ_of {t : Nat} {ah ah' : AH} {a : Nat} {i : Int32} {r : Option Nat} (h : stQ t ah a i r = some ah') : ∃ n f, ah[a]? = some (.inr (.inl (t, n, f))) ∧ okQ t ah r = true ∧ vp_in i n ∧ ah' = ah.set a (.inr (.inl (t, n, va_up f i.toNatClampNeg r))) := by
  unfold stQ at h
  split at h
  · rename_i t' n f heq
    obtain ⟨⟨⟨rfl, ho⟩, hk⟩, h2⟩ := ck h
    exact ⟨n, f, heq, ho, hk, (Option.some.inj h2).symm⟩
  · cases h
theorem cpI_of {t : Nat} {ah ah' : AH} {a b : Nat} {i j n : Int32} (h : cpI t ah a i b j n = some ah') : ∃ n0 n1 f g, ah[a]? = some (.inl (t, n0, f)) ∧ ah[b]? = some (.inl (t, n1, g)) ∧ (¬ i < 0 ∧ ¬ j < 0 ∧ ¬ n < 0) ∧ (i.toNatClampNeg + n.toNatClampNeg ≤ n0 ∧ j.toNatClampNeg + n.toNatClampNeg ≤ n1) ∧ (t = 0 ∨ ∀ k, k < n.toNatClampNeg → fits .byte (.int (f (i.toNatClampNeg + k))) = true) ∧ ah' = ah.set b (.inl (t, n1, va_cpy f g i.toNatClampNeg j.toNatClampNeg n.toNatClampNeg)) := by
  unfold cpI at h
  split at h
  · rename_i t0 n0 f t1 n1 g h0 h1
    obtain ⟨⟨⟨rfl, rfl⟩, hk, hn, hf⟩, h2⟩ := ck h
    refine ⟨n0, n1, f, g, h0, h1, hk, hn, ?_, (Option.some.inj h2).symm⟩
    rcases hf with hf | hf
    · exact Or.inl hf
    · exact Or.inr fun k hk => by simpa using List.all_eq_true.mp hf k (List.mem_range.mpr hk)
  · cases h
