/-! ===== the words of the plain functions, and the rows that go with them ===== -/
def nq {β : Type} (r : Option Nat) (A : β) (B : Nat → β) : β := match r with
  | none => A
  | some a => B a
theorem nq_n {β : Type} {A x : β} {B : Nat → β} (h : nq none A B = x) : A = x := h
theorem nq_s {β : Type} {a : Nat} {A x : β} {B : Nat → β} (h : nq (some a) A B = x) : B a = x := h
def b2 {α β γ : Type} (o : Option (α × β)) (k : α → β → Option γ) : Option γ := match o with
  | none => none
  | some (x, y) => k x y
theorem ob2 {α β γ : Type} {o : Option (α × β)} {k : α → β → Option γ} {r : γ} (h : b2 o k = some r) : ∃ x y, o = some (x, y) ∧ k x y = some r := by
  match o, h with
  | some (x, y), h => exact ⟨x, y, rfl, h⟩
def mk {β : Type} (e : AE) (z : AH) (k : Nat → AH → β) : β := k z.length (z ++ [e])
theorem mk_ob {β : Type} {e : AE} {z : AH} {k : Nat → AH → β} {r : β} (h : mk e z k = r) : ∃ a z1, a = z.length ∧ z1 = z ++ [e] ∧ k a z1 = r := ⟨_, _, rfl, rfl, h⟩
theorem ite_t {P : Prop} [Decidable P] {β : Type} {A B x : β} (c : P) (h : (if P then A else B) = x) : A = x := by rw [if_pos c] at h; exact h
theorem ite_f {P : Prop} [Decidable P] {β : Type} {A B x : β} (c : ¬ P) (h : (if P then A else B) = x) : B = x := by rw [if_neg c] at h; exact h
theorem so2 {α β : Type} {a c : α} {b d : β} (h : some (a, b) = some (c, d)) : a = c ∧ b = d := by cases h; exact ⟨rfl, rfl⟩
def irem (x y : Int32) : Int32 := x - x / y * y
def ush (x y : Int32) : Int32 := (x.toUInt32 >>> (y.toUInt32 &&& Int32.toUInt32 31)).toInt32
def shl (x y : Int32) : Int32 := x <<< (y &&& 31)
def shr (x y : Int32) : Int32 := x >>> (y &&& 31)
def lshl (x : Int64) (y : Int32) : Int64 := x <<< (y.toInt64 &&& 63)
def imax (x y : Int32) : Int32 := if x < y then y else x
def imin (x y : Int32) : Int32 := if y < x then y else x
def iabs (x : Int32) : Int32 := if 0 ≤ x then x else 0 - x
/-- a static row's place -/
def sIx (i : Nat) (j : Int32) : Option Int32 := if ¬ (j < 0 ∨ sLen i ≤ j.toNatClampNeg) then some (sVal i j.toNatClampNeg) else none
/-- steps enough for any loop here -/
def FU : Nat := 20000
theorem lg_eq {x y : Int64} : lg_cmp x y = 0 ↔ x = y := by
  unfold lg_cmp
  constructor
  · intro h
    by_cases h1 : y < x
    · simp [h1] at h
    · by_cases h2 : x = y
      · exact h2
      · simp [h1, h2] at h
  · intro h; subst h; simp
theorem i32_ne {x k : Int32} {z : Int} (h : ¬ x = k) (hz : k.toInt = z) : x.toInt ≠ z := fun e => h (Int32.toInt_inj.mp (e.trans hz.symm))
section ZT
variable {p : Program} {l : Launch} {e : Env} {R : Room} {s : State} {m : MethodId} {args : Array Value} {below : List Frame} {meth : Method} {c : Code} {H : Heap} {locs : List Loc} {cells slots : Nat} {Q : State → Prop}
variable {cc : ByteArray} {pc : Nat} {ls : Array Slot} {rest st0 : List Value} {nL : Nat} {own : String} {G : GW} {ah ah' : AH} {mc ms c' s' : Nat} {av : Array Value}
theorem wz_irem {x y : Int32} (hx : p.tables.exec = Jvm.exec) (hb : c.code = cc) (hd : decode cc pc = .ok (.irem, 1)) (hne : ¬ y = 0) (k : W p l e R s m args below meth c H locs cells slots Q (F0 m (pc + 1) ls (.int (irem x y) :: rest))) : W p l e R s m args below meth c H locs cells slots Q (F0 m pc ls (.int y :: .int x :: rest)) := lv_irem hx hb hd hne k
theorem wz_ush {x y : Int32} (hx : p.tables.exec = Jvm.exec) (hb : c.code = cc) (hd : decode cc pc = .ok (.iushr, 1)) (k : W p l e R s m args below meth c H locs cells slots Q (F0 m (pc + 1) ls (.int (ush x y) :: rest))) : W p l e R s m args below meth c H locs cells slots Q (F0 m pc ls (.int y :: .int x :: rest)) := lv_iushr hx hb hd rfl k
theorem wz_shl {x y : Int32} (hx : p.tables.exec = Jvm.exec) (hb : c.code = cc) (hd : decode cc pc = .ok (.ishl, 1)) (k : W p l e R s m args below meth c H locs cells slots Q (F0 m (pc + 1) ls (.int (shl x y) :: rest))) : W p l e R s m args below meth c H locs cells slots Q (F0 m pc ls (.int y :: .int x :: rest)) := lv_ishl hx hb hd k
theorem wz_shr {x y : Int32} (hx : p.tables.exec = Jvm.exec) (hb : c.code = cc) (hd : decode cc pc = .ok (.ishr, 1)) (k : W p l e R s m args below meth c H locs cells slots Q (F0 m (pc + 1) ls (.int (shr x y) :: rest))) : W p l e R s m args below meth c H locs cells slots Q (F0 m pc ls (.int y :: .int x :: rest)) := lv_ishr hx hb hd k
theorem wz_lshl {x : Int64} {y : Int32} (hx : p.tables.exec = Jvm.exec) (hb : c.code = cc) (hd : decode cc pc = .ok (.lshl, 1)) (k : W p l e R s m args below meth c H locs cells slots Q (F0 m (pc + 1) ls (.long (lshl x y) :: rest))) : W p l e R s m args below meth c H locs cells slots Q (F0 m pc ls (.int y :: .long x :: rest)) := lv_lshl hx hb hd rfl k
theorem wz_max {idx : Nat} {x y : Int32} (hk : Cond.methodLink own idx Lib.Math.max.name ∈ tz ∧ Cond.static Lib.Math.max.name ∈ tz ∧ Cond.initialized "java/lang/Math" ∈ tz ∧ Cond.code Lib.Math.max.name Lib.Math.max.code 2 (some .int) ∈ tz) (C : Cx p m c cc nL s args own G) (hsz : ls.size = nL) (hr : (1 ≤ R.frames ∧ 24 ≤ R.locals) ∧ cells ≤ R.cells ∧ slots ≤ R.slots) (hw : (rest.map fun v => v.category).sum ≤ 8) (hd : decode cc pc = .ok (.invokestatic idx, 3))
    (kk : W p l e R s m args below meth c H locs cells slots Q (F0 m (pc + 3) ls (.int (imax x y) :: rest))) : W p l e R s m args below meth c H locs cells slots Q (F0 m pc ls (.int y :: .int x :: rest)) :=
  va_mmax C.1 C.2.1 (C.2.2.1.trans hsz.symm) C.2.2.2.1 (C.2.2.2.2.1 _ hk.1) (C.2.2.2.2.1 _ hk.2.1) (C.2.2.2.2.1 _ hk.2.2.1) (C.2.2.2.2.1 _ hk.2.2.2) hr.1.1 (by have := hr.1.2; omega) hr.2.1 hr.2.2 hd kk
theorem wz_min {idx : Nat} {x y : Int32} (hk : Cond.methodLink own idx Lib.Math.min.name ∈ tz ∧ Cond.static Lib.Math.min.name ∈ tz ∧ Cond.initialized "java/lang/Math" ∈ tz ∧ Cond.code Lib.Math.min.name Lib.Math.min.code 2 (some .int) ∈ tz) (C : Cx p m c cc nL s args own G) (hsz : ls.size = nL) (hr : (1 ≤ R.frames ∧ 24 ≤ R.locals) ∧ cells ≤ R.cells ∧ slots ≤ R.slots) (hw : (rest.map fun v => v.category).sum ≤ 8) (hd : decode cc pc = .ok (.invokestatic idx, 3))
    (kk : W p l e R s m args below meth c H locs cells slots Q (F0 m (pc + 3) ls (.int (imin x y) :: rest))) : W p l e R s m args below meth c H locs cells slots Q (F0 m pc ls (.int y :: .int x :: rest)) :=
  va_mmin C.1 C.2.1 (C.2.2.1.trans hsz.symm) C.2.2.2.1 (C.2.2.2.2.1 _ hk.1) (C.2.2.2.2.1 _ hk.2.1) (C.2.2.2.2.1 _ hk.2.2.1) (C.2.2.2.2.1 _ hk.2.2.2) hr.1.1 (by have := hr.1.2; omega) hr.2.1 hr.2.2 hd kk
theorem wz_abs {idx : Nat} {x : Int32} (hk : Cond.methodLink own idx Lib.Math.abs.name ∈ tz ∧ Cond.static Lib.Math.abs.name ∈ tz ∧ Cond.initialized "java/lang/Math" ∈ tz ∧ Cond.code Lib.Math.abs.name Lib.Math.abs.code 1 (some .int) ∈ tz) (C : Cx p m c cc nL s args own G) (hsz : ls.size = nL) (hr : (1 ≤ R.frames ∧ 24 ≤ R.locals) ∧ cells ≤ R.cells ∧ slots ≤ R.slots) (hw : (rest.map fun v => v.category).sum ≤ 8) (hd : decode cc pc = .ok (.invokestatic idx, 3))
    (kk : W p l e R s m args below meth c H locs cells slots Q (F0 m (pc + 3) ls (.int (iabs x) :: rest))) : W p l e R s m args below meth c H locs cells slots Q (F0 m pc ls (.int x :: rest)) :=
  va_mabs C.1 C.2.1 (C.2.2.1.trans hsz.symm) C.2.2.2.1 (C.2.2.2.2.1 _ hk.1) (C.2.2.2.2.1 _ hk.2.1) (C.2.2.2.2.1 _ hk.2.2.1) (C.2.2.2.2.1 _ hk.2.2.2) hr.1.1 (by have := hr.1.2; omega) hr.2.1 hr.2.2 hd kk
/-- lcmp, then ifne / ifeq -/
theorem wz_lcne {x y : Int64} {off : Int} {tgt : Nat} (hx : p.tables.exec = Jvm.exec) (hb : c.code = cc) (hd : decode cc pc = .ok (.lcmp, 1)) (hd2 : decode cc (pc + 1) = .ok (.ifCond .ne off, 3)) (ht : ((pc + 1 : Nat) : Int) + off = (tgt : Int))
    (kt : ¬ x = y → W p l e R s m args below meth c H locs cells slots Q (F0 m tgt ls rest)) (kf : x = y → W p l e R s m args below meth c H locs cells slots Q (F0 m (pc + 4) ls rest)) : W p l e R s m args below meth c H locs cells slots Q (F0 m pc ls (.long y :: .long x :: rest)) :=
  W.lcmp hx hb hd (lv_if_ne hx hb hd2 ht (fun h => kt (fun e => h (lg_eq.mpr e))) (fun h => kf (lg_eq.mp h)))
theorem wz_lceq {x y : Int64} {off : Int} {tgt : Nat} (hx : p.tables.exec = Jvm.exec) (hb : c.code = cc) (hd : decode cc pc = .ok (.lcmp, 1)) (hd2 : decode cc (pc + 1) = .ok (.ifCond .eq off, 3)) (ht : ((pc + 1 : Nat) : Int) + off = (tgt : Int))
    (kt : x = y → W p l e R s m args below meth c H locs cells slots Q (F0 m tgt ls rest)) (kf : ¬ x = y → W p l e R s m args below meth c H locs cells slots Q (F0 m (pc + 4) ls rest)) : W p l e R s m args below meth c H locs cells slots Q (F0 m pc ls (.long y :: .long x :: rest)) :=
  W.lcmp hx hb hd (lv_if_eq hx hb hd2 ht (fun h => kt (lg_eq.mp h)) (fun h => kf (fun e => h (lg_eq.mpr e))))
/-- one case of a switch -/
theorem wz_sw {x : Int32} (k : Int32) {dflt lo hi : Int} {offs : Array Int} {len : Nat} {off : Int} {tgt : Nat} (hx : p.tables.exec = Jvm.exec) (hb : c.code = cc) (hd : decode cc pc = .ok (.tableswitch dflt lo hi offs, len)) (hk : x = k) (h1 : ¬ k.toInt < lo ∧ ¬ hi < k.toInt) (ho : offs[(k.toInt - lo).toNat]? = some off) (ht : (pc : Int) + off = (tgt : Int))
    (kk : W p l e R s m args below meth c H locs cells slots Q (F0 m tgt ls rest)) : W p l e R s m args below meth c H locs cells slots Q (F0 m pc ls (.int x :: rest)) := by
  subst hk
  exact lv_tableIn hx hb hd h1.1 h1.2 ho ht kk
/-- what a method gives back, and the numbers of cells behind it -/
theorem wz_rI {r : Int32} (hW : Wb G ah s H locs) (hr : va_Run p l e R s m args below meth c H locs cells slots mc ms (F0 m pc ls st0) rest (Qi G r ah' av) (AA G)) (hc : cells + mc = c') (hs : slots + ms = s')
    (kk : ∀ (H1 : Heap) (locs1 : List Loc), Wb G ah' s H1 locs1 → W p l e R s m args below meth c H1 locs1 c' s' Q (F0 m (pc + 3) ls (.int r :: rest))) : W p l e R s m args below meth c H locs cells slots Q (F0 m pc ls st0) := by
  subst hc; subst hs; exact wz_ri hW hr kk
theorem wz_rV (hW : Wb G ah s H locs) (hr : va_Run p l e R s m args below meth c H locs cells slots mc ms (F0 m pc ls st0) rest (Qv G ah' av) (AA G)) (hc : cells + mc = c') (hs : slots + ms = s')
    (kk : ∀ (H1 : Heap) (locs1 : List Loc), Wb G ah' s H1 locs1 → W p l e R s m args below meth c H1 locs1 c' s' Q (F0 m (pc + 3) ls rest)) : W p l e R s m args below meth c H locs cells slots Q (F0 m pc ls st0) := by
  subst hc; subst hs; exact wz_rv hW hr kk
theorem wz_rQ {r : Option Nat} (hW : Wb G ah s H locs) (hr : va_Run p l e R s m args below meth c H locs cells slots mc ms (F0 m pc ls st0) rest (Qq G r ah' av) (AA G)) (hc : cells + mc = c') (hs : slots + ms = s')
    (kk : ∀ (H1 : Heap) (locs1 : List Loc), Wb G ah' s H1 locs1 → W p l e R s m args below meth c H1 locs1 c' s' Q (F0 m (pc + 3) ls (rv G r :: rest))) : W p l e R s m args below meth c H locs cells slots Q (F0 m pc ls st0) := by
  subst hc; subst hs; exact wz_rq hW hr kk
theorem wz_rN {r : Nat} (hW : Wb G ah s H locs) (hr : va_Run p l e R s m args below meth c H locs cells slots mc ms (F0 m pc ls st0) rest (Qq G (some r) ah' av) (AA G)) (hc : cells + mc = c') (hs : slots + ms = s')
    (kk : ∀ (H1 : Heap) (locs1 : List Loc), Wb G ah' s H1 locs1 → W p l e R s m args below meth c H1 locs1 c' s' Q (F0 m (pc + 3) ls (.ref (gB G + r) :: rest))) : W p l e R s m args below meth c H locs cells slots Q (F0 m pc ls st0) := by
  subst hc; subst hs; exact wz_rq hW hr kk
/-- returns, by equations -/
theorem wz_iretE {x r : Int32} (C : Cx p m c cc nL s args own G) (hlk : meth.locks = false) (hr : meth.sig.returnType = some .int) (hx : x = r) (hz : ah = ah') (hW : Wb G ah s H locs) (hd : decode cc pc = .ok (.ireturn, 1)) : W p l e R s m args below meth c H locs cells slots (MQ below (Qi G r ah') args s cells slots (AA G)) (F0 m pc ls [.int x]) := by
  subst hx; subst hz; exact wz_iret C hlk hr hW hd
theorem wz_zretE {x r : Int32} (C : Cx p m c cc nL s args own G) (hlk : meth.locks = false) (hr : meth.sig.returnType = some .boolean) (h01 : x = 0 ∨ x = 1) (hx : x = r) (hz : ah = ah') (hW : Wb G ah s H locs) (hd : decode cc pc = .ok (.ireturn, 1)) : W p l e R s m args below meth c H locs cells slots (MQ below (Qi G r ah') args s cells slots (AA G)) (F0 m pc ls [.int x]) := by
  subst hx; subst hz; exact wz_zret C hlk hr h01 hW hd
theorem wz_vretE (C : Cx p m c cc nL s args own G) (hlk : meth.locks = false) (hr : meth.sig.returnType = none) (hz : ah = ah') (hW : Wb G ah s H locs) (hd : decode cc pc = .ok (.return_, 1)) : W p l e R s m args below meth c H locs cells slots (MQ below (Qv G ah') args s cells slots (AA G)) (F0 m pc ls []) := by
  subst hz; exact wz_vret C hlk hr hW hd
theorem wz_qretE {x r : Option Nat} {CC : String} (C : Cx p m c cc nL s args own G) (hlk : meth.locks = false) (hr : meth.sig.returnType = some (.object CC)) (hx : x = r) (hz : ah = ah') (hW : Wb G ah s H locs) (hd : decode cc pc = .ok (.areturn, 1)) : W p l e R s m args below meth c H locs cells slots (MQ below (Qq G r ah') args s cells slots (AA G)) (F0 m pc ls [rv G x]) := by
  subst hx; subst hz; exact wz_aret C hlk hr hW hd
theorem wz_nretE {x r : Nat} {CC : String} (C : Cx p m c cc nL s args own G) (hlk : meth.locks = false) (hr : meth.sig.returnType = some (.object CC)) (hx : x = r) (hz : ah = ah') (hW : Wb G ah s H locs) (hd : decode cc pc = .ok (.areturn, 1)) : W p l e R s m args below meth c H locs cells slots (MQ below (Qq G (some r) ah') args s cells slots (AA G)) (F0 m pc ls [.ref (gB G + x)]) := by
  subst hx; subst hz; exact wz_aret (r := some x) C hlk hr hW hd
/-- static rows -/
theorem wz_gets {i idx : Nat} {nm0 : String} (hi : i < 6) (hn : sNam i = nm0) (hk : Cond.fieldLink own idx RX4 nm0 "[I" ∈ tz) (C : Cx p m c cc nL s args own G) (hW : Wb G ah s H locs) (hd : decode cc pc = .ok (.getstatic idx, 3))
    (kk : W p l e R s m args below meth c H locs cells slots Q (F0 m (pc + 3) ls (.ref (G.2.2.2.2.1 i) :: rest))) : W p l e R s m args below meth c H locs cells slots Q (F0 m pc ls rest) := by
  subst hn
  exact va_gets C.1 C.2.1 (C.2.2.2.2.2.1.2.2.2.1 i hi).1 hW.2 C.2.2.2.1 (C.2.2.2.2.1 _ hk) (fun x h => h) hd kk
theorem wz_sld {i : Nat} {j x : Int32} (hi : i < 6) (C : Cx p m c cc nL s args own G) (hW : Wb G ah s H locs) (hv : sIx i j = some x) (hd : decode cc pc = .ok (.iaload, 1))
    (kk : W p l e R s m args below meth c H locs cells slots Q (F0 m (pc + 1) ls (.int x :: rest))) : W p l e R s m args below meth c H locs cells slots Q (F0 m pc ls (.int j :: .ref (G.2.2.2.2.1 i) :: rest)) := by
  obtain ⟨hin, h2⟩ := ck hv
  cases h2
  obtain ⟨cell, h1, h2, h3, h4, h5, h6, h7⟩ := (C.2.2.2.2.2.1.2.2.2.1 i hi).2
  have hlt : j.toNatClampNeg < sLen i := Nat.not_le.mp fun q => hin (Or.inr q)
  exact W.iald (v := .int (sVal i j.toNatClampNeg)) C.1 C.2.1 (by rw [hW.2.2.1 _ (Array.getElem?_eq_some_iff.mp h1).1 h7]; exact h1) h2 h3 (fun q => by rcases q with q | q <;> first | exact hin (Or.inl q) | omega) (h6 _ hlt) rfl rfl hd kk
theorem wz_slen {i : Nat} (hi : i < 6) (C : Cx p m c cc nL s args own G) (hW : Wb G ah s H locs) (hd : decode cc pc = .ok (.arraylength, 1))
    (kk : W p l e R s m args below meth c H locs cells slots Q (F0 m (pc + 1) ls (.int (Int32.ofNat (sLen i)) :: rest))) : W p l e R s m args below meth c H locs cells slots Q (F0 m pc ls (.ref (G.2.2.2.2.1 i) :: rest)) := by
  obtain ⟨cell, h1, h2, h3, h4, h5, h6, h7⟩ := (C.2.2.2.2.2.1.2.2.2.1 i hi).2
  exact W.alen C.1 C.2.1 (by rw [hW.2.2.1 _ (Array.getElem?_eq_some_iff.mp h1).1 h7]; exact h1) h2 h5 rfl rfl hd kk
/-- making, with names -/
theorem wz_newK {ci idx a1 : Nat} {z1 : AH} {CC : String} {N : Nat} (ea : a1 = ah.length) (ez : z1 = ah ++ [.inr (.inr (ci, newF ci))]) (hc : ∃ T, vwCl[ci]? = some (CC, T, N)) (hk : Cond.classLink own idx CC ∈ tz ∧ Cond.instantiable CC N ∈ tz ∧ Cond.initialized CC ∈ tz) (C : Cx p m c cc nL s args own G) (hW : Wb G ah s H locs) (hr : cells + 1 ≤ R.cells ∧ slots + N ≤ R.slots) (h1 : cells + 1 = c') (h2 : slots + N = s') (hd : decode cc pc = .ok (.new idx, 3))
    (kk : ∀ (H1 : Heap), Wb G z1 s H1 locs → W p l e R s m args below meth c H1 locs c' s' Q (F0 m (pc + 3) ls (.ref (gB G + a1) :: rest))) : W p l e R s m args below meth c H locs cells slots Q (F0 m pc ls rest) := by
  subst ea; subst ez; subst h1; subst h2; exact wz_new hc hk C hW hr hd kk
theorem wz_newIK {n : Int32} {N a1 : Nat} {z1 : AH} (ea : a1 = ah.length) (ez : z1 = ah ++ [.inl (0, N, fun _ => 0)]) (hw : Cond.arrayClass .int ∈ tz) (C : Cx p m c cc nL s args own G) (hW : Wb G ah s H locs) (hn : ¬ n < 0) (hN : n.toNatClampNeg = N) (hN2 : N ≤ 65536) (hr : cells + 1 ≤ R.cells ∧ slots + N ≤ R.slots) (h1 : cells + 1 = c') (h2 : slots + N = s') (hd : decode cc pc = .ok (.newarray .int, 2))
    (kk : ∀ (H1 : Heap), Wb G z1 s H1 locs → W p l e R s m args below meth c H1 locs c' s' Q (F0 m (pc + 2) ls (.ref (gB G + a1) :: rest))) : W p l e R s m args below meth c H locs cells slots Q (F0 m pc ls (.int n :: rest)) := by
  subst ea; subst ez; subst h1; subst h2; exact wz_newI hw C hW hn hN hN2 hr hd kk
theorem wz_newBK {n : Int32} {N a1 : Nat} {z1 : AH} (ea : a1 = ah.length) (ez : z1 = ah ++ [.inl (1, N, fun _ => 0)]) (hw : Cond.arrayClass .byte ∈ tz) (C : Cx p m c cc nL s args own G) (hW : Wb G ah s H locs) (hn : ¬ n < 0) (hN : n.toNatClampNeg = N) (hN2 : N ≤ 65536) (hr : cells + 1 ≤ R.cells ∧ slots + N ≤ R.slots) (h1 : cells + 1 = c') (h2 : slots + N = s') (hd : decode cc pc = .ok (.newarray .byte, 2))
    (kk : ∀ (H1 : Heap), Wb G z1 s H1 locs → W p l e R s m args below meth c H1 locs c' s' Q (F0 m (pc + 2) ls (.ref (gB G + a1) :: rest))) : W p l e R s m args below meth c H locs cells slots Q (F0 m pc ls (.int n :: rest)) := by
  subst ea; subst ez; subst h1; subst h2; exact wz_newB hw C hW hn hN hN2 hr hd kk
theorem wz_newZK {n : Int32} {N a1 : Nat} {z1 : AH} (ea : a1 = ah.length) (ez : z1 = ah ++ [.inl (2, N, fun _ => 0)]) (hw : Cond.arrayClass .boolean ∈ tz) (C : Cx p m c cc nL s args own G) (hW : Wb G ah s H locs) (hn : ¬ n < 0) (hN : n.toNatClampNeg = N) (hN2 : N ≤ 65536) (hr : cells + 1 ≤ R.cells ∧ slots + N ≤ R.slots) (h1 : cells + 1 = c') (h2 : slots + N = s') (hd : decode cc pc = .ok (.newarray .boolean, 2))
    (kk : ∀ (H1 : Heap), Wb G z1 s H1 locs → W p l e R s m args below meth c H1 locs c' s' Q (F0 m (pc + 2) ls (.ref (gB G + a1) :: rest))) : W p l e R s m args below meth c H locs cells slots Q (F0 m pc ls (.int n :: rest)) := by
  subst ea; subst ez; subst h1; subst h2; exact wz_newZ hw C hW hn hN hN2 hr hd kk
theorem wz_newQK {n : Int32} {N t idx a1 : Nat} {z1 : AH} (ea : a1 = ah.length) (ez : z1 = ah ++ [.inr (.inl (t, N, fun _ => none))]) (ht : t = 0 ∨ t = 4 ∨ t = 5 ∨ t = 6) (hw : Cond.classLink own idx (qC t) ∈ tz) (C : Cx p m c cc nL s args own G) (hW : Wb G ah s H locs) (hn : ¬ n < 0) (hN : n.toNatClampNeg = N) (hN2 : N ≤ 65536) (hr : cells + 1 ≤ R.cells ∧ slots + N ≤ R.slots) (h1 : cells + 1 = c') (h2 : slots + N = s') (hd : decode cc pc = .ok (.anewarray idx, 3))
    (kk : ∀ (H1 : Heap), Wb G z1 s H1 locs → W p l e R s m args below meth c H1 locs c' s' Q (F0 m (pc + 3) ls (.ref (gB G + a1) :: rest))) : W p l e R s m args below meth c H locs cells slots Q (F0 m pc ls (.int n :: rest)) := by
  subst ea; subst ez; subst h1; subst h2; exact wz_newQ ht hw C hW hn hN hN2 hr hd kk
theorem wz_obj {idx a : Nat} (hk : Cond.methodLink own idx objectInit ∈ tz ∧ Cond.instanceMethod objectInit ∈ tz ∧ Cond.code objectInit ⟨#[0xb1]⟩ 1 none ∈ tz) (C : Cx p m c cc nL s args own G) (hsz : ls.size = nL) (hd : decode cc pc = .ok (.invokespecial idx, 3)) (hr : 1 ≤ R.frames ∧ 20 ≤ R.locals)
    (kk : W p l e R s m args below meth c H locs cells slots Q (F0 m (pc + 3) ls [])) : W p l e R s m args below meth c H locs cells slots Q (F0 m pc ls [.ref a]) := by
  refine W.objInit C.1 C.2.1 C.2.2.2.1 (C.2.2.2.2.1 _ hk.1) (C.2.2.2.2.1 _ hk.2.1) (C.2.2.2.2.1 _ hk.2.2) rfl (hsz.trans C.2.2.1.symm) rfl hd hr.1 ?_ kk
  have := lv_room (m := m) (pc := pc) (ls := ls) (rest := [.ref a]) (st := []) (Nat.zero_le 8)
  have h2 := hr.2
  omega
end ZT
