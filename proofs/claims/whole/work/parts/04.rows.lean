/-! ===== rows: one instruction over the plain world ===== -/
section ZR
variable {p : Program} {l : Launch} {e : Env} {R : Room} {s : State} {m : MethodId} {args : Array Value} {below : List Frame} {meth : Method} {c : Code} {H : Heap} {locs : List Loc} {cells slots : Nat} {Q : State → Prop}
variable {cc : ByteArray} {pc : Nat} {ls : Array Slot} {rest : List Value} {nL : Nat} {own : String} {G : GW} {ah ah' : AH}
theorem Wb.D (_h : Wb G ah s H locs) : va_D (AA G) (wsZ G ah) := wsZ_D G ah
theorem Wb.set {a : Nat} {e0 : AE} {H1 : Heap} {locs1 : List Loc} (h : Wb G ah s H locs) (ha : ah[a]? = some e0) (e1 : AE) (hP : va_P G.1 vwCl ((wsZ G ah).set a (gB G + a, toE G e1)) H1) (hz : H1.size = H.size) (hS : va_S (AA G) s.heap H1 locs1) : Wb G (ah.set a e1) s H1 locs1 :=
  ⟨⟨by rw [wsZ_set]; exact hP, by rw [hz, List.length_set]; exact h.1.2⟩, hS⟩
/-- a heap that holds the list's cells and has the same size -/
theorem va_size {ws : va_W} {H1 : Heap} (h : H.size = gB G + ah.length) (hz : H1.size = H.size) : H1.size = gB G + ah.length := hz.trans h
theorem wz_get {ci k idx a : Nat} {v : Value} (C : Cx p m c cc nL s args own G) (hW : Wb G ah s H locs) (hf : FL own idx ci k) (hv : oF ci ah a k = some v) (hd : decode cc pc = .ok (.getfield idx, 3))
    (kk : W p l e R s m args below meth c H locs cells slots Q (F0 m (pc + 3) ls (cv G v :: rest))) : W p l e R s m args below meth c H locs cells slots Q (F0 m pc ls (.ref (gB G + a) :: rest)) := by
  obtain ⟨hx, hb, -, hown, hts, hK, -⟩ := C
  obtain ⟨q, h1, h2, h3, h4⟩ := hf
  obtain ⟨fs, h5, h6⟩ := oF_of hv
  refine va_get hx hb (Ts := tz) hts (tz_cls h1) hown hK.1 hW.1.1 a (fs := fs.map (cv G)) (wsZ_at h5) (C := q.1) (T := q.2.1) (N := q.2.2) h1 k h2 (hts _ h3) (fun x hx => by rw [← h4]; exact hx) (v := cv G v) ?_ hd kk
  rw [List.getElem?_map, h6]; rfl
theorem wz_gI {ci k idx a : Nat} {x : Int32} (C : Cx p m c cc nL s args own G) (hW : Wb G ah s H locs) (hf : FL own idx ci k) (hv : gI ci k ah a = some x) (hd : decode cc pc = .ok (.getfield idx, 3))
    (kk : W p l e R s m args below meth c H locs cells slots Q (F0 m (pc + 3) ls (.int x :: rest))) : W p l e R s m args below meth c H locs cells slots Q (F0 m pc ls (.ref (gB G + a) :: rest)) := wz_get C hW hf (gI_of hv) hd kk
theorem wz_gJ {ci k idx a : Nat} {x : Int64} (C : Cx p m c cc nL s args own G) (hW : Wb G ah s H locs) (hf : FL own idx ci k) (hv : gJ ci k ah a = some x) (hd : decode cc pc = .ok (.getfield idx, 3))
    (kk : W p l e R s m args below meth c H locs cells slots Q (F0 m (pc + 3) ls (.long x :: rest))) : W p l e R s m args below meth c H locs cells slots Q (F0 m pc ls (.ref (gB G + a) :: rest)) := wz_get C hW hf (gJ_of hv) hd kk
theorem wz_gN {ci k idx a x : Nat} (C : Cx p m c cc nL s args own G) (hW : Wb G ah s H locs) (hf : FL own idx ci k) (hv : gN ci k ah a = some x) (hd : decode cc pc = .ok (.getfield idx, 3))
    (kk : W p l e R s m args below meth c H locs cells slots Q (F0 m (pc + 3) ls (.ref (gB G + x) :: rest))) : W p l e R s m args below meth c H locs cells slots Q (F0 m pc ls (.ref (gB G + a) :: rest)) := wz_get C hW hf (gN_of hv) hd kk
theorem wz_gQ {ci k idx a : Nat} {x : Option Nat} (C : Cx p m c cc nL s args own G) (hW : Wb G ah s H locs) (hf : FL own idx ci k) (hv : gQ ci k ah a = some x) (hd : decode cc pc = .ok (.getfield idx, 3))
    (kk : W p l e R s m args below meth c H locs cells slots Q (F0 m (pc + 3) ls (rv G x :: rest))) : W p l e R s m args below meth c H locs cells slots Q (F0 m pc ls (.ref (gB G + a) :: rest)) := by
  refine wz_get C hW hf (gQ_of hv) hd ?_
  cases x <;> exact kk
/-- what a field's type lets in -/
def okV : FieldType → Value → Bool
  | .int, .int _ => true
  | .boolean, .int x => x == 0 || x == 1
  | .long, .long _ => true
  | .object _, .ref _ => true
  | .object _, .null => true
  | .array _, .ref _ => true
  | .array _, .null => true
  | _, _ => false
theorem okV_nar {ty : FieldType} {v : Value} (h : okV ty v = true) : narrow ty (cv G v) = cv G v ∧ fits ty (cv G v) = true := by
  cases ty <;> cases v <;> simp [okV] at h <;> first | exact ⟨rfl, rfl⟩ | (rcases h with rfl | rfl <;> exact ⟨rfl, rfl⟩)
theorem Wb.store {a : Nat} {e0 : AE} {H1 : Heap} {n : Nat} (h : Wb G ah s H locs) (ha : ah[a]? = some e0) (e1 : AE) (h1 : va_at G.1 vwCl (gB G + a, toE G e1) H1) (hz : H1.size = H.size) (oq : ∀ q : Nat, q ≠ gB G + a → H1[q]? = H[q]?) : Wb G (ah.set a e1) s H1 (locs ++ [⟨gB G + a, n⟩]) :=
  ⟨⟨by rw [wsZ_set]; exact h.1.1.set h.D (wsZ_at ha) h1 oq, by rw [hz, List.length_set]; exact h.1.2⟩, h.2.put hz oq (Nat.le_add_right _ _)⟩
theorem wz_put {ci k idx a : Nat} {v : Value} (C : Cx p m c cc nL s args own G) (hW : Wb G ah s H locs) (hf : FL own idx ci k) (hn : (match vwCl[ci]? with | some q => (q.2.1 k).2.2.2 | none => true) = false) (hok : okV (tyCl ci k) v = true) (hv : pF ci k ah a v = some ah') (hd : decode cc pc = .ok (.putfield idx, 3))
    (kk : ∀ (H1 : Heap) (locs1 : List Loc), Wb G ah' s H1 locs1 → W p l e R s m args below meth c H1 locs1 cells slots Q (F0 m (pc + 3) ls rest)) : W p l e R s m args below meth c H locs cells slots Q (F0 m pc ls (cv G v :: .ref (gB G + a) :: rest)) := by
  obtain ⟨hx, hb, -, hown, hts, hK, -⟩ := C
  obtain ⟨⟨CC, T, N⟩, hc, hk, h3, h4⟩ := hf
  obtain ⟨fs, h5, hl, rfl⟩ := pF_of hv
  obtain ⟨hty, hnm⟩ := cls_ok ci _ hc
  rw [hc] at hn
  have hin := tz_cls hc
  obtain ⟨hn1, hn2⟩ := okV_nar (G := G) hok
  have hap := va_apart (own := own) hts hin (tyCl ci) hty hnm hK.1 hc
  obtain ⟨r, h1, cell, q1, q2, q3, q4⟩ := hW.1.1 a _ (wsZ_at h5)
  have hr : r = (CC, T, N) := Option.some.inj (h1.symm.trans hc)
  subst hr
  obtain ⟨hS, hfc, kC, hkC, hkind⟩ := hK.1.1 ci _ hc
  obtain ⟨cf, kf, fi, f, hi, hsl⟩ := hS k hk
  have hlay := hts _ (hin _ (u_in_lay hk))
  unfold u_lay at hlay
  dsimp only at hn
  rw [if_neg (by rw [hn]; decide)] at hlay
  have hst := (u_facts hfc hkC (u_lays hts hin hk) hi).1
  have h6 := u_store hfc hkC hkind hlay hi (hty k hk) hn1 hn2
  refine W.putK hx hb (f := f) ⟨hown, hts _ h3, ⟨_, _, _, by rw [← h4]; exact hi⟩, hst⟩ (by rw [q2]; exact h6) q1 q3 (by rw [hsl]; exact k2_hasslot (q4 k hk)) rfl rfl hd fun H' e1 e2 e3 => ?_
  rw [hsl] at e1
  refine kk H' _ (hW.store h5 _ ⟨_, hc, t_OB.to (V := updV (vp_V (fs.map (cv G))) k (cv G v)) ⟨_, e1, q2, q3, t_set q4 hap hk (cv G v)⟩ (fun j _ => ?_)⟩ e2 e3)
  rw [vp_updV_set (by rw [List.length_map]; exact hl), List.map_set]
theorem wz_putF {ci k idx a : Nat} {v : Value} (C : Cx p m c cc nL s args own G) (hin2 : meth.name = "<init>") (hW : Wb G ah s H locs) (hf : FL own idx ci k) (hn : (match vwCl[ci]? with | some q => ((q.2.1 k).2.2.2 && decide (q.1 = own)) | none => false) = true) (hok : okV (tyCl ci k) v = true) (hv : pF ci k ah a v = some ah') (hd : decode cc pc = .ok (.putfield idx, 3))
    (kk : ∀ (H1 : Heap) (locs1 : List Loc), Wb G ah' s H1 locs1 → W p l e R s m args below meth c H1 locs1 cells slots Q (F0 m (pc + 3) ls rest)) : W p l e R s m args below meth c H locs cells slots Q (F0 m pc ls (cv G v :: .ref (gB G + a) :: rest)) := by
  obtain ⟨hx, hb, -, hown, hts, hK, -⟩ := C
  obtain ⟨⟨CC, T, N⟩, hc, hk, h3, h4⟩ := hf
  obtain ⟨fs, h5, hl, rfl⟩ := pF_of hv
  obtain ⟨hty, hnm⟩ := cls_ok ci _ hc
  rw [hc] at hn
  simp only [Bool.and_eq_true, decide_eq_true_eq] at hn
  obtain ⟨hfin, hdecl⟩ := hn
  have hin := tz_cls hc
  obtain ⟨hn1, hn2⟩ := okV_nar (G := G) hok
  have hap := va_apart (own := own) hts hin (tyCl ci) hty hnm hK.1 hc
  obtain ⟨r, h1, cell, q1, q2, q3, q4⟩ := hW.1.1 a _ (wsZ_at h5)
  have hr : r = (CC, T, N) := Option.some.inj (h1.symm.trans hc)
  subst hr
  obtain ⟨hS, hfc, kC, hkC, hkind⟩ := hK.1.1 ci _ hc
  obtain ⟨cf, kf, fi, f, hi, hsl⟩ := hS k hk
  have hlay := hts _ (hin _ (u_in_lay hk))
  unfold u_lay at hlay
  rw [if_pos hfin] at hlay
  have hst := (u_facts hfc hkC (u_lays hts hin hk) hi).1
  have hcf : m.cls = cf := by
    obtain ⟨_, _, c', _, _, _, -, -, hf', -, -, -, hown2, -⟩ := Cond.laysFinal_spec hlay
    have e1 : c' = cf := by have := hi.symm.trans hf'; simp at this; exact this.1.symm
    dsimp only at h4 hdecl
    rw [h4, hdecl] at hown2
    rw [← e1]; exact Option.some.inj (hown.symm.trans hown2)
  have h6 := u_fits hfc hkC hkind (Or.inr hlay) hi (hty k hk) hn1 hn2
  refine W.putFinK hx hb hown (hts _ h3) (by rw [← h4]; exact hi) hst hcf hin2 (by rw [q2]; exact h6) q1 q3 (by rw [hsl]; exact k2_hasslot (q4 k hk)) rfl rfl hd fun H' e1 e2 e3 => ?_
  rw [hsl] at e1
  refine kk H' _ (hW.store h5 _ ⟨_, hc, t_OB.to (V := updV (vp_V (fs.map (cv G))) k (cv G v)) ⟨_, e1, q2, q3, t_set q4 hap hk (cv G v)⟩ (fun j _ => ?_)⟩ e2 e3)
  rw [vp_updV_set (by rw [List.length_map]; exact hl), List.map_set]
/-! rows (arrays) -/
def tyI (t : Nat) : FieldType := match t with
  | 0 => .int
  | 1 => .byte
  | _ => .boolean
theorem wz_ald {a : Nat} {i x : Int32} (C : Cx p m c cc nL s args own G) (hW : Wb G ah s H locs) (hv : ixI 0 ah a i = some x) (hd : decode cc pc = .ok (.iaload, 1))
    (kk : W p l e R s m args below meth c H locs cells slots Q (F0 m (pc + 1) ls (.int x :: rest))) : W p l e R s m args below meth c H locs cells slots Q (F0 m pc ls (.int i :: .ref (gB G + a) :: rest)) := by
  obtain ⟨hx, hb, -, -, -, hK, -⟩ := C
  obtain ⟨n, f, h1, h2, rfl⟩ := ixI_of hv
  exact va_iald hx hb hK.1 hW.1.1 a 0 (wsZ_at h1) rfl h2 hd kk
theorem wz_bld {a : Nat} {i x : Int32} (C : Cx p m c cc nL s args own G) (hW : Wb G ah s H locs) (hv : ixI 1 ah a i = some x) (hd : decode cc pc = .ok (.baload, 1))
    (kk : W p l e R s m args below meth c H locs cells slots Q (F0 m (pc + 1) ls (.int x :: rest))) : W p l e R s m args below meth c H locs cells slots Q (F0 m pc ls (.int i :: .ref (gB G + a) :: rest)) := by
  obtain ⟨hx, hb, -, -, -, hK, -⟩ := C
  obtain ⟨n, f, h1, h2, rfl⟩ := ixI_of hv
  exact va_bald hx hb hK.1 hW.1.1 a 1 (wsZ_at h1) rfl h2 hd kk
theorem wz_zld {a : Nat} {i x : Int32} (C : Cx p m c cc nL s args own G) (hW : Wb G ah s H locs) (hv : ixI 2 ah a i = some x) (hd : decode cc pc = .ok (.baload, 1))
    (kk : W p l e R s m args below meth c H locs cells slots Q (F0 m (pc + 1) ls (.int x :: rest))) : W p l e R s m args below meth c H locs cells slots Q (F0 m pc ls (.int i :: .ref (gB G + a) :: rest)) := by
  obtain ⟨hx, hb, -, -, -, hK, -⟩ := C
  obtain ⟨n, f, h1, h2, rfl⟩ := ixI_of hv
  exact va_zald hx hb hK.1 hW.1.1 a 2 (wsZ_at h1) rfl h2 hd kk
theorem wz_len {a : Nat} {x : Int32} (C : Cx p m c cc nL s args own G) (hW : Wb G ah s H locs) (hv : lnI 0 ah a = some x) (hd : decode cc pc = .ok (.arraylength, 1))
    (kk : W p l e R s m args below meth c H locs cells slots Q (F0 m (pc + 1) ls (.int x :: rest))) : W p l e R s m args below meth c H locs cells slots Q (F0 m pc ls (.ref (gB G + a) :: rest)) := by
  obtain ⟨hx, hb, -, -, -, hK, -⟩ := C
  obtain ⟨n, f, h1, h2⟩ := lnI_of hv
  exact va_alen hx hb hK.1 hW.1.1 a 0 (wsZ_at h1) (ty := .int) rfl h2 hd kk
theorem wz_lenB {a : Nat} {x : Int32} (C : Cx p m c cc nL s args own G) (hW : Wb G ah s H locs) (hv : lnI 1 ah a = some x) (hd : decode cc pc = .ok (.arraylength, 1))
    (kk : W p l e R s m args below meth c H locs cells slots Q (F0 m (pc + 1) ls (.int x :: rest))) : W p l e R s m args below meth c H locs cells slots Q (F0 m pc ls (.ref (gB G + a) :: rest)) := by
  obtain ⟨hx, hb, -, -, -, hK, -⟩ := C
  obtain ⟨n, f, h1, h2⟩ := lnI_of hv
  exact va_alen hx hb hK.1 hW.1.1 a 1 (wsZ_at h1) (ty := .byte) rfl h2 hd kk
/-- the place of a row of references among the kinds -/
def qT (t : Nat) : Nat := match t with
  | 0 => 3
  | 4 => 4
  | 5 => 5
  | _ => 6
def qC (t : Nat) : String := match t with
  | 0 => RX0
  | 4 => RX5
  | 5 => RX6
  | _ => RX7
theorem qT_ok {t : Nat} (h : t = 0 ∨ t = 4 ∨ t = 5 ∨ t = 6) : (tysZ G)[qT t]? = some (G.2.2.1 t, .object (qC t)) := by
  rcases h with rfl | rfl | rfl | rfl <;> rfl
theorem wz_lenQ {a t : Nat} {x : Int32} (ht : t = 0 ∨ t = 4 ∨ t = 5 ∨ t = 6) (C : Cx p m c cc nL s args own G) (hW : Wb G ah s H locs) (hv : lnQ t ah a = some x) (hd : decode cc pc = .ok (.arraylength, 1))
    (kk : W p l e R s m args below meth c H locs cells slots Q (F0 m (pc + 1) ls (.int x :: rest))) : W p l e R s m args below meth c H locs cells slots Q (F0 m pc ls (.ref (gB G + a) :: rest)) := by
  obtain ⟨hx, hb, -, -, -, hK, -⟩ := C
  obtain ⟨n, f, h1, h2⟩ := lnQ_of hv
  exact va_alen hx hb hK.1 hW.1.1 a (qT t) (wsZ_at h1) (qT_ok ht) h2 hd kk
theorem wz_qld {a t : Nat} {i : Int32} {x : Option Nat} (ht : t = 0 ∨ t = 4 ∨ t = 5 ∨ t = 6) (C : Cx p m c cc nL s args own G) (hW : Wb G ah s H locs) (hv : ixQ t ah a i = some x) (hd : decode cc pc = .ok (.aaload, 1))
    (kk : W p l e R s m args below meth c H locs cells slots Q (F0 m (pc + 1) ls (rv G x :: rest))) : W p l e R s m args below meth c H locs cells slots Q (F0 m pc ls (.int i :: .ref (gB G + a) :: rest)) := by
  obtain ⟨hx, hb, -, -, -, hK, -⟩ := C
  obtain ⟨n, f, h1, h2, rfl⟩ := ixQ_of hv
  exact va_aldq hx hb hK.1 hW.1.1 a (qT t) (wsZ_at h1) (qT_ok ht) h2 hd kk
theorem wz_nld {a t : Nat} {i : Int32} {x : Nat} (ht : t = 0 ∨ t = 4 ∨ t = 5 ∨ t = 6) (C : Cx p m c cc nL s args own G) (hW : Wb G ah s H locs) (hv : ixN t ah a i = some x) (hd : decode cc pc = .ok (.aaload, 1))
    (kk : W p l e R s m args below meth c H locs cells slots Q (F0 m (pc + 1) ls (.ref (gB G + x) :: rest))) : W p l e R s m args below meth c H locs cells slots Q (F0 m pc ls (.int i :: .ref (gB G + a) :: rest)) := by
  obtain ⟨hx, hb, -, -, -, hK, -⟩ := C
  obtain ⟨n, f, h1, h2, h3⟩ := ixN_of hv
  refine va_aldq hx hb hK.1 hW.1.1 a (qT t) (wsZ_at h1) (qT_ok ht) h2 hd ?_
  rw [← h3]
  exact kk
theorem wz_ast {a : Nat} {i x : Int32} (C : Cx p m c cc nL s args own G) (hW : Wb G ah s H locs) (hv : stI 0 ah a i x = some ah') (hd : decode cc pc = .ok (.iastore, 1))
    (kk : ∀ (H1 : Heap) (locs1 : List Loc), Wb G ah' s H1 locs1 → W p l e R s m args below meth c H1 locs1 cells slots Q (F0 m (pc + 1) ls rest)) : W p l e R s m args below meth c H locs cells slots Q (F0 m pc ls (.int x :: .int i :: .ref (gB G + a) :: rest)) := by
  obtain ⟨hx, hb, -, -, -, hK, -⟩ := C
  obtain ⟨n, f, h1, h2, rfl⟩ := stI_of hv
  refine W.iast hx hb (hW.1.1 a _ (wsZ_at h1)) ((hK.1.2 0 _ rfl).1 n (fun j => .int (f j))) (fun q => by cases q) (by show ¬ (i < 0 ∨ (arrV _ _ _).slots.size ≤ _); rw [arrV_size]; exact h2) rfl rfl hd fun H1 e z oq => ?_
  refine kk H1 _ (hW.store h1 _ ?_ z oq)
  show H1[gB G + a]? = some (vp_cell _ _)
  rw [e, vp_cell_i, vp_cell_i, arrV_store]
  congr 2
  funext q
  by_cases hq : q = i.toNatClampNeg
  · subst hq; simp [updV, upd]
  · simp [updV, upd, hq]
theorem wz_bst {a : Nat} {i x : Int32} (C : Cx p m c cc nL s args own G) (hW : Wb G ah s H locs) (hv : stI 1 ah a i (vp_nar .byte x) = some ah') (hd : decode cc pc = .ok (.bastore, 1))
    (kk : ∀ (H1 : Heap) (locs1 : List Loc), Wb G ah' s H1 locs1 → W p l e R s m args below meth c H1 locs1 cells slots Q (F0 m (pc + 1) ls rest)) : W p l e R s m args below meth c H locs cells slots Q (F0 m pc ls (.int x :: .int i :: .ref (gB G + a) :: rest)) := by
  obtain ⟨hx, hb, -, -, -, hK, -⟩ := C
  obtain ⟨n, f, h1, h2, rfl⟩ := stI_of hv
  refine W.bast hx hb (hW.1.1 a _ (wsZ_at h1)) ((hK.1.2 1 _ rfl).1 n (fun j => .int (f j))) (fun q => by cases q) (by show ¬ (i < 0 ∨ (arrV _ _ _).slots.size ≤ _); rw [arrV_size]; exact h2) rfl rfl hd fun H1 e z oq => ?_
  refine kk H1 _ (hW.store h1 _ ?_ z oq)
  show H1[gB G + a]? = some (vp_cell _ _)
  rw [e, vp_cell_i, vp_cell_i, arrV_store]
  congr 2
  funext q
  by_cases hq : q = i.toNatClampNeg
  · subst hq; simp [updV, upd, vp_nar]; try rfl
  · simp [updV, upd, hq]
theorem wz_zst {a : Nat} {i x : Int32} (C : Cx p m c cc nL s args own G) (hW : Wb G ah s H locs) (hv : stI 2 ah a i (vp_nar .boolean x) = some ah') (hd : decode cc pc = .ok (.bastore, 1))
    (kk : ∀ (H1 : Heap) (locs1 : List Loc), Wb G ah' s H1 locs1 → W p l e R s m args below meth c H1 locs1 cells slots Q (F0 m (pc + 1) ls rest)) : W p l e R s m args below meth c H locs cells slots Q (F0 m pc ls (.int x :: .int i :: .ref (gB G + a) :: rest)) := by
  obtain ⟨hx, hb, -, -, -, hK, -⟩ := C
  obtain ⟨n, f, h1, h2, rfl⟩ := stI_of hv
  refine W.zast hx hb (hW.1.1 a _ (wsZ_at h1)) ((hK.1.2 2 _ rfl).1 n (fun j => .int (f j))) (fun q => by cases q) (by show ¬ (i < 0 ∨ (arrV _ _ _).slots.size ≤ _); rw [arrV_size]; exact h2) rfl rfl hd fun H1 e z oq => ?_
  refine kk H1 _ (hW.store h1 _ ?_ z oq)
  show H1[gB G + a]? = some (vp_cell _ _)
  rw [e, vp_cell_i, vp_cell_i, arrV_store]
  congr 2
  funext q
  by_cases hq : q = i.toNatClampNeg
  · subst hq; simp [updV, upd, vp_nar]; try rfl
  · simp [updV, upd, hq]
theorem wz_qst {a t b : Nat} {i : Int32} (ht : t = 0 ∨ t = 4 ∨ t = 5 ∨ t = 6) (C : Cx p m c cc nL s args own G) (hW : Wb G ah s H locs) (hv : stQ t ah a i (some b) = some ah') (hd : decode cc pc = .ok (.aastore, 1))
    (kk : ∀ (H1 : Heap) (locs1 : List Loc), Wb G ah' s H1 locs1 → W p l e R s m args below meth c H1 locs1 cells slots Q (F0 m (pc + 1) ls rest)) : W p l e R s m args below meth c H locs cells slots Q (F0 m pc ls (.ref (gB G + b) :: .int i :: .ref (gB G + a) :: rest)) := by
  obtain ⟨hx, hb, -, -, -, hK, -⟩ := C
  obtain ⟨n, f, ha, ho, hin, rfl⟩ := stQ_of hv
  obtain ⟨fs, hv⟩ := isO_of ho
  have hlt : i.toNatClampNeg < n := Nat.not_le.mp fun q => hin (Or.inr q)
  have h0 : ¬ i < 0 := fun q => hin (Or.inl q)
  have hcl : ∃ r : vw_C, vwCl[t]? = some r ∧ r.1 = qC t := by rcases ht with rfl | rfl | rfl | rfl <;> exact ⟨_, rfl, rfl⟩
  obtain ⟨r, hc, hrC⟩ := hcl
  obtain ⟨r', hr', cellV, g1, g2, g3, -⟩ := hW.1.1 b _ (wsZ_at hv)
  have hcls := (hK.1.1 t r hc).2
  obtain ⟨kA, comp, k1, k2, k3, -⟩ := (hK.1.2 (qT t) _ (qT_ok ht)).2
  rw [hrC] at hcls
  have hcomp : comp = G.1.1 t := Option.some.inj (k3.symm.trans hcls.1)
  subst hcomp
  obtain ⟨kC, hkC, -⟩ := hcls.2
  refine W.aast hx hb (hW.1.1 a _ (wsZ_at ha)) (fun q h => by cases h) (fun h => by cases h) k1 k2 rfl hkC ⟨h0, by show _ < (arrV _ _ _).slots.size; rw [arrV_size]; exact hlt⟩ g1 (fun q h => by rw [g3] at h; cases h) (by rw [g2]; exact hkC) (by rw [g2]; exact va_assign hcls) rfl rfl hd fun H1 e z oq => ?_
  refine kk H1 _ (hW.store ha _ ?_ z oq)
  show H1[gB G + a]? = some (vp_cell _ _)
  rw [e, vp_cell_q, vp_cell_q, arrV_store]
  congr 2
  funext q
  by_cases hq : q = i.toNatClampNeg
  · subst hq; simp [updV, va_up, va_rf]
  · simp [updV, va_up, hq]
theorem wz_qstN {a t : Nat} {i : Int32} (ht : t = 0 ∨ t = 4 ∨ t = 5 ∨ t = 6) (C : Cx p m c cc nL s args own G) (hW : Wb G ah s H locs) (hv : stQ t ah a i none = some ah') (hd : decode cc pc = .ok (.aastore, 1))
    (kk : ∀ (H1 : Heap) (locs1 : List Loc), Wb G ah' s H1 locs1 → W p l e R s m args below meth c H1 locs1 cells slots Q (F0 m (pc + 1) ls rest)) : W p l e R s m args below meth c H locs cells slots Q (F0 m pc ls (.null :: .int i :: .ref (gB G + a) :: rest)) := by
  obtain ⟨hx, hb, -, -, -, hK, -⟩ := C
  obtain ⟨n, f, ha, ho, hin, rfl⟩ := stQ_of hv
  refine va_WaastN (C := qC t) hx hb (hW.1.1 a _ (wsZ_at ha)) ((hK.1.2 (qT t) _ (qT_ok ht)).1 n (fun j => va_rf ((f j).map (gB G + ·)))) (fun h => by cases h) (by show ¬ (i < 0 ∨ (arrV _ _ _).slots.size ≤ _); rw [arrV_size]; exact hin) rfl rfl hd fun H1 e z oq => ?_
  refine kk H1 _ (hW.store ha _ ?_ z oq)
  show H1[gB G + a]? = some (vp_cell _ _)
  rw [e, vp_cell_q, vp_cell_q, arrV_store]
  congr 2
  funext q
  by_cases hq : q = i.toNatClampNeg
  · subst hq; simp [updV, va_up, va_rf]
  · simp [updV, va_up, hq]
theorem wz_qstR {a t : Nat} {i : Int32} {r : Option Nat} (ht : t = 0 ∨ t = 4 ∨ t = 5 ∨ t = 6) (C : Cx p m c cc nL s args own G) (hW : Wb G ah s H locs) (hv : stQ t ah a i r = some ah') (hd : decode cc pc = .ok (.aastore, 1))
    (kk : ∀ (H1 : Heap) (locs1 : List Loc), Wb G ah' s H1 locs1 → W p l e R s m args below meth c H1 locs1 cells slots Q (F0 m (pc + 1) ls rest)) : W p l e R s m args below meth c H locs cells slots Q (F0 m pc ls (rv G r :: .int i :: .ref (gB G + a) :: rest)) := by
  cases r with
  | none => exact wz_qstN ht C hW hv hd kk
  | some b => exact wz_qst ht C hW hv hd kk
/-! making -/
theorem Wb.push {H1 : Heap} (h : Wb G ah s H locs) (e : AE) (h1 : va_at G.1 vwCl (gB G + ah.length, toE G e) H1) (hz : H1.size = H.size + 1) (oq : ∀ q : Nat, q < H.size → H1[q]? = H[q]?) : Wb G (ah ++ [e]) s H1 locs := by
  refine ⟨⟨?_, by rw [hz, h.1.2, List.length_append]; rfl⟩, Nat.le_trans h.2.1 (by omega), fun x g1 g2 => (oq x (Nat.lt_of_lt_of_le g1 h.2.1)).trans (h.2.2.1 x g1 g2), h.2.2.2⟩
  rw [wsZ_push]
  refine (h.1.1.kept (fun k x hx => oq x.1 ((h.1.1 k x hx).lt))).app (fun k x hx => ?_)
  have hz : k < 1 := (List.getElem?_eq_some_iff.mp hx).1
  rw [show k = 0 by omega] at hx
  cases hx
  exact h1
def dfl : FieldType → Value
  | .int => .int 0
  | .boolean => .int 0
  | .long => .long 0
  | _ => .null
/-- the fields of a new object -/
def newF (ci : Nat) : List Value := match vwCl[ci]? with
  | some q => (List.range q.2.2).map (fun k => dfl (tyCl ci k))
  | none => []
theorem newF_ok : ∀ (ci : Nat) (q : vw_C), vwCl[ci]? = some q → ∀ j, j < q.2.2 → defaultValue (tyCl ci j) = vp_V ((newF ci).map (cv G)) j := by
  have key : ∀ (ci : Nat), ci < 10 → ∀ (q : vw_C), vwCl[ci]? = some q → (List.range q.2.2).all (fun j => decide (defaultValue (tyCl ci j) = dfl (tyCl ci j))) = true := by
    intro ci hci q hq
    match ci, hci, hq with
    | 0, _, hq => cases hq; decide +kernel
    | 1, _, hq => cases hq; decide +kernel
    | 2, _, hq => cases hq; decide +kernel
    | 3, _, hq => cases hq; decide +kernel
    | 4, _, hq => cases hq; decide +kernel
    | 5, _, hq => cases hq; decide +kernel
    | 6, _, hq => cases hq; decide +kernel
    | 7, _, hq => cases hq; decide +kernel
    | 8, _, hq => cases hq; decide +kernel
    | 9, _, hq => cases hq; decide +kernel
    | ci + 10, h, _ => omega
  intro ci q hq j hj
  have hci : ci < 10 := by have := (List.getElem?_eq_some_iff.mp hq).1; simpa using this
  have h1 := key ci hci q hq
  have h2 : defaultValue (tyCl ci j) = dfl (tyCl ci j) := by simpa using List.all_eq_true.mp h1 j (List.mem_range.mpr hj)
  rw [h2]
  have h3 : ∀ ty : FieldType, cv G (dfl ty) = dfl ty := by intro ty; cases ty <;> rfl
  simp [newF, hq, vp_V, hj, h3]
theorem wz_new {ci idx : Nat} {CC : String} {N : Nat} (hc : ∃ T, vwCl[ci]? = some (CC, T, N)) (hk : Cond.classLink own idx CC ∈ tz ∧ Cond.instantiable CC N ∈ tz ∧ Cond.initialized CC ∈ tz) (C : Cx p m c cc nL s args own G) (hW : Wb G ah s H locs) (hr : cells + 1 ≤ R.cells ∧ slots + N ≤ R.slots) (hd : decode cc pc = .ok (.new idx, 3))
    (kk : ∀ (H1 : Heap), Wb G (ah ++ [.inr (.inr (ci, newF ci))]) s H1 locs → W p l e R s m args below meth c H1 locs (cells + 1) (slots + N) Q (F0 m (pc + 3) ls (.ref (gB G + ah.length) :: rest))) : W p l e R s m args below meth c H locs cells slots Q (F0 m pc ls rest) := by
  obtain ⟨hx, hb, -, hown, hts, hK, -⟩ := C
  obtain ⟨T, hc⟩ := hc
  have hKn := hK.1.1 ci _ hc
  refine W.newcK hx hb hown (hts _ hk.1) (hts _ hk.2.1) (hts _ hk.2.2) rfl hd hr.1 hr.2 hKn.2.1 hW.1.2 fun H1 kC hkC e1 z1 o1 => ?_
  refine kk H1 (hW.push _ ⟨_, hc, (u_born (tyCl ci) hts (tz_cls hc) hKn hkC e1 (cls_ok ci _ hc).1).to (newF_ok ci _ hc)⟩ (by rw [z1, hW.1.2]) (fun q hq => o1 q (by rw [← hW.1.2]; exact hq)))
end ZR
