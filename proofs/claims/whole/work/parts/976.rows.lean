/-! ===== text: the lines as Rows ===== -/
theorem fs_pre {ls : List LiN} {s : ST} (h : (ls.foldl stL s).1.1 = 0) (i : Nat) : ((ls.take i).foldl stL s).1.1 = 0 := by
  refine Classical.byContradiction (fun g => ?_)
  have : ls.foldl stL s = (ls.drop i).foldl stL ((ls.take i).foldl stL s) := by rw [← List.foldl_append, List.take_append_drop]
  rw [this, fs_all g] at h
  exact g h
theorem nu_good {ln : LiN} {fs : Int32 × Int32} : ∀ n, (nuF ln fs n).1 = 0 → gdN ln n = true ∧ fs.1 = 0
  | 0, h => ⟨rfl, h⟩
  | n + 1, h => by
    replace h : (if okN ln.1 n (ln.2.2.1 0) (ln.2.2.1 n) then nuF ln fs n else adF (nuF ln fs n) 2 (nI (ln.2.2.2 n))).1 = 0 := h
    cases g : okN ln.1 n (ln.2.2.1 0) (ln.2.2.1 n)
    · rw [g, if_neg (by decide)] at h
      exfalso
      unfold adF at h
      split at h
      · exact absurd h (show ¬ (2 : Int32) = 0 by decide)
      · exact absurd h (by assumption)
    · rw [g, if_pos rfl] at h
      obtain ⟨h1, h2⟩ := nu_good n h
      refine ⟨?_, h2⟩
      show (gdN ln n && okN ln.1 n (ln.2.2.1 0) (ln.2.2.1 n)) = true
      rw [h1, g]; rfl
theorem fs_good {s : ST} {ln : LiN} (h : (stL s ln).1.1 = 0) : gdL ln = true := (nu_good (arK ln.1) h).1
def wdQ (q : Nat) : Nat := if q = 2 then 2 else 3
def moQ (q : Nat) : Nat := if q = 1 then 40 else if q = 2 then 8 else 16
def rowP (q : Nat) (a0 a1 a2 b0 b1 b2 : Int32) : Prop :=
  (q = 1 → a0 = b0 ∧ a1 = b1 ∧ a2 = b2 ∧ rng b0 0 4 ∧ rng b1 (-1) 7 ∧ rng b2 (-1) 7 ∧ (b0 = 0 → rng b1 0 3)) ∧
  (q = 2 → a0 = b0 ∧ a1 = b1 ∧ rng b0 0 2 ∧ rng b1 0 9) ∧
  (q = 3 → a0 = b0 ∧ rng b0 0 2 ∧ rng b1 0 7 ∧ (b0 = 0 → a1 = b2 ∧ a2 = b1 ∧ rng b2 0 3) ∧ (¬ b0 = 0 → a1 = b1 ∧ a2 = -1 ∧ b2 = -1))
def fiK (ln : LiN) : Int32 := if 0 < arK ln.1 then ln.2.2.1 0 else -1
def seK (ln : LiN) : Int32 := if 1 < arK ln.1 then ln.2.2.1 1 else -1
theorem ok_r {k i : Nat} {n0 n : Int32} (h : okN k i n0 n = true) {a b : Int} (h1 : (loK k).toInt = a) (h2 : (tpK k i).toInt = b) : rng n a b := by
  have := ok_rng h
  rw [h1, h2] at this; exact this
theorem rm1 : rng (-1 : Int32) (-1) 7 := ⟨by decide, by decide⟩
theorem row_ok {q : Nat} (h1 : 1 ≤ q) (hq : q < 4) {ln : LiN} (k1 : wLo q ≤ ln.1) (k2 : ln.1 < wHi q) (hg : gdL ln = true) : rowP q (nI (ln.1 - wLo q)) (fiK ln) (seK ln) (rwK ln.1 ln.2.2.1 0) (rwK ln.1 ln.2.2.1 1) (rwK ln.1 ln.2.2.1 2) := by
  obtain ⟨k, pl, nums, npl⟩ := ln
  replace k1 : wLo q ≤ k := k1
  replace k2 : k < wHi q := k2
  have hgo := gd_ok (ln := (k, pl, nums, npl)) (arK k) hg
  replace hgo : ∀ i, i < arK k → okN k i (nums 0) (nums i) = true := hgo
  show rowP q (nI (k - wLo q)) (if 0 < arK k then nums 0 else -1) (if 1 < arK k then nums 1 else -1) (rwK k nums 0) (rwK k nums 1) (rwK k nums 2)
  have hq3 : q = 1 ∨ q = 2 ∨ q = 3 := by omega
  rcases hq3 with rfl | rfl | rfl
  · replace k1 : 9 ≤ k := k1
    replace k2 : k < 14 := k2
    refine ⟨fun _ => ?_, fun e => absurd e (by decide), fun e => absurd e (by decide)⟩
    have hk : k = 9 ∨ k = 10 ∨ k = 11 ∨ k = 12 ∨ k = 13 := by omega
    rcases hk with rfl | rfl | rfl | rfl | rfl
    · have r0 := ok_r (hgo 0 (by decide)) (a := 0) (b := 3) (by decide +kernel) (by decide +kernel)
      have r1 := ok_r (hgo 1 (by decide)) (a := 0) (b := 7) (by decide +kernel) (by decide +kernel)
      exact ⟨rfl, rfl, rfl, nI_rng (n := 0) (m := 4) (by omega) (by omega), ⟨Int.le_trans (by omega) r0.1, Int.le_trans r0.2 (by omega)⟩, ⟨Int.le_trans (by omega) r1.1, r1.2⟩, fun _ => r0⟩
    · have r0 := ok_r (hgo 0 (by decide)) (a := 0) (b := 3) (by decide +kernel) (by decide +kernel)
      exact ⟨rfl, rfl, rfl, nI_rng (n := 1) (m := 4) (by omega) (by omega), ⟨Int.le_trans (by omega) r0.1, Int.le_trans r0.2 (by omega)⟩, rm1, fun _ => r0⟩
    · have r0 := ok_r (hgo 0 (by decide)) (a := 0) (b := 3) (by decide +kernel) (by decide +kernel)
      exact ⟨rfl, rfl, rfl, nI_rng (n := 2) (m := 4) (by omega) (by omega), ⟨Int.le_trans (by omega) r0.1, Int.le_trans r0.2 (by omega)⟩, rm1, fun _ => r0⟩
    · have r0 := ok_r (hgo 0 (by decide)) (a := 0) (b := 7) (by decide +kernel) (by decide +kernel)
      exact ⟨rfl, rfl, rfl, nI_rng (n := 3) (m := 4) (by omega) (by omega), ⟨Int.le_trans (by omega) r0.1, r0.2⟩, rm1, fun e => absurd e (show ¬ rwK 12 nums 0 = 0 from show ¬ nI 3 = 0 by decide)⟩
    · exact ⟨rfl, rfl, rfl, nI_rng (n := 4) (m := 4) (by omega) (by omega), rm1, rm1, fun e => absurd e (show ¬ rwK 13 nums 0 = 0 from show ¬ nI 4 = 0 by decide)⟩
  · replace k1 : 14 ≤ k := k1
    replace k2 : k < 17 := k2
    refine ⟨fun e => absurd e (by decide), fun _ => ?_, fun e => absurd e (by decide)⟩
    have hk : k = 14 ∨ k = 15 ∨ k = 16 := by omega
    rcases hk with rfl | rfl | rfl
    · exact ⟨rfl, rfl, nI_rng (n := 0) (m := 2) (by omega) (by omega), ok_r (hgo 0 (by decide)) (a := 0) (b := 9) (by decide +kernel) (by decide +kernel)⟩
    · exact ⟨rfl, rfl, nI_rng (n := 1) (m := 2) (by omega) (by omega), ok_r (hgo 0 (by decide)) (a := 0) (b := 9) (by decide +kernel) (by decide +kernel)⟩
    · exact ⟨rfl, rfl, nI_rng (n := 2) (m := 2) (by omega) (by omega), ok_r (hgo 0 (by decide)) (a := 0) (b := 9) (by decide +kernel) (by decide +kernel)⟩
  · replace k1 : 17 ≤ k := k1
    replace k2 : k < 20 := k2
    refine ⟨fun e => absurd e (by decide), fun e => absurd e (by decide), fun _ => ?_⟩
    have hk : k = 17 ∨ k = 18 ∨ k = 19 := by omega
    rcases hk with rfl | rfl | rfl
    · have r0 := ok_r (hgo 0 (by decide)) (a := 0) (b := 3) (by decide +kernel) (by decide +kernel)
      have r1 := ok_r (hgo 1 (by decide)) (a := 0) (b := 7) (by decide +kernel) (by decide +kernel)
      exact ⟨rfl, nI_rng (n := 0) (m := 2) (by omega) (by omega), r1, fun _ => ⟨rfl, rfl, r0⟩, fun e => absurd (show rwK 17 nums 0 = 0 from rfl) e⟩
    · have r0 := ok_r (hgo 0 (by decide)) (a := 0) (b := 7) (by decide +kernel) (by decide +kernel)
      exact ⟨rfl, nI_rng (n := 1) (m := 2) (by omega) (by omega), r0, fun e => absurd e (show ¬ nI 1 = 0 by decide), fun _ => ⟨rfl, rfl, rfl⟩⟩
    · have r0 := ok_r (hgo 0 (by decide)) (a := 0) (b := 7) (by decide +kernel) (by decide +kernel)
      exact ⟨rfl, nI_rng (n := 2) (m := 2) (by omega) (by omega), r0, fun e => absurd e (show ¬ nI 2 = 0 by decide), fun _ => ⟨rfl, rfl, rfl⟩⟩
/-- Rows against what is told -/
def RRr (q c : Nat) (Y : SV) (told : Nat → Int32) : Prop := Y.1 3 = nI c ∧ told 0 = nI c ∧ c ≤ moQ q ∧ ∀ k, k < c → rowP q (Y.2.1 0 k) (Y.2.1 1 k) (Y.2.1 2 k) (told (1 + wdQ q * k)) (told (2 + wdQ q * k)) (told (3 + wdQ q * k))
theorem rowP.c {q : Nat} {a0 a1 a2 b0 b1 b2 b2' : Int32} (h : rowP q a0 a1 a2 b0 b1 b2) (h2 : q ≠ 2 → b2' = b2) : rowP q a0 a1 a2 b0 b1 b2' := by
  obtain ⟨h1, h3, h4⟩ := h
  refine ⟨fun e => ?_, h3, fun e => ?_⟩
  · rw [h2 (by omega)]; exact h1 e
  · rw [h2 (by omega)]; exact h4 e
theorem tb_row {q : Nat} (h1 : 1 ≤ q) (hq : q < 4) {ln : LiN} (k1 : wLo q ≤ ln.1) (k2 : ln.1 < wHi q) (told : Nat → Int32) : tbL told ln = krT told (wdQ q) (moQ q) (rwK ln.1 ln.2.2.1) ∧ cnK ln.1 = 0 ∧ moK ln.1 = moQ q ∧ ctK ln.1 = true := by
  have hq3 : q = 1 ∨ q = 2 ∨ q = 3 := by omega
  have h9 : 9 ≤ ln.1 := by
    rcases hq3 with rfl | rfl | rfl
    · exact k1
    · exact Nat.le_trans (by decide) k1
    · exact Nat.le_trans (by decide) k1
  have e0 : cnK ln.1 = 0 := by unfold cnK; rw [if_neg (by omega), if_neg (by omega), if_neg (by omega), if_neg (by omega)]
  have ec : ctK ln.1 = true := by unfold ctK; rw [decide_eq_true (show 9 ≤ ln.1 by omega)]; simp
  have et : tbL told ln = if ln.1 < 14 then krT told 3 40 (rwK ln.1 ln.2.2.1) else if ln.1 < 17 then krT told 2 8 (rwK ln.1 ln.2.2.1) else krT told 3 16 (rwK ln.1 ln.2.2.1) := by
    unfold tbL
    rw [if_neg (by omega), if_neg (by omega), if_neg (by omega), if_neg (by omega), if_neg (by omega), if_neg (by omega)]
  have em : moK ln.1 = if ln.1 < 14 then 40 else if ln.1 < 17 then 8 else 16 := by
    unfold moK; rw [if_neg (by omega), if_neg (by omega), if_neg (by omega)]
  rcases hq3 with rfl | rfl | rfl
  · replace k2 : ln.1 < 14 := k2
    exact ⟨by rw [et, if_pos k2]; rfl, e0, by rw [em, if_pos k2]; rfl, ec⟩
  · replace k1 : 14 ≤ ln.1 := k1
    replace k2 : ln.1 < 17 := k2
    exact ⟨by rw [et, if_neg (by omega), if_pos k2]; rfl, e0, by rw [em, if_neg (by omega), if_pos k2]; rfl, ec⟩
  · replace k1 : 17 ≤ ln.1 := k1
    exact ⟨by rw [et, if_neg (by omega), if_neg (by omega)]; rfl, e0, by rw [em, if_neg (by omega), if_neg (by omega)]; rfl, ec⟩
theorem krS_at {told row : Nat → Int32} {wd c : Nat} : ∀ n j, krS told wd c row n j = if 1 + wd * c ≤ j ∧ j < 1 + wd * c + n then row (j - (1 + wd * c)) else told j
  | 0, j => by
    rw [if_neg (by omega)]; rfl
  | n + 1, j => by
    show upd (krS told wd c row n) (1 + wd * c + n) (row n) j = _
    by_cases e : j = 1 + wd * c + n
    · subst e; rw [pk_us, if_pos (by omega)]; congr 1; omega
    · rw [pk_un e, krS_at n j]
      by_cases g : 1 + wd * c ≤ j ∧ j < 1 + wd * c + n
      · rw [if_pos g, if_pos (by omega)]
      · rw [if_neg g, if_neg (by omega)]
theorem add_both {q : Nat} (h1 : 1 ≤ q) (hq : q < 4) {ln : LiN} (k1 : wLo q ≤ ln.1) (k2 : ln.1 < wHi q) (hg : gdL ln = true) {c : Nat} {Y : SV} {told : Nat → Int32} (h : RRr q c Y told) (hroom : ¬ told (cnK ln.1) = nI (moK ln.1)) : ∃ Y', gX5_add (moQ q) (nI (ln.1 - wLo q)) (fiK ln) (seK ln) Y = some Y' ∧ RRr q (c + 1) Y' (tbL told ln) := by
  obtain ⟨r1, r2, r3, r4⟩ := h
  obtain ⟨t1, t2, t3, -⟩ := tb_row h1 hq k1 k2 told
  have hm40 : moQ q ≤ 40 := by unfold moQ; repeat' split
                               all_goals omega
  have hwd : wdQ q = 2 ∨ wdQ q = 3 := by unfold wdQ; split <;> omega
  rw [t2, t3, r2] at hroom
  have hlt : c < moQ q := by
    refine Classical.byContradiction (fun g => hroom ?_)
    rw [show c = moQ q by omega]
  refine ⟨wI (wR (wR (wR Y 0 (upd (Y.2.1 0) c (nI (ln.1 - wLo q)))) 1 (upd (Y.2.1 1) c (fiK ln))) 2 (upd (Y.2.1 2) c (seK ln))) 3 (nI (c + 1)), ?_, ?_, ?_, by omega, fun k hk => ?_⟩
  · unfold gX5_add
    rw [r1, if_neg (nI_pos (by omega)), if_neg (show ¬ Int32.ofNat (moQ q) ≤ nI c from nI_ge hlt (by omega)), wA_nI hlt (by omega)]
    simp only [Option.bind_some]
    rw [show (wR Y 0 (upd (Y.2.1 0) c (nI (ln.1 - wLo q)))).1 3 = nI c from r1, wA_nI hlt (by omega), wR_ne (by decide)]
    simp only [Option.bind_some]
    rw [show (wR (wR Y 0 (upd (Y.2.1 0) c (nI (ln.1 - wLo q)))) 1 (upd (Y.2.1 1) c (fiK ln))).1 3 = nI c from r1, wA_nI hlt (by omega), wR_ne (by decide), wR_ne (by decide)]
    simp only [Option.bind_some]
    rw [nmE, show (wR (wR (wR Y 0 (upd (Y.2.1 0) c (nI (ln.1 - wLo q)))) 1 (upd (Y.2.1 1) c (fiK ln))) 2 (upd (Y.2.1 2) c (seK ln))).1 3 = nI c from r1, ← nI_succ]
  · rw [wI_eq]
  · rw [t1]; unfold krT
    rw [r2, if_neg hroom, pk_us, ← nI_succ]
  · have etold : ∀ j, 1 ≤ j → tbL told ln j = if 1 + wdQ q * c ≤ j ∧ j < 1 + wdQ q * c + wdQ q then rwK ln.1 ln.2.2.1 (j - (1 + wdQ q * c)) else told j := by
      intro j hj
      rw [t1]; unfold krT
      rw [r2, if_neg hroom, pk_un (by omega), nI_clamp (by omega), krS_at]
    show rowP q (upd (Y.2.1 0) c _ k) (upd (Y.2.1 1) c _ k) (upd (Y.2.1 2) c _ k) _ _ _
    rw [etold _ (by omega), etold _ (by omega), etold _ (by omega)]
    by_cases e : k = c
    · subst e
      rw [pk_us, pk_us, pk_us]
      have hrow := row_ok h1 hq k1 k2 hg
      rw [if_pos (by omega), if_pos (by omega), show 1 + wdQ q * k - (1 + wdQ q * k) = 0 by omega, show 2 + wdQ q * k - (1 + wdQ q * k) = 1 by omega]
      refine hrow.c (fun h2 => ?_)
      have h3 : wdQ q = 3 := by unfold wdQ; rw [if_neg h2]
      rw [if_pos (by omega), show 3 + wdQ q * k - (1 + wdQ q * k) = 2 by omega]
    · rw [pk_un e, pk_un e, pk_un e]
      have hmul : wdQ q * k + wdQ q ≤ wdQ q * c := by rw [← Nat.mul_succ]; exact Nat.mul_le_mul_left _ (by omega)
      rw [if_neg (by omega), if_neg (by omega)]
      refine (r4 k (by omega)).c (fun h2 => ?_)
      have h3 : wdQ q = 3 := by unfold wdQ; rw [if_neg h2]
      rw [if_neg (by omega)]
theorem rr_of {q : Nat} (h1 : 1 ≤ q) (hq : q < 4) {c : Nat} {Y : SV} {told : Nat → Int32} (h : RRr q c Y told) {B : Nat → Int32} (hB : ∀ j, j < wdt q → B j = told j) : RR q Y (moQ q) B := by
  obtain ⟨r1, r2, r3, r4⟩ := h
  have hq3 : q = 1 ∨ q = 2 ∨ q = 3 := by omega
  have hm40 : moQ q ≤ 40 := by unfold moQ; repeat' split
                               all_goals omega
  have hw : 1 ≤ wdt q := by rcases hq3 with rfl | rfl | rfl <;> decide
  have b0 : B 0 = nI c := by rw [hB 0 (by omega), r2]
  have ti : (B 0).toInt = c := by rw [b0, nI_toInt (by omega)]
  refine ⟨by rw [r1, b0], by rw [ti]; omega, by rw [ti]; omega, fun e => ?_, fun e => ?_, fun e => ?_⟩
  · subst e
    refine ⟨rfl, fun k hk => ?_⟩
    rw [ti] at hk
    replace r3 : c ≤ 40 := r3
    have hd : wdt 1 = 121 := rfl
    rw [hB (1 + 3 * k) (by omega), hB (2 + 3 * k) (by omega), hB (3 + 3 * k) (by omega)]
    exact (r4 k (by omega)).1 rfl
  · subst e
    refine ⟨rfl, fun k hk => ?_⟩
    rw [ti] at hk
    replace r3 : c ≤ 8 := r3
    have hd : wdt 2 = 17 := rfl
    rw [hB (1 + 2 * k) (by omega), hB (2 + 2 * k) (by omega)]
    exact (r4 k (by omega)).2.1 rfl
  · subst e
    refine ⟨rfl, fun k hk => ?_⟩
    rw [ti] at hk
    replace r3 : c ≤ 16 := r3
    have hd : wdt 3 = 49 := rfl
    rw [hB (1 + 3 * k) (by omega), hB (2 + 3 * k) (by omega), hB (3 + 3 * k) (by omega)]
    exact (r4 k (by omega)).2.2 rfl
