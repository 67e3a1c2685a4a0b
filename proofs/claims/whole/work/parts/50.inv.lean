/-! ===== the invariant between class and reference ===== -/
/-- where the Told of a slot lies: 0 what is told now, 1 .. 3 the images -/
def tAd (s : Nat) : Nat := if s = 0 then 16 else 17 + 5 * s
/-- a block of the reference: row k, width w, slot s, text i -/
def blk (M : SV) (k w s i : Nat) : Nat → Int32 := fun j => if j < w then M.2.1 k (2 * w * s + w * i + j) else 0
/-- a Country's view shows a block -/
def CR (C : SV) (B : Nat → Int32) : Prop :=
  (C.1 0 = B 0 ∧ C.1 7 = B 1 ∧ C.1 10 = B 2 ∧ C.1 11 = B 3 ∧ C.1 14 = B 4 ∧ C.1 19 = B 5) ∧
  (∀ t, t < 8 → C.2.1 1 t = B (6 + t) ∧ C.2.1 2 t = B (14 + t) ∧ C.2.1 3 t = B (22 + t) ∧ C.2.1 4 t = B (30 + t)) ∧
  (∀ t, t < 4 → C.2.1 12 t = B (38 + t) ∧ C.2.1 13 t = B (42 + t) ∧ C.2.1 15 t = B (46 + t) ∧ C.2.1 16 t = B (50 + t)) ∧
  (∀ t, t < 12 → C.2.1 8 t = B (54 + t) ∧ C.2.1 9 t = B (66 + t)) ∧
  (∀ t, t < 16 → C.2.1 17 t = B (78 + t) ∧ C.2.1 18 t = B (94 + t))
/-- within bounds -/
def rng (x : Int32) (lo hi : Int) : Prop := lo ≤ x.toInt ∧ x.toInt ≤ hi
/-- what a told COUNTRY's block keeps to -/
def VB (B : Nat → Int32) : Prop :=
  (rng (B 0) 0 8 ∧ rng (B 1) 0 12 ∧ rng (B 2) 0 4 ∧ rng (B 3) 0 4 ∧ rng (B 4) 0 4 ∧ rng (B 5) 0 9) ∧
  (∀ t, t < 8 → rng (B (6 + t)) 0 99 ∧ rng (B (14 + t)) 0 9 ∧ rng (B (22 + t)) 0 9 ∧ rng (B (30 + t)) (-1) ((B 0).toInt - 1)) ∧
  (∀ t, t < 4 → rng (B (38 + t)) 0 9 ∧ rng (B (42 + t)) 0 9) ∧
  (∀ t : Nat, (t : Int) < (B 4).toInt → rng (B (46 + t)) 0 ((B 2).toInt - 1) ∧ rng (B (50 + t)) 0 ((B 3).toInt - 1)) ∧
  (∀ t : Nat, (t : Int) < (B 1).toInt → rng (B (54 + t)) 0 ((B 0).toInt - 1) ∧ rng (B (66 + t)) 0 ((B 0).toInt - 1)) ∧
  (∀ t, t < 16 → rng (B (78 + t)) 0 9 ∧ rng (B (94 + t)) 0 9)
/-- down from a THING, k steps -/
def dn (B : Nat → Int32) : Nat → Int32 → Int32
  | 0, t => t
  | k + 1, t => if t = -1 then -1 else dn B k (B (30 + t.toNatClampNeg))
/-- no ring, no eye in two couples -/
def NR (B : Nat → Int32) : Prop := (∀ t : Nat, (t : Int) < (B 0).toInt → dn B 8 (nI t) = -1) ∧ ∀ i j : Nat, i < j → (j : Int) < (B 4).toInt → B (46 + i) ≠ B (46 + j) ∧ B (50 + i) ≠ B (50 + j)
/-- is k above on t: t is reached going down from k, one step at least -/
def isAb (B : Nat → Int32) (t k : Nat) : Prop := ∃ n, n < 8 ∧ dn B (n + 1) (nI k) = nI t
def isNr (B : Nat → Int32) (t k : Nat) : Prop := ∃ p : Nat, (p : Int) < (B 1).toInt ∧ ((B (54 + p) = nI t ∧ B (66 + p) = nI k) ∨ (B (54 + p) = nI k ∧ B (66 + p) = nI t))
/-- what a Country's view holds beside the block -/
def CD (C : SV) (B : Nat → Int32) : Prop := ∀ t, t < 8 → (∀ k, k < 32 → (bt (C.2.1 5 t) k = true ↔ (k : Int) < (B 0).toInt ∧ isAb B t k)) ∧ (∀ k, k < 32 → (bt (C.2.1 6 t) k = true ↔ k < 8 ∧ isNr B t k))
/-- Rows of a YEAR, of SIGHTS, of QUARRELS -/
def RR (sort : Nat) (Y : SV) (m : Nat) (B : Nat → Int32) : Prop :=
  Y.1 3 = B 0 ∧ 0 ≤ (B 0).toInt ∧ (B 0).toInt ≤ (m : Int) ∧
  (sort = 1 → m = 40 ∧ ∀ k : Nat, (k : Int) < (B 0).toInt → Y.2.1 0 k = B (1 + 3 * k) ∧ Y.2.1 1 k = B (2 + 3 * k) ∧ Y.2.1 2 k = B (3 + 3 * k) ∧ rng (B (1 + 3 * k)) 0 4 ∧ rng (B (2 + 3 * k)) (-1) 7 ∧ rng (B (3 + 3 * k)) (-1) 7 ∧ (B (1 + 3 * k) = 0 → rng (B (2 + 3 * k)) 0 3)) ∧
  (sort = 2 → m = 8 ∧ ∀ k : Nat, (k : Int) < (B 0).toInt → Y.2.1 0 k = B (1 + 2 * k) ∧ Y.2.1 1 k = B (2 + 2 * k) ∧ rng (B (1 + 2 * k)) 0 2 ∧ rng (B (2 + 2 * k)) 0 9) ∧
  (sort = 3 → m = 16 ∧ ∀ k : Nat, (k : Int) < (B 0).toInt → Y.2.1 0 k = B (1 + 3 * k) ∧ rng (B (1 + 3 * k)) 0 2 ∧ rng (B (2 + 3 * k)) 0 7 ∧ (B (1 + 3 * k) = 0 → Y.2.1 1 k = B (3 + 3 * k) ∧ Y.2.1 2 k = B (2 + 3 * k) ∧ rng (B (3 + 3 * k)) 0 3) ∧ (¬ B (1 + 3 * k) = 0 → Y.2.1 1 k = B (2 + 3 * k) ∧ Y.2.1 2 k = -1 ∧ B (3 + 3 * k) = -1))
def wdt (sort : Nat) : Nat := match sort with
  | 0 => 110
  | 1 => 121
  | 2 => 17
  | _ => 49
/-- no reference, or one to an object of class t -/
def rfOk (t : Nat) (z : AH) (r : Option Nat) : Prop := ∀ c, r = some c → 113 ≤ c ∧ ∃ fs, z[c]? = some (.inr (.inr (t, fs)))
/-- what is told now, or an image that is taken: the place of an image that isn't taken says nothing -/
def tkn (M : SV) (s : Nat) : Prop := s = 0 ∨ ¬ M.2.1 55 (s - 1) = 0
/-- a Told's view shows a slot of the reference -/
def TR (s : Nat) (S : SV) (ρ : RV) (M : SV) (z : AH) : Prop :=
  (∀ k, k < 600 → S.2.1 0 k = M.2.1 1 (600 * s + k) ∧ fits .byte (.int (S.2.1 0 k)) = true) ∧
  (S.1 1 = M.2.1 2 s ∧ rng (S.1 1) 0 600 ∧ S.1 2 = M.2.1 3 s ∧ (tkn M s → S.1 3 = M.2.1 4 s)) ∧
  (∀ k, k < 4 → S.2.1 4 k = M.2.1 5 (4 * s + k) ∧ rng (S.2.1 4 k) 0 2) ∧
  (∀ i : Nat, (i : Int) < (S.2.1 4 0).toInt → ∃ (c : Nat) (ρc : RV) (C : SV), ρ.2.1 5 i = some c ∧ 113 ≤ c ∧ RD 0 c ρc C z ∧ CR C (blk M 6 110 s i) ∧ VB (blk M 6 110 s i) ∧ NR (blk M 6 110 s i) ∧ CD C (blk M 6 110 s i)) ∧
  (∀ q, 1 ≤ q → q < 4 → ∀ i : Nat, (i : Int) < (S.2.1 4 q).toInt → ∃ (b : Nat) (ρb : RV) (Y : SV), ρ.2.1 6 (2 * q + i) = some b ∧ 113 ≤ b ∧ RD 4 b ρb Y z ∧ RR q Y ρb.2.2 (blk M (6 + q) (wdt q) s i)) ∧
  (∀ i, i < 2 → rfOk 0 z (ρ.2.1 5 i)) ∧ (∀ i, i < 8 → rfOk 4 z (ρ.2.1 6 i))
/-- what isn't told: scratch objects, with any contents -/
def SK (z : AH) : Prop :=
  z[0]? = some (.inr (.inr (8, [.ref 16, .ref 21, .ref 37, .ref 38, .ref 44, .ref 49, .ref 83, .ref 87]))) ∧
  (∃ f : Nat → Option Nat, z[21]? = some (.inr (.inl (6, 3, f))) ∧ f 0 = some 22 ∧ f 1 = some 27 ∧ f 2 = some 32) ∧
  (∃ ρ S, RD 3 38 ρ S z) ∧ (∃ ρ S, RD 5 44 ρ S z) ∧ (∃ ρ S, RD 1 83 ρ S z) ∧ (∃ ρ S, RD 2 87 ρ S z)
/-- the images that are taken -/
def TK (M : SV) (z : AH) : Prop := ∃ f : Nat → Int32, z[37]? = some (.inl (2, 3, f)) ∧ ∀ k, k < 3 → f k = M.2.1 55 k ∧ (f k = 0 ∨ f k = 1)
/-- the tables of Watchers; what they keep of a Country is right (to be said with the search) -/
def WK (Wc : SV → (Nat → Int32) → Int32 → Int32 → Int32 → Prop) (z : AH) : Prop :=
  ∃ (sq : Option Nat) (x y w : Int32) (best : Nat → Int32), z[49]? = some (.inr (.inr (7, [.ref 50, .ref 76, .ref 81, .ref 82, va_rf sq, .int x, .int y, .int w]))) ∧
  (∃ f : Nat → Option Nat, z[50]? = some (.inr (.inl (5, 5, f))) ∧ ∀ k, k < 5 → f k = some (51 + 5 * k)) ∧
  (∀ k, k < 6 → ∃ ρ S, RD 5 (51 + 5 * k) ρ S z) ∧ (∃ f, z[81]? = some (.inl (0, 4, f))) ∧ z[82]? = some (.inl (0, 4, best)) ∧
  (∀ c, sq = some c → 113 ≤ c ∧ ∃ ρc C, RD 0 c ρc C z ∧ Wc C best x y w)
def InvM (Wc : SV → (Nat → Int32) → Int32 → Int32 → Int32 → Prop) (z : AH) (M : SV) (ρM : RV) : Prop :=
  113 ≤ z.length ∧ RD 9 89 ρM M z ∧ (∀ s, s < 4 → ∃ S ρ, RD 6 (tAd s) ρ S z ∧ TR s S ρ M z) ∧ SK z ∧ TK M z ∧ WK Wc z
def Inv (Wc : SV → (Nat → Int32) → Int32 → Int32 → Int32 → Prop) (z : AH) : Prop := ∃ M ρM, InvM Wc z M ρM
/-! moving the invariant -/
theorem RD.same {c a : Nat} {ρ : RV} {S : SV} {z z' : AH} (h : RD c a ρ S z) (hs : ∀ i, a ≤ i → i < a + szV c → z'[i]? = z[i]?) : RD c a ρ S z' := by
  refine ⟨?_, fun d k hk h0 => ?_⟩
  · rw [hs a (Nat.le_refl _) (by unfold szV; omega)]; exact h.1
  · rw [hs (a + d) (by omega) (by have := rk_lt hk h0; omega)]; exact h.2 d k hk h0
theorem wr_id {c a : Nat} {ρ : RV} {S : SV} {z : AH} (h : RD c a ρ S z) : wr c a ρ S z = z := by
  apply List.ext_getElem?
  intro i
  by_cases h1 : i = a
  · subst h1
    have hl : i < z.length := (List.getElem?_eq_some_iff.mp h.1).1
    rw [h.1]
    simp [wr, List.getElem?_mapIdx, hl]
  · simp only [wr, List.getElem?_mapIdx, h1, if_false]
    by_cases h2 : a < i
    · cases hk : rk c (i - a) with
      | none => simp [h2]
      | some k =>
        have h3 := h.2 (i - a) k hk (by omega)
        rw [show a + (i - a) = i by omega] at h3
        simp [h2, h3]
    · simp [h2]
theorem TR.same {s : Nat} {S : SV} {ρ : RV} {M M' : SV} {z z' : AH} (h : TR s S ρ M z) (hp : PE M M') (hs : ∀ i, 113 ≤ i → z'[i]? = z[i]?) : TR s S ρ M' z' := by
  obtain ⟨h1, ⟨h2, h3, h4, h5⟩, h6, h7, h8, h9, h10⟩ := h
  have ho : ∀ {t : Nat} {r : Option Nat}, rfOk t z r → rfOk t z' r := fun h c hc => by obtain ⟨g1, fs, g2⟩ := h c hc; exact ⟨g1, fs, by rw [hs c g1]; exact g2⟩
  have e : ∀ k, isP k = true → M'.2.1 k = M.2.1 k := hp
  refine ⟨fun k hk => ?_, ⟨?_, h3, ?_, ?_⟩, fun k hk => ?_, fun i hi => ?_, fun q q1 q2 i hi => ?_, fun i hi => ho (h9 i hi), fun i hi => ho (h10 i hi)⟩
  · rw [e 1 rfl]; exact h1 k hk
  · rw [e 2 rfl]; exact h2
  · rw [e 3 rfl]; exact h4
  · rw [e 4 rfl]; exact fun ht => h5 (by unfold tkn at *; rw [← e 55 rfl]; exact ht)
  · rw [e 5 rfl]; exact h6 k hk
  · obtain ⟨c, ρc, C, g1, g2, g3, g4⟩ := h7 i hi
    have eb : blk M' 6 110 s i = blk M 6 110 s i := by funext j; unfold blk; rw [e 6 rfl]
    exact ⟨c, ρc, C, g1, g2, g3.same (fun j hj _ => hs j (by omega)), by rw [eb]; exact g4⟩
  · obtain ⟨b, ρb, Y, g1, g2, g3, g4⟩ := h8 q q1 q2 i hi
    have hq : isP (6 + q) = true := by
      have : q = 1 ∨ q = 2 ∨ q = 3 := by omega
      rcases this with rfl | rfl | rfl <;> rfl
    have eb : blk M' (6 + q) (wdt q) s i = blk M (6 + q) (wdt q) s i := by funext j; unfold blk; rw [e (6 + q) hq]
    exact ⟨b, ρb, Y, g1, g2, g3.same (fun j hj _ => hs j (by omega)), by rw [eb]; exact g4⟩
theorem s1 : szV 1 = 4 := rfl
theorem s2 : szV 2 = 2 := rfl
theorem s3 : szV 3 = 6 := rfl
theorem s5 : szV 5 = 5 := rfl
theorem s6 : szV 6 = 5 := rfl
theorem s9 : szV 9 = 24 := rfl
/-- the scratch objects, and the reference -/
def scr (c a : Nat) : Prop := (c = 3 ∧ a = 38) ∨ (c = 5 ∧ a = 44) ∨ (c = 1 ∧ a = 83) ∨ (c = 2 ∧ a = 87) ∨ (c = 9 ∧ a = 89)
theorem scr_sz {c a : Nat} (h : scr c a) : 38 ≤ a ∧ a + szV c ≤ 113 ∧ (a + szV c ≤ 49 ∨ 83 ≤ a) := by
  rcases h with ⟨rfl, rfl⟩ | ⟨rfl, rfl⟩ | ⟨rfl, rfl⟩ | ⟨rfl, rfl⟩ | ⟨rfl, rfl⟩ <;> simp [s1, s2, s3, s5, s9]
theorem SK.wr {c a : Nat} {ρ : RV} {S : SV} {z : AH} (h : SK z) (hc : scr c a) (hz : 113 ≤ z.length) : SK (wr c a ρ S z) := by
  obtain ⟨k1, k2, k3⟩ := scr_sz hc
  obtain ⟨h1, ⟨f, h2, h3⟩, ⟨ρ1, S1, h4⟩, ⟨ρ2, S2, h5⟩, ⟨ρ3, S3, h6⟩, ⟨ρ4, S4, h7⟩⟩ := h
  have hw := rd_wr (ρ := ρ) (S := S) (show a + szV c ≤ z.length by omega)
  refine ⟨by rw [wr_out (by omega)]; exact h1, ⟨f, by rw [wr_out (by omega)]; exact h2, h3⟩, ?_, ?_, ?_, ?_⟩
  · by_cases e : a = 38
    · rcases hc with ⟨rfl, rfl⟩ | ⟨rfl, rfl⟩ | ⟨rfl, rfl⟩ | ⟨rfl, rfl⟩ | ⟨rfl, rfl⟩ <;> first | exact ⟨_, _, hw⟩ | omega
    · exact ⟨ρ1, S1, h4.far (by rcases hc with ⟨rfl, rfl⟩ | ⟨rfl, rfl⟩ | ⟨rfl, rfl⟩ | ⟨rfl, rfl⟩ | ⟨rfl, rfl⟩ <;> simp [s1, s2, s3, s5, s9] at *)⟩
  · by_cases e : a = 44
    · rcases hc with ⟨rfl, rfl⟩ | ⟨rfl, rfl⟩ | ⟨rfl, rfl⟩ | ⟨rfl, rfl⟩ | ⟨rfl, rfl⟩ <;> first | exact ⟨_, _, hw⟩ | omega
    · exact ⟨ρ2, S2, h5.far (by rcases hc with ⟨rfl, rfl⟩ | ⟨rfl, rfl⟩ | ⟨rfl, rfl⟩ | ⟨rfl, rfl⟩ | ⟨rfl, rfl⟩ <;> simp [s1, s2, s3, s5, s9] at *)⟩
  · by_cases e : a = 83
    · rcases hc with ⟨rfl, rfl⟩ | ⟨rfl, rfl⟩ | ⟨rfl, rfl⟩ | ⟨rfl, rfl⟩ | ⟨rfl, rfl⟩ <;> first | exact ⟨_, _, hw⟩ | omega
    · exact ⟨ρ3, S3, h6.far (by rcases hc with ⟨rfl, rfl⟩ | ⟨rfl, rfl⟩ | ⟨rfl, rfl⟩ | ⟨rfl, rfl⟩ | ⟨rfl, rfl⟩ <;> simp [s1, s2, s3, s5, s9] at *)⟩
  · by_cases e : a = 87
    · rcases hc with ⟨rfl, rfl⟩ | ⟨rfl, rfl⟩ | ⟨rfl, rfl⟩ | ⟨rfl, rfl⟩ | ⟨rfl, rfl⟩ <;> first | exact ⟨_, _, hw⟩ | omega
    · exact ⟨ρ4, S4, h7.far (by rcases hc with ⟨rfl, rfl⟩ | ⟨rfl, rfl⟩ | ⟨rfl, rfl⟩ | ⟨rfl, rfl⟩ | ⟨rfl, rfl⟩ <;> simp [s1, s2, s3, s5, s9] at *)⟩
theorem WK.wr {Wc : SV → (Nat → Int32) → Int32 → Int32 → Int32 → Prop} {c a : Nat} {ρ : RV} {S : SV} {z : AH} (h : WK Wc z) (hc : scr c a) : WK Wc (wr c a ρ S z) := by
  obtain ⟨k1, k2, k3⟩ := scr_sz hc
  obtain ⟨sq, x, y, w, best, h1, ⟨f, h2, h3⟩, h4, ⟨g, h5⟩, h6, h7⟩ := h
  refine ⟨sq, x, y, w, best, by rw [wr_out (by omega)]; exact h1, ⟨f, by rw [wr_out (by omega)]; exact h2, h3⟩, fun k hk => ?_, ⟨g, by rw [wr_out (by omega)]; exact h5⟩, by rw [wr_out (by omega)]; exact h6, fun c2 hc2 => ?_⟩
  · obtain ⟨ρ1, S1, h8⟩ := h4 k hk
    exact ⟨ρ1, S1, h8.far (by rw [s5]; omega)⟩
  · obtain ⟨g1, ρc, C, g2, g3⟩ := h7 c2 hc2
    exact ⟨g1, ρc, C, g2.far (by omega), g3⟩
theorem tAd_sz {s : Nat} (h : s < 4) : 16 ≤ tAd s ∧ tAd s + 5 ≤ 37 := by unfold tAd; split <;> omega
theorem InvM.model {Wc : SV → (Nat → Int32) → Int32 → Int32 → Int32 → Prop} {z : AH} {M M' : SV} {ρM : RV} (h : InvM Wc z M ρM) (hp : PE M M') : InvM Wc (wr 9 89 ρM M' z) M' ρM := by
  obtain ⟨h1, h2, h3, h4, ⟨f, h5, h6⟩, h7⟩ := h
  have hc : scr 9 89 := by unfold scr; omega
  refine ⟨by rw [wr_len]; exact h1, rd_wr (by rw [s9]; omega), fun s hs => ?_, h4.wr hc h1, ⟨f, by rw [wr_out (by omega)]; exact h5, fun k hk => ?_⟩, h7.wr hc⟩
  · obtain ⟨S, ρ, g1, g2⟩ := h3 s hs
    have := tAd_sz hs
    exact ⟨S, ρ, g1.far (by rw [s6]; omega), g2.same hp (fun i hi => wr_out (by rw [s9]; omega))⟩
  · rw [hp 55 rfl]; exact h6 k hk
theorem InvM.scratch {Wc : SV → (Nat → Int32) → Int32 → Int32 → Int32 → Prop} {z : AH} {M : SV} {ρM : RV} (h : InvM Wc z M ρM) {c a : Nat} (hc : scr c a) (h9 : c ≠ 9) (ρ : RV) (S : SV) : InvM Wc (wr c a ρ S z) M ρM := by
  obtain ⟨h1, h2, h3, h4, ⟨f, h5, h6⟩, h7⟩ := h
  obtain ⟨k1, k2, k3⟩ := scr_sz hc
  refine ⟨by rw [wr_len]; exact h1, h2.far ?_, fun s hs => ?_, h4.wr hc h1, ⟨f, by rw [wr_out (by omega)]; exact h5, h6⟩, h7.wr hc⟩
  · rcases hc with ⟨rfl, rfl⟩ | ⟨rfl, rfl⟩ | ⟨rfl, rfl⟩ | ⟨rfl, rfl⟩ | ⟨rfl, rfl⟩ <;> simp [s1, s2, s3, s5, s9] at *
  · obtain ⟨S, ρ, g1, g2⟩ := h3 s hs
    have := tAd_sz hs
    exact ⟨S, ρ, g1.far (by rw [s6]; omega), g2.same PE.rf (fun i hi => wr_out (by omega))⟩
