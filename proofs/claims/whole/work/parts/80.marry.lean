/-! ===== marriages ===== -/
/-- l would rather have r than r' -/
def pref (ll : Nat → Nat → Int32) (l r r' : Nat) : Prop := (ll l r').toInt < (ll l r).toInt ∨ ((ll l r').toInt = (ll l r).toInt ∧ r < r')
theorem pref_tot (ll : Nat → Nat → Int32) (l : Nat) {r r' : Nat} (h : r ≠ r') : pref ll l r r' ∨ pref ll l r' r := by
  unfold pref; omega
theorem pref_asym {ll : Nat → Nat → Int32} {l r r' : Nat} (h : pref ll l r r') : ¬ pref ll l r' r := by
  unfold pref at *; omega
theorem pref_irr {ll : Nat → Nat → Int32} {l r : Nat} (h : pref ll l r r) : False := by
  unfold pref at h; omega
theorem pref_tr {ll : Nat → Nat → Int32} {l a b d : Nat} (h : pref ll l a b) (h2 : pref ll l b d) : pref ll l a d := by
  unfold pref at *; omega
/-- whom l asks next -/
def FV (ll : Nat → Nat → Int32) (R : Nat) (k : Int32) (l : Nat) (x : Int32) : Prop := (x = -1 ∧ ∀ r, r < R → bt k r = true) ∨ ∃ r, r < R ∧ x = nI r ∧ bt k r = false ∧ ∀ r', r' < R → r' ≠ r → bt k r' = false → pref ll l r r'
/-- who has whom, who asked whom -/
def MC (ll rl : Nat → Nat → Int32) (L R : Nat) (W H K : Nat → Int32) : Prop :=
  (∀ r, r < R → (H r = -1 ∧ ∀ l, l < L → bt (K l) r = false) ∨ ∃ l, l < L ∧ H r = nI l ∧ bt (K l) r = true ∧ ∀ l', l' < L → l' ≠ l → bt (K l') r = true → pref rl r l l') ∧
  (∀ l, l < L → (W l = -1 ∧ ∀ r, r < R → H r ≠ nI l) ∨ ∃ r, r < R ∧ W l = nI r ∧ H r = nI l ∧ ∀ r', r' < R → H r' = nI l → r' = r) ∧
  (∀ l, l < L → ∀ r r', r < R → r' < R → bt (K l) r = true → pref ll l r' r → bt (K l) r' = true) ∧
  (∀ l, l < L → ∀ k, R ≤ k → k < 32 → bt (K l) k = false)
def CO (L R : Nat) (W K : Nat → Int32) : Prop := ∀ l, l < L → W l = -1 → ∀ r, r < R → bt (K l) r = true
/-- asked here, asked in every end -/
def LW (ll rl : Nat → Nat → Int32) (L R : Nat) (K : Nat → Int32) : Prop := ∀ W' H' K', MC ll rl L R W' H' K' → CO L R W' K' → ∀ l, l < L → ∀ r, r < R → bt (K l) r = true → bt (K' l) r = true
/-- l asks r: what comes of it -/
def AS (rl : Nat → Nat → Int32) (l r : Nat) (W H K W' H' K' : Nat → Int32) : Prop :=
  K' = upd K l (K l ||| shl 1 (nI r)) ∧
  ((H r = -1 ∧ W' = upd W l (nI r) ∧ H' = upd H r (nI l)) ∨
   (∃ o, o < 4 ∧ H r = nI o ∧ pref rl r l o ∧ W' = upd (upd W l (nI r)) o (-1) ∧ H' = upd H r (nI l)) ∨
   (∃ o, o < 4 ∧ H r = nI o ∧ ¬ pref rl r l o ∧ W' = W ∧ H' = H))
section MA
variable {ll rl : Nat → Nat → Int32} {L R : Nat} {W H K W' H' K' : Nat → Int32}
theorem as_k {l r : Nat} (h : AS rl l r W H K W' H' K') (hr : r < 32) (l' : Nat) {k : Nat} (hk : k < 32) : bt (K' l') k = (bt (K l') k || (decide (l' = l) && decide (k = r))) := by
  rw [h.1]
  by_cases e : l' = l
  · subst e
    rw [pk_us, b_or, b_1shl hr hk]; simp
  · rw [pk_un e]; simp [e]
theorem MC.ask (hL : L ≤ 4) (hR : R ≤ 4) (h : MC ll rl L R W H K) {l r : Nat} (hl : l < L) (hW : W l = -1) (hr : r < R) (hk : bt (K l) r = false) (hf : ∀ r', r' < R → r' ≠ r → bt (K l) r' = false → pref ll l r r') (ha : AS rl l r W H K W' H' K') : MC ll rl L R W' H' K' := by
  obtain ⟨m1, m2, m3, m4⟩ := h
  have kk := fun l' (k : Nat) (hk : k < 32) => as_k ha (show r < 32 by omega) l' hk
  have no : ∀ r', r' < R → H r' ≠ nI l := by
    rcases m2 l hl with ⟨-, q⟩ | ⟨r', q1, q2, -⟩
    · exact q
    · rw [hW] at q2; exact absurd q2.symm (nI_m1 (by omega))
  obtain ⟨eK, hc⟩ := ha
  -- rows of the preference and the bounds
  have g3 : ∀ l', l' < L → ∀ a b, a < R → b < R → bt (K' l') a = true → pref ll l' b a → bt (K' l') b = true := by
    intro l' hl' a b ha hb q1 q2
    rw [kk l' a (by omega)] at q1
    rw [kk l' b (by omega)]
    cases qb : bt (K l') b
    · cases qa : bt (K l') a
      · rw [qa] at q1
        simp at q1
        obtain ⟨e1, e2⟩ := q1
        subst e1 e2
        by_cases e : b = a
        · subst e; exact (pref_irr q2).elim
        · exact absurd q2 (pref_asym (hf b hb e qb))
      · rw [m3 l' hl' a b ha hb qa q2] at qb; cases qb
    · rfl
  have g4 : ∀ l', l' < L → ∀ k, R ≤ k → k < 32 → bt (K' l') k = false := by
    intro l' hl' k k1 k2
    rw [kk l' k k2, m4 l' hl' k k1 k2]
    have : ¬ k = r := by omega
    simp [this]
  -- husbands, wives
  have other : ∀ r', r' < R → r' ≠ r → ((H r' = -1 ∧ ∀ l, l < L → bt (K' l) r' = false) ∨ ∃ l, l < L ∧ H r' = nI l ∧ bt (K' l) r' = true ∧ ∀ l', l' < L → l' ≠ l → bt (K' l') r' = true → pref rl r' l l') := by
    intro r' hr' ne
    have e : ∀ l', bt (K' l') r' = bt (K l') r' := fun l' => by rw [kk l' r' (by omega)]; simp [ne]
    simp only [e]
    exact m1 r' hr'
  rcases hc with ⟨q1, q2, q3⟩ | ⟨o, ho, q1, q2, q3, q4⟩ | ⟨o, ho, q1, q2, q3, q4⟩
  · subst q2 q3
    refine ⟨fun r' hr' => ?_, fun l' hl' => ?_, g3, g4⟩
    · by_cases e : r' = r
      · subst e
        rw [pk_us]
        refine Or.inr ⟨l, hl, rfl, by rw [kk l r' (by omega)]; simp, fun l' hl' ne q => ?_⟩
        rw [kk l' r' (by omega)] at q
        rcases m1 r' hr' with ⟨-, p⟩ | ⟨a, ha', p, -⟩
        · rw [p l' hl'] at q; simp [ne] at q
        · rw [q1] at p; exact absurd p.symm (nI_m1 (by omega))
      · rw [pk_un e]; exact other r' hr' e
    · by_cases e : l' = l
      · subst e
        rw [pk_us]
        refine Or.inr ⟨r, hr, rfl, by rw [pk_us], fun r' hr' q => ?_⟩
        by_cases e2 : r' = r
        · exact e2
        · rw [pk_un e2] at q; exact absurd q (no r' hr')
      · rw [pk_un e]
        rcases m2 l' hl' with ⟨p1, p2⟩ | ⟨a, p1, p2, p3, p4⟩
        · refine Or.inl ⟨p1, fun r' hr' => ?_⟩
          by_cases e2 : r' = r
          · subst e2; rw [pk_us]; exact fun q => e ((nI_eq (by omega) (by omega)).mp q).symm
          · rw [pk_un e2]; exact p2 r' hr'
        · have ne : a ≠ r := fun q => by rw [q, q1] at p3; exact absurd p3.symm (nI_m1 (by omega))
          refine Or.inr ⟨a, p1, p2, by rw [pk_un ne]; exact p3, fun r' hr' q => ?_⟩
          by_cases e2 : r' = r
          · subst e2; rw [pk_us] at q; exact absurd ((nI_eq (by omega) (by omega)).mp q).symm e
          · rw [pk_un e2] at q; exact p4 r' hr' q
  · subst q3 q4
    -- the old one
    obtain ⟨o2, ho2, eo, ko, po⟩ : ∃ o2, o2 < L ∧ H r = nI o2 ∧ bt (K o2) r = true ∧ ∀ l', l' < L → l' ≠ o2 → bt (K l') r = true → pref rl r o2 l' := by
      rcases m1 r hr with ⟨p, -⟩ | p
      · rw [q1] at p; exact absurd p (nI_m1 (by omega))
      · exact p
    have e1 : o = o2 := (nI_eq (by omega) (by omega)).mp (q1.symm.trans eo)
    subst e1
    have lo : l ≠ o := fun q => by rw [q] at no; exact no r hr q1
    refine ⟨fun r' hr' => ?_, fun l' hl' => ?_, g3, g4⟩
    · by_cases e : r' = r
      · subst e
        rw [pk_us]
        refine Or.inr ⟨l, hl, rfl, by rw [kk l r' (by omega)]; simp, fun l' hl' ne q => ?_⟩
        rw [kk l' r' (by omega)] at q
        simp [ne] at q
        by_cases e3 : l' = o
        · rw [e3]; exact q2
        · exact pref_tr q2 (po l' hl' e3 q)
      · rw [pk_un e]; exact other r' hr' e
    · by_cases e : l' = o
      · subst e
        rw [pk_us]
        refine Or.inl ⟨rfl, fun r' hr' => ?_⟩
        by_cases e2 : r' = r
        · subst e2; rw [pk_us]; exact fun q => lo ((nI_eq (by omega) (by omega)).mp q)
        · rw [pk_un e2]
          intro q
          rcases m2 l' hl' with ⟨-, p2⟩ | ⟨a, p1, p2, p3, p4⟩
          · exact p2 r' hr' q
          · exact e2 ((p4 r' hr' q).trans (p4 r hr q1).symm)
      · rw [pk_un e]
        by_cases e3 : l' = l
        · subst e3
          rw [pk_us]
          refine Or.inr ⟨r, hr, rfl, by rw [pk_us], fun r' hr' q => ?_⟩
          by_cases e2 : r' = r
          · exact e2
          · rw [pk_un e2] at q; exact absurd q (no r' hr')
        · rw [pk_un e3]
          rcases m2 l' hl' with ⟨p1, p2⟩ | ⟨a, p1, p2, p3, p4⟩
          · refine Or.inl ⟨p1, fun r' hr' => ?_⟩
            by_cases e2 : r' = r
            · subst e2; rw [pk_us]; exact fun q => e3 ((nI_eq (by omega) (by omega)).mp q).symm
            · rw [pk_un e2]; exact p2 r' hr'
          · have ne : a ≠ r := fun q => by rw [q, q1] at p3; exact e ((nI_eq (by omega) (by omega)).mp p3).symm
            refine Or.inr ⟨a, p1, p2, by rw [pk_un ne]; exact p3, fun r' hr' q => ?_⟩
            by_cases e2 : r' = r
            · subst e2; rw [pk_us] at q; exact absurd ((nI_eq (by omega) (by omega)).mp q).symm e3
            · rw [pk_un e2] at q; exact p4 r' hr' q
  · rw [q3, q4]
    obtain ⟨o2, ho2, eo, ko, po⟩ : ∃ o2, o2 < L ∧ H r = nI o2 ∧ bt (K o2) r = true ∧ ∀ l', l' < L → l' ≠ o2 → bt (K l') r = true → pref rl r o2 l' := by
      rcases m1 r hr with ⟨p, -⟩ | p
      · rw [q1] at p; exact absurd p (nI_m1 (by omega))
      · exact p
    have e1 : o = o2 := (nI_eq (by omega) (by omega)).mp (q1.symm.trans eo)
    subst e1
    have lo : l ≠ o := fun q => by rw [q] at no; exact no r hr q1
    refine ⟨fun r' hr' => ?_, m2, g3, g4⟩
    by_cases e : r' = r
    · subst e
      refine Or.inr ⟨o, ho2, q1, by rw [kk o r' (by omega), ko]; rfl, fun l' hl' ne q => ?_⟩
      rw [kk l' r' (by omega)] at q
      by_cases e3 : l' = l
      · subst e3
        rcases pref_tot rl r' ne with p | p
        · exact absurd p q2
        · exact p
      · simp [e3] at q; exact po l' hl' ne q
    · exact other r' hr' e
theorem LW.ask (hL : L ≤ 4) (hR : R ≤ 4) (h : MC ll rl L R W H K) (hw : LW ll rl L R K) {l r : Nat} (hl : l < L) (hW : W l = -1) (hr : r < R) (hk : bt (K l) r = false) (hf : ∀ r', r' < R → r' ≠ r → bt (K l) r' = false → pref ll l r r') (ha : AS rl l r W H K W' H' K') : LW ll rl L R K' := by
  intro W2 H2 K2 h2 c2 l' hl' r' hr' q
  rw [as_k ha (by omega) l' (by omega)] at q
  have sub_ := hw W2 H2 K2 h2 c2
  cases qk : bt (K l') r'
  · rw [qk] at q
    simp at q
    obtain ⟨e1, e2⟩ := q
    subst e1 e2
    cases qf : bt (K2 l') r'
    · exfalso
      obtain ⟨n1, n2, n3, n4⟩ := h2
      obtain ⟨m1, m2, m3, m4⟩ := h
      -- in the other end l' has somebody
      rcases n2 l' hl' with ⟨p1, -⟩ | ⟨w, p1, p2, p3, -⟩
      · rw [c2 l' hl' p1 r' hr'] at qf; cases qf
      · -- whom it asked there
        have kw2 : bt (K2 l') w = true := by
          rcases n1 w p1 with ⟨s, -⟩ | ⟨a, s1, s2, s3, -⟩
          · rw [p3] at s; exact absurd s (nI_m1 (by omega))
          · have : a = l' := (nI_eq (by omega) (by omega)).mp (s2.symm.trans p3)
            rw [← this]; exact s3
        have kw : bt (K l') w = true := by
          cases qw : bt (K l') w
          · by_cases e : w = r'
            · rw [e, qf] at kw2; cases kw2
            · rw [n3 l' hl' w r' p1 hr' kw2 (hf w p1 e qw)] at qf; cases qf
          · rfl
        -- here it has been sent away
        rcases m1 w p1 with ⟨-, s⟩ | ⟨a, s1, s2, s3, s4⟩
        · rw [s l' hl'] at kw; cases kw
        · have ne : l' ≠ a := fun e => by
            rcases m2 l' hl' with ⟨-, t⟩ | ⟨b, t1, t2, -⟩
            · rw [e] at t; exact t w p1 s2
            · rw [hW] at t2; exact absurd t2.symm (nI_m1 (by omega))
          have pa := s4 l' hl' ne kw
          have ka := sub_ a s1 w p1 s3
          rcases n1 w p1 with ⟨s, -⟩ | ⟨b, u1, u2, u3, u4⟩
          · rw [p3] at s; exact absurd s (nI_m1 (by omega))
          · have : b = l' := (nI_eq (by omega) (by omega)).mp (u2.symm.trans p3)
            subst this
            exact pref_asym pa (u4 a s1 (Ne.symm ne) ka)
    · rfl
  · exact sub_ l' hl' r' hr' qk
theorem MC.start (hW : ∀ k, k < 4 → W k = -1) (hH : ∀ k, k < 4 → H k = -1) (hK : ∀ k, k < 4 → K k = 0) (hL : L ≤ 4) (hR : R ≤ 4) : MC ll rl L R W H K ∧ LW ll rl L R K := by
  refine ⟨⟨?_, ?_, ?_, ?_⟩, ?_⟩
  · intro r hr
    exact Or.inl ⟨hH r (by omega), fun l hl => by rw [hK l (by omega), b_0]⟩
  · intro l hl
    refine Or.inl ⟨hW l (by omega), fun r hr q => ?_⟩
    rw [hH r (by omega)] at q
    exact nI_m1 (by omega) q.symm
  · intro l hl a b ha hb q _
    rw [hK l (by omega), b_0] at q; cases q
  · intro l hl k _ _
    rw [hK l (by omega), b_0]
  · intro W2 H2 K2 _ _ l hl r hr q
    rw [hK l (by omega), b_0] at q; cases q
/-- the end is one -/
theorem MC.one (hL : L ≤ 4) (hR : R ≤ 4) {W2 H2 K2 : Nat → Int32} (h : MC ll rl L R W H K) (hw : LW ll rl L R K) (hc : CO L R W K) (h2 : MC ll rl L R W2 H2 K2) (hw2 : LW ll rl L R K2) (hc2 : CO L R W2 K2) : (∀ r, r < R → H r = H2 r) ∧ ∀ l, l < L → W l = W2 l := by
  have ek : ∀ l, l < L → ∀ r, r < R → bt (K l) r = bt (K2 l) r := fun l hl r hr => bt_iff ⟨hw W2 H2 K2 h2 hc2 l hl r hr, hw2 W H K h hc l hl r hr⟩
  obtain ⟨m1, m2, -, -⟩ := h
  obtain ⟨n1, n2, -, -⟩ := h2
  have eh : ∀ r, r < R → H r = H2 r := by
    intro r hr
    rcases m1 r hr with ⟨a1, a2⟩ | ⟨l, a1, a2, a3, a4⟩
    · rcases n1 r hr with ⟨b1, b2⟩ | ⟨l', b1, b2, b3, b4⟩
      · rw [a1, b1]
      · rw [← ek l' b1 r hr, a2 l' b1] at b3; cases b3
    · rcases n1 r hr with ⟨b1, b2⟩ | ⟨l', b1, b2, b3, b4⟩
      · rw [ek l a1 r hr, b2 l a1] at a3; cases a3
      · by_cases e : l = l'
        · rw [a2, b2, e]
        · have q1 := a4 l' b1 (Ne.symm e) (by rw [ek l' b1 r hr]; exact b3)
          have q2 := b4 l a1 e (by rw [← ek l a1 r hr]; exact a3)
          exact absurd q2 (pref_asym q1)
  refine ⟨eh, fun l hl => ?_⟩
  rcases m2 l hl with ⟨a1, a2⟩ | ⟨r, a1, a2, a3, a4⟩
  · rcases n2 l hl with ⟨b1, b2⟩ | ⟨r', b1, b2, b3, b4⟩
    · rw [a1, b1]
    · rw [← eh r' b1] at b3; exact absurd b3 (a2 r' b1)
  · rcases n2 l hl with ⟨b1, b2⟩ | ⟨r', b1, b2, b3, b4⟩
    · rw [eh r a1] at a3; exact absurd a3 (b2 r a1)
    · rw [a2, b2, a4 r' b1 (by rw [eh r' b1]; exact b3)]
/-- how many have been asked -/
def ckP (K : Nat → Int32) : Nat := fa_cnt (bt (K 0)) 4 + fa_cnt (bt (K 1)) 4 + fa_cnt (bt (K 2)) 4 + fa_cnt (bt (K 3)) 4
theorem cnt_one {x : Int32} {r : Nat} (hr : r < 4) (h : bt x r = false) : fa_cnt (bt (x ||| shl 1 (nI r))) 4 = fa_cnt (bt x) 4 + 1 := by
  have e : ∀ k, k < 4 → bt (x ||| shl 1 (nI r)) k = (bt x k || decide (k = r)) := fun k hk => by rw [b_or, b_1shl (by omega) (by omega)]
  rw [fa_cnt_cong e]
  have : r = 0 ∨ r = 1 ∨ r = 2 ∨ r = 3 := by omega
  rcases this with rfl | rfl | rfl | rfl <;> simp [fa_cnt, h] <;> omega
theorem ck_ask {l r : Nat} (ha : AS rl l r W H K W' H' K') (hl : l < 4) (hr : r < 4) (hk : bt (K l) r = false) : ckP K' = ckP K + 1 := by
  have c := cnt_one hr hk
  unfold ckP
  rw [ha.1]
  have : l = 0 ∨ l = 1 ∨ l = 2 ∨ l = 3 := by omega
  rcases this with rfl | rfl | rfl | rfl <;> simp only [pk_us, pk_un (show (0 : Nat) ≠ 1 by decide), pk_un (show (0 : Nat) ≠ 2 by decide), pk_un (show (0 : Nat) ≠ 3 by decide), pk_un (show (1 : Nat) ≠ 0 by decide), pk_un (show (1 : Nat) ≠ 2 by decide), pk_un (show (1 : Nat) ≠ 3 by decide), pk_un (show (2 : Nat) ≠ 0 by decide), pk_un (show (2 : Nat) ≠ 1 by decide), pk_un (show (2 : Nat) ≠ 3 by decide), pk_un (show (3 : Nat) ≠ 0 by decide), pk_un (show (3 : Nat) ≠ 1 by decide), pk_un (show (3 : Nat) ≠ 2 by decide)] <;> omega
theorem cnt_full {x : Int32} (h : 4 ≤ fa_cnt (bt x) 4) {r : Nat} (hr : r < 4) : bt x r = true := by
  cases hb : bt x r
  · have := fa_cnt_lt (p := bt x) (q := fun _ => true) (fun _ _ => rfl) hb rfl 4 hr
    have := fa_cnt_le (fun _ => true) 4
    omega
  · rfl
theorem ck_full (h : 16 ≤ ckP K) {l r : Nat} (hl : l < 4) (hr : r < 4) : bt (K l) r = true := by
  have a0 := fa_cnt_le (bt (K 0)) 4
  have a1 := fa_cnt_le (bt (K 1)) 4
  have a2 := fa_cnt_le (bt (K 2)) 4
  have a3 := fa_cnt_le (bt (K 3)) 4
  unfold ckP at h
  have : l = 0 ∨ l = 1 ∨ l = 2 ∨ l = 3 := by omega
  rcases this with rfl | rfl | rfl | rfl <;> exact cnt_full (by omega) hr
end MA
