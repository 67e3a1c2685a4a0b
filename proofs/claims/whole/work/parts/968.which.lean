/-! ===== text: which line it is, in the reference (written by gen968.py) ===== -/
theorem LO.wrap {F : Nat → Int32} {L p k q : Nat} {s : ST} {M : SV} {o : Option (Int32 × SV)} (h : LO F L p k q s M o) : LO F L p k q s M (b2 o fun x S => if x = 0 ∨ x = 1 then some (x, S) else none) := by
  rcases h with ⟨i, h1, h2, h3, M', h4, h5⟩ | ⟨h1, M', h4, h5⟩
  · refine Or.inl ⟨i, h1, h2, h3, M', ?_, h5⟩
    rw [h4, b2_some, if_pos (Or.inl rfl)]
  · refine Or.inr ⟨h1, M', ?_, h5⟩
    rw [h4, b2_some, if_pos (Or.inr rfl)]
theorem cl_0 (x : Int32) (M : SV) : gX10_countryLine (wC 0) x M = gbX10_countryLine_116 x 0 0 8 M := by
  unfold gX10_countryLine
  rw [if_pos (show wC 0 = 499967946343 by decide +kernel)]
  unfold gbX10_countryLine_40
  rw [if_pos (show wC 0 = 499967946343 by decide +kernel)]
  unfold gbX10_countryLine_89
  rw [if_pos rfl]
theorem cl_1 (x : Int32) (M : SV) : gX10_countryLine (wC 1) x M = gbX10_countryLine_379 (wC 1) M := by
  unfold gX10_countryLine
  rw [if_neg (show ¬ wC 1 = 499967946343 by decide +kernel), if_neg (show ¬ wC 1 = 1885434984 by decide +kernel), if_neg (show ¬ wC 1 = 1818584692 by decide +kernel), if_neg (show ¬ wC 1 = 491394656372 by decide +kernel), if_neg (show ¬ wC 1 = 109330362821733 by decide +kernel), if_pos (show wC 1 = 491328337011 by decide +kernel)]
theorem cl_2 (x : Int32) (M : SV) : gX10_countryLine (wC 2) x M = gbX10_countryLine_116 x 1 1 12 M := by
  unfold gX10_countryLine
  rw [if_neg (show ¬ wC 2 = 499967946343 by decide +kernel), if_pos (show wC 2 = 1885434984 by decide +kernel)]
  unfold gbX10_countryLine_40
  rw [if_neg (show ¬ wC 2 = 499967946343 by decide +kernel), if_pos (show wC 2 = 1885434984 by decide +kernel)]
  unfold gbX10_countryLine_89
  rw [if_neg (by decide), if_pos rfl]
theorem cl_3 (x : Int32) (M : SV) : gX10_countryLine (wC 3) x M = gbX10_countryLine_116 x 4 4 4 M := by
  unfold gX10_countryLine
  rw [if_neg (show ¬ wC 3 = 499967946343 by decide +kernel), if_neg (show ¬ wC 3 = 1885434984 by decide +kernel), if_neg (show ¬ wC 3 = 1818584692 by decide +kernel), if_neg (show ¬ wC 3 = 491394656372 by decide +kernel), if_pos (show wC 3 = 109330362821733 by decide +kernel)]
  unfold gbX10_countryLine_40
  rw [if_neg (show ¬ wC 3 = 499967946343 by decide +kernel), if_neg (show ¬ wC 3 = 1885434984 by decide +kernel), if_neg (show ¬ wC 3 = 1818584692 by decide +kernel), if_neg (show ¬ wC 3 = 491394656372 by decide +kernel)]
  unfold gbX10_countryLine_89
  rw [if_neg (by decide), if_neg (by decide)]
theorem cl_4 (x : Int32) (M : SV) : gX10_countryLine (wC 4) x M = gbX10_countryLine_116 x 2 2 4 M := by
  unfold gX10_countryLine
  rw [if_neg (show ¬ wC 4 = 499967946343 by decide +kernel), if_neg (show ¬ wC 4 = 1885434984 by decide +kernel), if_pos (show wC 4 = 1818584692 by decide +kernel)]
  unfold gbX10_countryLine_40
  rw [if_neg (show ¬ wC 4 = 499967946343 by decide +kernel), if_neg (show ¬ wC 4 = 1885434984 by decide +kernel), if_pos (show wC 4 = 1818584692 by decide +kernel)]
  unfold gbX10_countryLine_89
  rw [if_neg (by decide), if_neg (by decide)]
theorem cl_5 (x : Int32) (M : SV) : gX10_countryLine (wC 5) x M = gbX10_countryLine_116 x 3 3 4 M := by
  unfold gX10_countryLine
  rw [if_neg (show ¬ wC 5 = 499967946343 by decide +kernel), if_neg (show ¬ wC 5 = 1885434984 by decide +kernel), if_neg (show ¬ wC 5 = 1818584692 by decide +kernel), if_pos (show wC 5 = 491394656372 by decide +kernel)]
  unfold gbX10_countryLine_40
  rw [if_neg (show ¬ wC 5 = 499967946343 by decide +kernel), if_neg (show ¬ wC 5 = 1885434984 by decide +kernel), if_neg (show ¬ wC 5 = 1818584692 by decide +kernel), if_pos (show wC 5 = 491394656372 by decide +kernel)]
  unfold gbX10_countryLine_89
  rw [if_neg (by decide), if_neg (by decide)]
theorem cl_6 (x : Int32) (M : SV) : gX10_countryLine (wC 6) x M = gbX10_countryLine_379 (wC 6) M := by
  unfold gX10_countryLine
  rw [if_neg (show ¬ wC 6 = 499967946343 by decide +kernel), if_neg (show ¬ wC 6 = 1885434984 by decide +kernel), if_neg (show ¬ wC 6 = 1818584692 by decide +kernel), if_neg (show ¬ wC 6 = 491394656372 by decide +kernel), if_neg (show ¬ wC 6 = 109330362821733 by decide +kernel), if_neg (show ¬ wC 6 = 491328337011 by decide +kernel), if_pos (show wC 6 = 1751215716 by decide +kernel)]
theorem cl_7 (x : Int32) (M : SV) : gX10_countryLine (wC 7) x M = gbX10_countryLine_379 (wC 7) M := by
  unfold gX10_countryLine
  rw [if_neg (show ¬ wC 7 = 499967946343 by decide +kernel), if_neg (show ¬ wC 7 = 1885434984 by decide +kernel), if_neg (show ¬ wC 7 = 1818584692 by decide +kernel), if_neg (show ¬ wC 7 = 491394656372 by decide +kernel), if_neg (show ¬ wC 7 = 109330362821733 by decide +kernel), if_neg (show ¬ wC 7 = 491328337011 by decide +kernel), if_neg (show ¬ wC 7 = 1751215716 by decide +kernel), if_pos (show wC 7 = 465625113971 by decide +kernel)]
theorem cl_8 (x : Int32) (M : SV) : gX10_countryLine (wC 8) x M = gbX10_countryLine_379 (wC 8) M := by
  unfold gX10_countryLine
  rw [if_neg (show ¬ wC 8 = 499967946343 by decide +kernel), if_neg (show ¬ wC 8 = 1885434984 by decide +kernel), if_neg (show ¬ wC 8 = 1818584692 by decide +kernel), if_neg (show ¬ wC 8 = 491394656372 by decide +kernel), if_neg (show ¬ wC 8 = 109330362821733 by decide +kernel), if_neg (show ¬ wC 8 = 491328337011 by decide +kernel), if_neg (show ¬ wC 8 = 1751215716 by decide +kernel), if_neg (show ¬ wC 8 = 465625113971 by decide +kernel), if_pos (show wC 8 = 465625113956 by decide +kernel)]
theorem cl_9 (x : Int32) (M : SV) : gX10_yearLine (wC 9) x M = gbX10_yearLine_61 x 0 M := by
  unfold gX10_yearLine
  rw [if_pos (show wC 9 = 1819242347 by decide +kernel)]
theorem cl_10 (x : Int32) (M : SV) : gX10_yearLine (wC 10) x M = gbX10_yearLine_61 x 1 M := by
  unfold gX10_yearLine
  rw [if_neg (show ¬ wC 10 = 1819242347 by decide +kernel), if_pos (show wC 10 = 512970876019 by decide +kernel)]
theorem cl_11 (x : Int32) (M : SV) : gX10_yearLine (wC 11) x M = gbX10_yearLine_61 x 2 M := by
  unfold gX10_yearLine
  rw [if_neg (show ¬ wC 11 = 1819242347 by decide +kernel), if_neg (show ¬ wC 11 = 512970876019 by decide +kernel), if_pos (show wC 11 = 482737218405 by decide +kernel)]
theorem cl_12 (x : Int32) (M : SV) : gX10_yearLine (wC 12) x M = gbX10_yearLine_61 x 3 M := by
  unfold gX10_yearLine
  rw [if_neg (show ¬ wC 12 = 1819242347 by decide +kernel), if_neg (show ¬ wC 12 = 512970876019 by decide +kernel), if_neg (show ¬ wC 12 = 482737218405 by decide +kernel), if_pos (show wC 12 = 120299659095922 by decide +kernel)]
theorem cl_13 (x : Int32) (M : SV) : gX10_yearLine (wC 13) x M = gbX10_yearLine_61 x 4 M := by
  unfold gX10_yearLine
  rw [if_neg (show ¬ wC 13 = 1819242347 by decide +kernel), if_neg (show ¬ wC 13 = 512970876019 by decide +kernel), if_neg (show ¬ wC 13 = 482737218405 by decide +kernel), if_neg (show ¬ wC 13 = 120299659095922 by decide +kernel), if_pos (show wC 13 = 1752135026 by decide +kernel)]
theorem cl_14 (x : Int32) (M : SV) : gX10_sightLine (wC 14) x M = gbX10_sightLine_37 x 0 M := by
  unfold gX10_sightLine
  rw [if_pos (show wC 14 = 8319400174365927540 by decide +kernel)]
theorem cl_15 (x : Int32) (M : SV) : gX10_sightLine (wC 15) x M = gbX10_sightLine_37 x 1 M := by
  unfold gX10_sightLine
  rw [if_neg (show ¬ wC 15 = 8319400174365927540 by decide +kernel), if_pos (show wC 15 = 491394656372 by decide +kernel)]
theorem cl_16 (x : Int32) (M : SV) : gX10_sightLine (wC 16) x M = gbX10_sightLine_37 x 2 M := by
  unfold gX10_sightLine
  rw [if_neg (show ¬ wC 16 = 8319400174365927540 by decide +kernel), if_neg (show ¬ wC 16 = 491394656372 by decide +kernel), if_pos (show wC 16 = 1818584692 by decide +kernel)]
theorem cl_17 (x : Int32) (M : SV) : gX10_factLine (wC 17) x M = gbX10_factLine_37 x 0 M := by
  unfold gX10_factLine
  rw [if_pos (show wC 17 = 119225866478948 by decide +kernel)]
theorem cl_18 (x : Int32) (M : SV) : gX10_factLine (wC 18) x M = gbX10_factLine_37 x 1 M := by
  unfold gX10_factLine
  rw [if_neg (show ¬ wC 18 = 119225866478948 by decide +kernel), if_pos (show wC 18 = 8316012630647337587 by decide +kernel)]
theorem cl_19 (x : Int32) (M : SV) : gX10_factLine (wC 19) x M = gbX10_factLine_37 x 2 M := by
  unfold gX10_factLine
  rw [if_neg (show ¬ wC 19 = 119225866478948 by decide +kernel), if_neg (show ¬ wC 19 = 8316012630647337587 by decide +kernel), if_pos (show wC 19 = 495874305132 by decide +kernel)]
section LK3
variable {F : Nat → Int32} {L p : Nat} {M : SV} {s : ST}
theorem lo_0 (w : Int64) (x : Int32) (M : SV) : gX10_lineOf (nI 0) w x M = b2 (gX10_countryLine w x M) fun a S => if a = 0 ∨ a = 1 then some (a, S) else none := by
  unfold gX10_lineOf
  rw [if_pos (show nI 0 = 0 from rfl)]
theorem lo_1 (w : Int64) (x : Int32) (M : SV) : gX10_lineOf (nI 1) w x M = b2 (gX10_yearLine w x M) fun a S => if a = 0 ∨ a = 1 then some (a, S) else none := by
  unfold gX10_lineOf
  rw [if_neg (show ¬ nI 1 = 0 by decide), if_pos (show nI 1 = 1 from rfl)]
theorem lo_2 (w : Int64) (x : Int32) (M : SV) : gX10_lineOf (nI 2) w x M = b2 (gX10_sightLine w x M) fun a S => if a = 0 ∨ a = 1 then some (a, S) else none := by
  unfold gX10_lineOf
  rw [if_neg (show ¬ nI 2 = 0 by decide), if_neg (show ¬ nI 2 = 1 by decide), if_pos (show nI 2 = 2 from rfl)]
theorem lo_3 (w : Int64) (x : Int32) (M : SV) : gX10_lineOf (nI 3) w x M = b2 (gX10_factLine w x M) fun a S => if a = 0 ∨ a = 1 then some (a, S) else none := by
  unfold gX10_lineOf
  rw [if_neg (show ¬ nI 3 = 0 by decide), if_neg (show ¬ nI 3 = 1 by decide), if_neg (show ¬ nI 3 = 2 by decide)]
theorem m_lineOf {q k : Nat} (hq : q < 4) (k1 : wLo q ≤ k) (k2 : k < wHi q) (hT : MT F L M) (hp : p ≤ L) (hS : MS (D8 F) L p M) (hK : ¬ tK (D8 F) L p = 0) (hs : RMs q s M) (hsf : SFp q s.2.1) (hbd : BD s.1 (tB (D8 F) L p)) (hg : M.1 24 = 1) : LO F L p k q s M (gX10_lineOf (nI q) (wC k) (nI (tB (D8 F) L p)) M) := by
  have hq4 : q = 0 ∨ q = 1 ∨ q = 2 ∨ q = 3 := by omega
  rcases hq4 with rfl | rfl | rfl | rfl
  · replace k1 : 0 ≤ k := k1
    replace k2 : k < 9 := k2
    have hk : k = 0 ∨ k = 1 ∨ k = 2 ∨ k = 3 ∨ k = 4 ∨ k = 5 ∨ k = 6 ∨ k = 7 ∨ k = 8 := by omega
    rw [lo_0]
    refine LO.wrap ?_
    rcases hk with rfl | rfl | rfl | rfl | rfl | rfl | rfl | rfl | rfl
    · rw [cl_0]; exact ml_0 hT hp hS hK hs hsf hbd hg
    · rw [cl_1]; exact ml_1 hT hp hS hK hs hsf hbd hg
    · rw [cl_2]; exact ml_2 hT hp hS hK hs hsf hbd hg
    · rw [cl_3]; exact ml_3 hT hp hS hK hs hsf hbd hg
    · rw [cl_4]; exact ml_4 hT hp hS hK hs hsf hbd hg
    · rw [cl_5]; exact ml_5 hT hp hS hK hs hsf hbd hg
    · rw [cl_6]; exact ml_6 hT hp hS hK hs hsf hbd hg
    · rw [cl_7]; exact ml_7 hT hp hS hK hs hsf hbd hg
    · rw [cl_8]; exact ml_8 hT hp hS hK hs hsf hbd hg
  · replace k1 : 9 ≤ k := k1
    replace k2 : k < 14 := k2
    have hk : k = 9 ∨ k = 10 ∨ k = 11 ∨ k = 12 ∨ k = 13 := by omega
    rw [lo_1]
    refine LO.wrap ?_
    rcases hk with rfl | rfl | rfl | rfl | rfl
    · rw [cl_9]; exact ml_9 hT hp hS hK hs hsf hbd hg
    · rw [cl_10]; exact ml_10 hT hp hS hK hs hsf hbd hg
    · rw [cl_11]; exact ml_11 hT hp hS hK hs hsf hbd hg
    · rw [cl_12]; exact ml_12 hT hp hS hK hs hsf hbd hg
    · rw [cl_13]; exact ml_13 hT hp hS hK hs hsf hbd hg
  · replace k1 : 14 ≤ k := k1
    replace k2 : k < 17 := k2
    have hk : k = 14 ∨ k = 15 ∨ k = 16 := by omega
    rw [lo_2]
    refine LO.wrap ?_
    rcases hk with rfl | rfl | rfl
    · rw [cl_14]; exact ml_14 hT hp hS hK hs hsf hbd hg
    · rw [cl_15]; exact ml_15 hT hp hS hK hs hsf hbd hg
    · rw [cl_16]; exact ml_16 hT hp hS hK hs hsf hbd hg
  · replace k1 : 17 ≤ k := k1
    replace k2 : k < 20 := k2
    have hk : k = 17 ∨ k = 18 ∨ k = 19 := by omega
    rw [lo_3]
    refine LO.wrap ?_
    rcases hk with rfl | rfl | rfl
    · rw [cl_17]; exact ml_17 hT hp hS hK hs hsf hbd hg
    · rw [cl_18]; exact ml_18 hT hp hS hK hs hsf hbd hg
    · rw [cl_19]; exact ml_19 hT hp hS hK hs hsf hbd hg
theorem m_lineNo {q : Nat} (hq : q < 4) {w : Int64} (hw : ∀ k, wLo q ≤ k → k < wHi q → ¬ w = wC k) (hS : MS (D8 F) L p M) (x : Int32) : ∃ M', gX10_lineOf (nI q) w x M = some (0, M') ∧ TF F L p M M' := by
  obtain ⟨f1, f2⟩ := m_fails hS
  refine ⟨_, ?_, f2⟩
  have hq4 : q = 0 ∨ q = 1 ∨ q = 2 ∨ q = 3 := by omega
  rcases hq4 with rfl | rfl | rfl | rfl
  · rw [lo_0]
    unfold gX10_countryLine
    rw [if_neg (show ¬ w = 499967946343 from hw 0 (by decide) (by decide)), if_neg (show ¬ w = 1885434984 from hw 2 (by decide) (by decide)), if_neg (show ¬ w = 1818584692 from hw 4 (by decide) (by decide)), if_neg (show ¬ w = 491394656372 from hw 5 (by decide) (by decide)), if_neg (show ¬ w = 109330362821733 from hw 3 (by decide) (by decide)), if_neg (show ¬ w = 491328337011 from hw 1 (by decide) (by decide)), if_neg (show ¬ w = 1751215716 from hw 6 (by decide) (by decide)), if_neg (show ¬ w = 465625113971 from hw 7 (by decide) (by decide)), if_neg (show ¬ w = 465625113956 from hw 8 (by decide) (by decide))]
    rw [f1, b2_some, if_pos (Or.inl rfl), b2_some, if_pos (Or.inl rfl)]
  · rw [lo_1]
    unfold gX10_yearLine
    rw [if_neg (show ¬ w = 1819242347 from hw 9 (by decide) (by decide)), if_neg (show ¬ w = 512970876019 from hw 10 (by decide) (by decide)), if_neg (show ¬ w = 482737218405 from hw 11 (by decide) (by decide)), if_neg (show ¬ w = 120299659095922 from hw 12 (by decide) (by decide)), if_neg (show ¬ w = 1752135026 from hw 13 (by decide) (by decide))]
    unfold gbX10_yearLine_61
    rw [if_pos rfl]
    rw [f1, b2_some, if_pos (Or.inl rfl), b2_some, if_pos (Or.inl rfl)]
  · rw [lo_2]
    unfold gX10_sightLine
    rw [if_neg (show ¬ w = 8319400174365927540 from hw 14 (by decide) (by decide)), if_neg (show ¬ w = 491394656372 from hw 15 (by decide) (by decide)), if_neg (show ¬ w = 1818584692 from hw 16 (by decide) (by decide))]
    unfold gbX10_sightLine_37
    rw [if_pos rfl]
    rw [f1, b2_some, if_pos (Or.inl rfl), b2_some, if_pos (Or.inl rfl)]
  · rw [lo_3]
    unfold gX10_factLine
    rw [if_neg (show ¬ w = 119225866478948 from hw 17 (by decide) (by decide)), if_neg (show ¬ w = 8316012630647337587 from hw 18 (by decide) (by decide)), if_neg (show ¬ w = 495874305132 from hw 19 (by decide) (by decide))]
    unfold gbX10_factLine_37
    rw [if_pos rfl]
    rw [f1, b2_some, if_pos (Or.inl rfl), b2_some, if_pos (Or.inl rfl)]
end LK3
