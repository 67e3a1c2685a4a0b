abbrev WC : Type := SV → (Nat → Int32) → Int32 → Int32 → Int32 → Prop
def Qu_feed (Wc : WC) : Prop := ∀ (z : AH) (M : SV) (ρM : RV), InvM Wc z M ρM → ∀ (a1 : Int32) (a2 : Int32) (a3 : Int32) (a4 : Int32) (a5 : Int32), ∃ (r : Int32) (z1 : AH) (M' : SV), fX9_feed 0 a1 a2 a3 a4 a5 z = some (r, z1) ∧ (RD 9 89 ρM M z1 ∧ 113 ≤ z1.length) ∧ gX10_feed a1 a2 a3 a4 a5 M = some (r, M') ∧ InvM Wc (wr 9 89 ρM M' z1) M' ρM
theorem st_feed {Wc : WC} (H : Qu_feed Wc) : St_feed (Inv Wc) 0 89 := by
  rintro z ⟨M, ρM, hI⟩ a1 a2 a3 a4 a5
  obtain ⟨r, z1, M', h1, ⟨h2, h3⟩, h4, h5⟩ := H z M ρM hI a1 a2 a3 a4 a5
  have e := eX10_feed (a := 89) (ρ := ρM) (z := z1) (by rw [s9]; omega) a1 a2 a3 a4 a5 M
  rw [wr_id h2, h4] at e
  exact ⟨r, z1, _, h1, e, M', ρM, h5⟩
def Qu_end (Wc : WC) : Prop := ∀ (z : AH) (M : SV) (ρM : RV), InvM Wc z M ρM → ∀ (a1 : Int32), ∃ (r : Int32) (z1 : AH) (M' : SV), fX9_end 0 a1 z = some (r, z1) ∧ (RD 9 89 ρM M z1 ∧ 113 ≤ z1.length) ∧ gX10_end a1 M = some (r, M') ∧ InvM Wc (wr 9 89 ρM M' z1) M' ρM
theorem st_end {Wc : WC} (H : Qu_end Wc) : St_end (Inv Wc) 0 89 := by
  rintro z ⟨M, ρM, hI⟩ a1
  obtain ⟨r, z1, M', h1, ⟨h2, h3⟩, h4, h5⟩ := H z M ρM hI a1
  have e := eX10_end (a := 89) (ρ := ρM) (z := z1) (by rw [s9]; omega) a1 M
  rw [wr_id h2, h4] at e
  exact ⟨r, z1, _, h1, e, M', ρM, h5⟩
def Qu_text (Wc : WC) : Prop := ∀ (z : AH) (M : SV) (ρM : RV), InvM Wc z M ρM → ∀ (a1 : Int32) (a2 : Int32), ∃ (r : Int32) (z1 : AH) (M' : SV), fX9_text 0 a1 a2 z = some (r, z1) ∧ (RD 9 89 ρM M z1 ∧ 113 ≤ z1.length) ∧ gX10_text a1 a2 M = some (r, M') ∧ InvM Wc (wr 9 89 ρM M' z1) M' ρM
theorem st_text {Wc : WC} (H : Qu_text Wc) : St_text (Inv Wc) 0 89 := by
  rintro z ⟨M, ρM, hI⟩ a1 a2
  obtain ⟨r, z1, M', h1, ⟨h2, h3⟩, h4, h5⟩ := H z M ρM hI a1 a2
  have e := eX10_text (a := 89) (ρ := ρM) (z := z1) (by rw [s9]; omega) a1 a2 M
  rw [wr_id h2, h4] at e
  exact ⟨r, z1, _, h1, e, M', ρM, h5⟩
def Qu_fault (Wc : WC) : Prop := ∀ (z : AH) (M : SV) (ρM : RV), InvM Wc z M ρM → ∀ (a1 : Int32), ∃ (r : Int32) (M' : SV), fX9_fault 0 a1 z = some r ∧ gX10_fault a1 M = some (r, M')
theorem st_fault {Wc : WC} (H : Qu_fault Wc) : St_fault (Inv Wc) 0 89 := by
  rintro z ⟨M, ρM, hI⟩ a1
  obtain ⟨r, M', h1, h4⟩ := H z M ρM hI a1
  have hI1 := hI
  have h2 := hI1.2.1
  have h3 := hI1.1
  have h5 := hI1.model (pX10_fault h4)
  have e := eX10_fault (a := 89) (ρ := ρM) (z := z) (by rw [s9]; omega) a1 M
  rw [wr_id h2, h4] at e
  exact ⟨r, _, h1, e, M', ρM, h5⟩
def Qu_country (Wc : WC) : Prop := ∀ (z : AH) (M : SV) (ρM : RV), InvM Wc z M ρM → ∀ (a1 : Int32) (a2 : Int32), ∃ (r : Int32) (M' : SV), fX9_country 0 a1 a2 z = some r ∧ gX10_country a1 a2 M = some (r, M')
theorem st_country {Wc : WC} (H : Qu_country Wc) : St_country (Inv Wc) 0 89 := by
  rintro z ⟨M, ρM, hI⟩ a1 a2
  obtain ⟨r, M', h1, h4⟩ := H z M ρM hI a1 a2
  have hI1 := hI
  have h2 := hI1.2.1
  have h3 := hI1.1
  have h5 := hI1.model (pX10_country h4)
  have e := eX10_country (a := 89) (ρ := ρM) (z := z) (by rw [s9]; omega) a1 a2 M
  rw [wr_id h2, h4] at e
  exact ⟨r, _, h1, e, M', ρM, h5⟩
def Qu_deed (Wc : WC) : Prop := ∀ (z : AH) (M : SV) (ρM : RV), InvM Wc z M ρM → ∀ (a1 : Int32) (a2 : Int32) (a3 : Int32), ∃ (r : Int32) (M' : SV), fX9_deed 0 a1 a2 a3 z = some r ∧ gX10_deed a1 a2 a3 M = some (r, M')
theorem st_deed {Wc : WC} (H : Qu_deed Wc) : St_deed (Inv Wc) 0 89 := by
  rintro z ⟨M, ρM, hI⟩ a1 a2 a3
  obtain ⟨r, M', h1, h4⟩ := H z M ρM hI a1 a2 a3
  have hI1 := hI
  have h2 := hI1.2.1
  have h3 := hI1.1
  have h5 := hI1.model (pX10_deed h4)
  have e := eX10_deed (a := 89) (ρ := ρM) (z := z) (by rw [s9]; omega) a1 a2 a3 M
  rw [wr_id h2, h4] at e
  exact ⟨r, _, h1, e, M', ρM, h5⟩
def Qu_till (Wc : WC) : Prop := ∀ (z : AH) (M : SV) (ρM : RV), InvM Wc z M ρM → ∀ (a1 : Int32) (a2 : Int32), ∃ (r : Int32) (z1 : AH) (M' : SV), fX9_till 0 a1 a2 z = some (r, z1) ∧ InvM Wc z1 M ρM ∧ gX10_till a1 a2 M = some (r, M')
theorem st_till {Wc : WC} (H : Qu_till Wc) : St_till (Inv Wc) 0 89 := by
  rintro z ⟨M, ρM, hI⟩ a1 a2
  obtain ⟨r, z1, M', h1, hI1, h4⟩ := H z M ρM hI a1 a2
  have h2 := hI1.2.1
  have h3 := hI1.1
  have h5 := hI1.model (pX10_till h4)
  have e := eX10_till (a := 89) (ρ := ρM) (z := z1) (by rw [s9]; omega) a1 a2 M
  rw [wr_id h2, h4] at e
  exact ⟨r, z1, _, h1, e, M', ρM, h5⟩
def Qu_state (Wc : WC) : Prop := ∀ (z : AH) (M : SV) (ρM : RV), InvM Wc z M ρM → ∀ (a1 : Int32) (a2 : Int32) (a3 : Int32) (a4 : Int32), ∃ (r : Int32) (z1 : AH) (M' : SV), fX9_state 0 a1 a2 a3 a4 z = some (r, z1) ∧ InvM Wc z1 M ρM ∧ gX10_state a1 a2 a3 a4 M = some (r, M')
theorem st_state {Wc : WC} (H : Qu_state Wc) : St_state (Inv Wc) 0 89 := by
  rintro z ⟨M, ρM, hI⟩ a1 a2 a3 a4
  obtain ⟨r, z1, M', h1, hI1, h4⟩ := H z M ρM hI a1 a2 a3 a4
  have h2 := hI1.2.1
  have h3 := hI1.1
  have h5 := hI1.model (pX10_state h4)
  have e := eX10_state (a := 89) (ρ := ρM) (z := z1) (by rw [s9]; omega) a1 a2 a3 a4 M
  rw [wr_id h2, h4] at e
  exact ⟨r, z1, _, h1, e, M', ρM, h5⟩
def Qu_lasts (Wc : WC) : Prop := ∀ (z : AH) (M : SV) (ρM : RV), InvM Wc z M ρM → ∀ (a1 : Int32) (a2 : Int32), ∃ (r : Int32) (z1 : AH) (M' : SV), fX9_lasts 0 a1 a2 z = some (r, z1) ∧ InvM Wc z1 M ρM ∧ gX10_lasts a1 a2 M = some (r, M')
theorem st_lasts {Wc : WC} (H : Qu_lasts Wc) : St_lasts (Inv Wc) 0 89 := by
  rintro z ⟨M, ρM, hI⟩ a1 a2
  obtain ⟨r, z1, M', h1, hI1, h4⟩ := H z M ρM hI a1 a2
  have h2 := hI1.2.1
  have h3 := hI1.1
  have h5 := hI1.model (pX10_lasts h4)
  have e := eX10_lasts (a := 89) (ρ := ρM) (z := z1) (by rw [s9]; omega) a1 a2 M
  rw [wr_id h2, h4] at e
  exact ⟨r, z1, _, h1, e, M', ρM, h5⟩
def Qu_watch (Wc : WC) : Prop := ∀ (z : AH) (M : SV) (ρM : RV), InvM Wc z M ρM → ∀ (a1 : Int32) (a2 : Int32), ∃ (r : Int32) (z1 : AH) (M' : SV), fX9_watch 0 a1 a2 z = some (r, z1) ∧ InvM Wc z1 M ρM ∧ gX10_watch a1 a2 M = some (r, M')
theorem st_watch {Wc : WC} (H : Qu_watch Wc) : St_watch (Inv Wc) 0 89 := by
  rintro z ⟨M, ρM, hI⟩ a1 a2
  obtain ⟨r, z1, M', h1, hI1, h4⟩ := H z M ρM hI a1 a2
  have h2 := hI1.2.1
  have h3 := hI1.1
  have h5 := hI1.model (pX10_watch h4)
  have e := eX10_watch (a := 89) (ρ := ρM) (z := z1) (by rw [s9]; omega) a1 a2 M
  rw [wr_id h2, h4] at e
  exact ⟨r, z1, _, h1, e, M', ρM, h5⟩
def Qu_way (Wc : WC) : Prop := ∀ (z : AH) (M : SV) (ρM : RV), InvM Wc z M ρM → ∀ (a1 : Int32) (a2 : Int32) (a3 : Int32) (a4 : Int32), (a4 = 0 ∨ a4 = 1) → ∃ (r : Int32) (z1 : AH) (M' : SV), fX9_way 0 a1 a2 a3 a4 z = some (r, z1) ∧ InvM Wc z1 M ρM ∧ gX10_way a1 a2 a3 a4 M = some (r, M')
theorem st_way {Wc : WC} (H : Qu_way Wc) : St_way (Inv Wc) 0 89 := by
  rintro z ⟨M, ρM, hI⟩ a1 a2 a3 a4 h_a4
  obtain ⟨r, z1, M', h1, hI1, h4⟩ := H z M ρM hI a1 a2 a3 a4 h_a4
  have h2 := hI1.2.1
  have h3 := hI1.1
  have h5 := hI1.model (pX10_way h4)
  have e := eX10_way (a := 89) (ρ := ρM) (z := z1) (by rw [s9]; omega) a1 a2 a3 a4 M
  rw [wr_id h2, h4] at e
  exact ⟨r, z1, _, h1, e, M', ρM, h5⟩
def Qu_married (Wc : WC) : Prop := ∀ (z : AH) (M : SV) (ρM : RV), InvM Wc z M ρM → ∀ (a1 : Int32) (a2 : Int32) (a3 : Int32), (a3 = 0 ∨ a3 = 1) → ∃ (r : Int32) (z1 : AH) (M' : SV), fX9_married 0 a1 a2 a3 z = some (r, z1) ∧ InvM Wc z1 M ρM ∧ gX10_married a1 a2 a3 M = some (r, M')
theorem st_married {Wc : WC} (H : Qu_married Wc) : St_married (Inv Wc) 0 89 := by
  rintro z ⟨M, ρM, hI⟩ a1 a2 a3 h_a3
  obtain ⟨r, z1, M', h1, hI1, h4⟩ := H z M ρM hI a1 a2 a3 h_a3
  have h2 := hI1.2.1
  have h3 := hI1.1
  have h5 := hI1.model (pX10_married h4)
  have e := eX10_married (a := 89) (ρ := ρM) (z := z1) (by rw [s9]; omega) a1 a2 a3 M
  rw [wr_id h2, h4] at e
  exact ⟨r, z1, _, h1, e, M', ρM, h5⟩
def Qu_unhappy (Wc : WC) : Prop := ∀ (z : AH) (M : SV) (ρM : RV), InvM Wc z M ρM → ∀ (a1 : Int32), ∃ (r : Int32) (z1 : AH) (M' : SV), fX9_unhappy 0 a1 z = some (r, z1) ∧ InvM Wc z1 M ρM ∧ gX10_unhappy a1 M = some (r, M')
theorem st_unhappy {Wc : WC} (H : Qu_unhappy Wc) : St_unhappy (Inv Wc) 0 89 := by
  rintro z ⟨M, ρM, hI⟩ a1
  obtain ⟨r, z1, M', h1, hI1, h4⟩ := H z M ρM hI a1
  have h2 := hI1.2.1
  have h3 := hI1.1
  have h5 := hI1.model (pX10_unhappy h4)
  have e := eX10_unhappy (a := 89) (ρ := ρM) (z := z1) (by rw [s9]; omega) a1 M
  rw [wr_id h2, h4] at e
  exact ⟨r, z1, _, h1, e, M', ρM, h5⟩
def Qu_agree (Wc : WC) : Prop := ∀ (z : AH) (M : SV) (ρM : RV), InvM Wc z M ρM → ∀ (a1 : Int32) (a2 : Int32) (a3 : Int32) (a4 : Int32) (a5 : Int32), (a5 = 0 ∨ a5 = 1) → ∃ (r : Int32) (M' : SV), fX9_agree 0 a1 a2 a3 a4 a5 z = some r ∧ gX10_agree a1 a2 a3 a4 a5 M = some (r, M')
theorem st_agree {Wc : WC} (H : Qu_agree Wc) : St_agree (Inv Wc) 0 89 := by
  rintro z ⟨M, ρM, hI⟩ a1 a2 a3 a4 a5 h_a5
  obtain ⟨r, M', h1, h4⟩ := H z M ρM hI a1 a2 a3 a4 a5 h_a5
  have hI1 := hI
  have h2 := hI1.2.1
  have h3 := hI1.1
  have h5 := hI1.model (pX10_agree h4)
  have e := eX10_agree (a := 89) (ρ := ρM) (z := z) (by rw [s9]; omega) a1 a2 a3 a4 a5 M
  rw [wr_id h2, h4] at e
  exact ⟨r, _, h1, e, M', ρM, h5⟩
def Qu_view (Wc : WC) : Prop := ∀ (z : AH) (M : SV) (ρM : RV), InvM Wc z M ρM → ∀ (a1 : Int32) (a2 : Int32) (a3 : Int32), ∃ (r : Int32) (M' : SV), fX9_view 0 a1 a2 a3 z = some r ∧ gX10_view a1 a2 a3 M = some (r, M')
theorem st_view {Wc : WC} (H : Qu_view Wc) : St_view (Inv Wc) 0 89 := by
  rintro z ⟨M, ρM, hI⟩ a1 a2 a3
  obtain ⟨r, M', h1, h4⟩ := H z M ρM hI a1 a2 a3
  have hI1 := hI
  have h2 := hI1.2.1
  have h3 := hI1.1
  have h5 := hI1.model (pX10_view h4)
  have e := eX10_view (a := 89) (ρ := ρM) (z := z) (by rw [s9]; omega) a1 a2 a3 M
  rw [wr_id h2, h4] at e
  exact ⟨r, _, h1, e, M', ρM, h5⟩
def Qu_fits (Wc : WC) : Prop := ∀ (z : AH) (M : SV) (ρM : RV), InvM Wc z M ρM → ∀ (a1 : Int32) (a2 : Int32) (a3 : Int32), ∃ (r : Int32) (z1 : AH) (M' : SV), fX9_fits 0 a1 a2 a3 z = some (r, z1) ∧ InvM Wc z1 M ρM ∧ gX10_fits a1 a2 a3 M = some (r, M')
theorem st_fits {Wc : WC} (H : Qu_fits Wc) : St_fits (Inv Wc) 0 89 := by
  rintro z ⟨M, ρM, hI⟩ a1 a2 a3
  obtain ⟨r, z1, M', h1, hI1, h4⟩ := H z M ρM hI a1 a2 a3
  have h2 := hI1.2.1
  have h3 := hI1.1
  have h5 := hI1.model (pX10_fits h4)
  have e := eX10_fits (a := 89) (ρ := ρM) (z := z1) (by rw [s9]; omega) a1 a2 a3 M
  rw [wr_id h2, h4] at e
  exact ⟨r, z1, _, h1, e, M', ρM, h5⟩
def Qu_fact (Wc : WC) : Prop := ∀ (z : AH) (M : SV) (ρM : RV), InvM Wc z M ρM → ∀ (a1 : Int32) (a2 : Int32) (a3 : Int32), ∃ (r : Int32) (M' : SV), fX9_fact 0 a1 a2 a3 z = some r ∧ gX10_fact a1 a2 a3 M = some (r, M')
theorem st_fact {Wc : WC} (H : Qu_fact Wc) : St_fact (Inv Wc) 0 89 := by
  rintro z ⟨M, ρM, hI⟩ a1 a2 a3
  obtain ⟨r, M', h1, h4⟩ := H z M ρM hI a1 a2 a3
  have hI1 := hI
  have h2 := hI1.2.1
  have h3 := hI1.1
  have h5 := hI1.model (pX10_fact h4)
  have e := eX10_fact (a := 89) (ρ := ρM) (z := z) (by rw [s9]; omega) a1 a2 a3 M
  rw [wr_id h2, h4] at e
  exact ⟨r, _, h1, e, M', ρM, h5⟩
def Qu_words (Wc : WC) : Prop := ∀ (z : AH) (M : SV) (ρM : RV), InvM Wc z M ρM → ∀ (a1 : Int32) (a2 : Int32), ∃ (r : Int32) (M' : SV), fX9_words 0 a1 a2 z = some r ∧ gX10_words a1 a2 M = some (r, M')
theorem st_words {Wc : WC} (H : Qu_words Wc) : St_words (Inv Wc) 0 89 := by
  rintro z ⟨M, ρM, hI⟩ a1 a2
  obtain ⟨r, M', h1, h4⟩ := H z M ρM hI a1 a2
  have hI1 := hI
  have h2 := hI1.2.1
  have h3 := hI1.1
  have h5 := hI1.model (pX10_words h4)
  have e := eX10_words (a := 89) (ρ := ρM) (z := z) (by rw [s9]; omega) a1 a2 M
  rw [wr_id h2, h4] at e
  exact ⟨r, _, h1, e, M', ρM, h5⟩
def Qu_drawn (Wc : WC) : Prop := ∀ (z : AH) (M : SV) (ρM : RV), InvM Wc z M ρM → ∀ (a1 : Int32) (a2 : Int32) (a3 : Int32) (a4 : Int32), ∃ (r : Int32) (z1 : AH) (M' : SV), fX9_drawn 0 a1 a2 a3 a4 z = some (r, z1) ∧ InvM Wc z1 M ρM ∧ gX10_drawn a1 a2 a3 a4 M = some (r, M')
theorem st_drawn {Wc : WC} (H : Qu_drawn Wc) : St_drawn (Inv Wc) 0 89 := by
  rintro z ⟨M, ρM, hI⟩ a1 a2 a3 a4
  obtain ⟨r, z1, M', h1, hI1, h4⟩ := H z M ρM hI a1 a2 a3 a4
  have h2 := hI1.2.1
  have h3 := hI1.1
  have h5 := hI1.model (pX10_drawn h4)
  have e := eX10_drawn (a := 89) (ρ := ρM) (z := z1) (by rw [s9]; omega) a1 a2 a3 a4 M
  rw [wr_id h2, h4] at e
  exact ⟨r, z1, _, h1, e, M', ρM, h5⟩
def Qu_need (Wc : WC) : Prop := ∀ (z : AH) (M : SV) (ρM : RV), InvM Wc z M ρM → ∀ (a1 : Int32) (a2 : Int32) (a3 : Int32), ∃ (r : Int32) (z1 : AH) (M' : SV), fX9_need 0 a1 a2 a3 z = some (r, z1) ∧ InvM Wc z1 M ρM ∧ gX10_need a1 a2 a3 M = some (r, M')
theorem st_need {Wc : WC} (H : Qu_need Wc) : St_need (Inv Wc) 0 89 := by
  rintro z ⟨M, ρM, hI⟩ a1 a2 a3
  obtain ⟨r, z1, M', h1, hI1, h4⟩ := H z M ρM hI a1 a2 a3
  have h2 := hI1.2.1
  have h3 := hI1.1
  have h5 := hI1.model (pX10_need h4)
  have e := eX10_need (a := 89) (ρ := ρM) (z := z1) (by rw [s9]; omega) a1 a2 a3 M
  rw [wr_id h2, h4] at e
  exact ⟨r, z1, _, h1, e, M', ρM, h5⟩
def Qu_keystone (Wc : WC) : Prop := ∀ (z : AH) (M : SV) (ρM : RV), InvM Wc z M ρM → ∀ (a1 : Int32) (a2 : Int32), (a2 = 0 ∨ a2 = 1) → ∃ (r : Int32) (z1 : AH) (M' : SV), fX9_keystone 0 a1 a2 z = some (r, z1) ∧ InvM Wc z1 M ρM ∧ gX10_keystone a1 a2 M = some (r, M')
theorem st_keystone {Wc : WC} (H : Qu_keystone Wc) : St_keystone (Inv Wc) 0 89 := by
  rintro z ⟨M, ρM, hI⟩ a1 a2 h_a2
  obtain ⟨r, z1, M', h1, hI1, h4⟩ := H z M ρM hI a1 a2 h_a2
  have h2 := hI1.2.1
  have h3 := hI1.1
  have h5 := hI1.model (pX10_keystone h4)
  have e := eX10_keystone (a := 89) (ρ := ρM) (z := z1) (by rw [s9]; omega) a1 a2 M
  rw [wr_id h2, h4] at e
  exact ⟨r, z1, _, h1, e, M', ρM, h5⟩
def Qu_height (Wc : WC) : Prop := ∀ (z : AH) (M : SV) (ρM : RV), InvM Wc z M ρM → ∀ (a1 : Int32) (a2 : Int32), ∃ (r : Int32) (z1 : AH) (M' : SV), fX9_height 0 a1 a2 z = some (r, z1) ∧ InvM Wc z1 M ρM ∧ gX10_height a1 a2 M = some (r, M')
theorem st_height {Wc : WC} (H : Qu_height Wc) : St_height (Inv Wc) 0 89 := by
  rintro z ⟨M, ρM, hI⟩ a1 a2
  obtain ⟨r, z1, M', h1, hI1, h4⟩ := H z M ρM hI a1 a2
  have h2 := hI1.2.1
  have h3 := hI1.1
  have h5 := hI1.model (pX10_height h4)
  have e := eX10_height (a := 89) (ρ := ρM) (z := z1) (by rw [s9]; omega) a1 a2 M
  rw [wr_id h2, h4] at e
  exact ⟨r, z1, _, h1, e, M', ρM, h5⟩
def Qu_meet (Wc : WC) : Prop := ∀ (z : AH) (M : SV) (ρM : RV), InvM Wc z M ρM → ∀ (a1 : Int32) (a2 : Int32) (a3 : Int32), ∃ (r : Int32) (z1 : AH) (M' : SV), fX9_meet 0 a1 a2 a3 z = some (r, z1) ∧ InvM Wc z1 M ρM ∧ gX10_meet a1 a2 a3 M = some (r, M')
theorem st_meet {Wc : WC} (H : Qu_meet Wc) : St_meet (Inv Wc) 0 89 := by
  rintro z ⟨M, ρM, hI⟩ a1 a2 a3
  obtain ⟨r, z1, M', h1, hI1, h4⟩ := H z M ρM hI a1 a2 a3
  have h2 := hI1.2.1
  have h3 := hI1.1
  have h5 := hI1.model (pX10_meet h4)
  have e := eX10_meet (a := 89) (ρ := ρM) (z := z1) (by rw [s9]; omega) a1 a2 a3 M
  rw [wr_id h2, h4] at e
  exact ⟨r, z1, _, h1, e, M', ρM, h5⟩
def Qu_after (Wc : WC) : Prop := ∀ (z : AH) (M : SV) (ρM : RV), InvM Wc z M ρM → ∀ (a1 : Int32) (a2 : Int32) (a3 : Int32), ∃ (r : Int32) (z1 : AH) (M' : SV), fX9_after 0 a1 a2 a3 z = some (r, z1) ∧ InvM Wc z1 M ρM ∧ gX10_after a1 a2 a3 M = some (r, M')
theorem st_after {Wc : WC} (H : Qu_after Wc) : St_after (Inv Wc) 0 89 := by
  rintro z ⟨M, ρM, hI⟩ a1 a2 a3
  obtain ⟨r, z1, M', h1, hI1, h4⟩ := H z M ρM hI a1 a2 a3
  have h2 := hI1.2.1
  have h3 := hI1.1
  have h5 := hI1.model (pX10_after h4)
  have e := eX10_after (a := 89) (ρ := ρM) (z := z1) (by rw [s9]; omega) a1 a2 a3 M
  rw [wr_id h2, h4] at e
  exact ⟨r, z1, _, h1, e, M', ρM, h5⟩
def Qu_wrong (Wc : WC) : Prop := ∀ (z : AH) (M : SV) (ρM : RV), InvM Wc z M ρM → ∀ (a1 : Int32) (a2 : Int32) (a3 : Int32), (a3 = 0 ∨ a3 = 1) → ∃ (r : Int32) (z1 : AH) (M' : SV), fX9_wrong 0 a1 a2 a3 z = some (r, z1) ∧ InvM Wc z1 M ρM ∧ gX10_wrong a1 a2 a3 M = some (r, M')
theorem st_wrong {Wc : WC} (H : Qu_wrong Wc) : St_wrong (Inv Wc) 0 89 := by
  rintro z ⟨M, ρM, hI⟩ a1 a2 a3 h_a3
  obtain ⟨r, z1, M', h1, hI1, h4⟩ := H z M ρM hI a1 a2 a3 h_a3
  have h2 := hI1.2.1
  have h3 := hI1.1
  have h5 := hI1.model (pX10_wrong h4)
  have e := eX10_wrong (a := 89) (ρ := ρM) (z := z1) (by rw [s9]; omega) a1 a2 a3 M
  rw [wr_id h2, h4] at e
  exact ⟨r, z1, _, h1, e, M', ρM, h5⟩
def Qu_tell (Wc : WC) : Prop := ∀ (z : AH) (M : SV) (ρM : RV), InvM Wc z M ρM → ∀ (a1 : Int32), ∃ (r : Int32) (M' : SV), fX9_tell 0 a1 z = some r ∧ gX10_tell a1 M = some (r, M')
theorem st_tell {Wc : WC} (H : Qu_tell Wc) : St_tell (Inv Wc) 0 89 := by
  rintro z ⟨M, ρM, hI⟩ a1
  obtain ⟨r, M', h1, h4⟩ := H z M ρM hI a1
  have hI1 := hI
  have h2 := hI1.2.1
  have h3 := hI1.1
  have h5 := hI1.model (pX10_tell h4)
  have e := eX10_tell (a := 89) (ρ := ρM) (z := z) (by rw [s9]; omega) a1 M
  rw [wr_id h2, h4] at e
  exact ⟨r, _, h1, e, M', ρM, h5⟩
def Qu_count (Wc : WC) : Prop := ∀ (z : AH) (M : SV) (ρM : RV), InvM Wc z M ρM → ∀ (a1 : Int32), ∃ (r : Int32) (M' : SV), fX9_count 0 a1 z = some r ∧ gX10_count a1 M = some (r, M')
theorem st_count {Wc : WC} (H : Qu_count Wc) : St_count (Inv Wc) 0 89 := by
  rintro z ⟨M, ρM, hI⟩ a1
  obtain ⟨r, M', h1, h4⟩ := H z M ρM hI a1
  have hI1 := hI
  have h2 := hI1.2.1
  have h3 := hI1.1
  have h5 := hI1.model (pX10_count h4)
  have e := eX10_count (a := 89) (ρ := ρM) (z := z) (by rw [s9]; omega) a1 M
  rw [wr_id h2, h4] at e
  exact ⟨r, _, h1, e, M', ρM, h5⟩
def Qu_image (Wc : WC) : Prop := ∀ (z : AH) (M : SV) (ρM : RV), InvM Wc z M ρM → ∀ (a1 : Int32), ∃ (r : Int32) (z1 : AH) (M' : SV), fX9_image 0 a1 z = some (r, z1) ∧ (RD 9 89 ρM M z1 ∧ 113 ≤ z1.length) ∧ gX10_image a1 M = some (r, M') ∧ InvM Wc (wr 9 89 ρM M' z1) M' ρM
theorem st_image {Wc : WC} (H : Qu_image Wc) : St_image (Inv Wc) 0 89 := by
  rintro z ⟨M, ρM, hI⟩ a1
  obtain ⟨r, z1, M', h1, ⟨h2, h3⟩, h4, h5⟩ := H z M ρM hI a1
  have e := eX10_image (a := 89) (ρ := ρM) (z := z1) (by rw [s9]; omega) a1 M
  rw [wr_id h2, h4] at e
  exact ⟨r, z1, _, h1, e, M', ρM, h5⟩
def Qu_again (Wc : WC) : Prop := ∀ (z : AH) (M : SV) (ρM : RV), InvM Wc z M ρM → ∀ (a1 : Int32), ∃ (r : Int32) (z1 : AH) (M' : SV), fX9_again 0 a1 z = some (r, z1) ∧ (RD 9 89 ρM M z1 ∧ 113 ≤ z1.length) ∧ gX10_again a1 M = some (r, M') ∧ InvM Wc (wr 9 89 ρM M' z1) M' ρM
theorem st_again {Wc : WC} (H : Qu_again Wc) : St_again (Inv Wc) 0 89 := by
  rintro z ⟨M, ρM, hI⟩ a1
  obtain ⟨r, z1, M', h1, ⟨h2, h3⟩, h4, h5⟩ := H z M ρM hI a1
  have e := eX10_again (a := 89) (ρ := ρM) (z := z1) (by rw [s9]; omega) a1 M
  rw [wr_id h2, h4] at e
  exact ⟨r, z1, _, h1, e, M', ρM, h5⟩
