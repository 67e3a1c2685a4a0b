/-! ===== the invariant behind the constructors, and the goal of plain functions ===== -/
theorem fl_at : ∀ (L : List AH) (i j : Nat) (l : AH), L[i]? = some l → j < l.length → L.flatten[((L.take i).map List.length).sum + j]? = l[j]?
  | [], i, j, l, h, _ => by simp at h
  | a :: L, 0, j, l, h, hj => by
    have : a = l := by simpa using h
    subst this
    simp only [List.take_zero, List.map_nil, List.sum_nil, Nat.zero_add, List.flatten_cons]
    rw [List.getElem?_append_left hj]
  | a :: L, i + 1, j, l, h, hj => by
    have h' : L[i]? = some l := by simpa using h
    have ih := fl_at L i j l h' hj
    simp only [List.take_succ_cons, List.map_cons, List.sum_cons, List.flatten_cons]
    rw [Nat.add_assoc, List.getElem?_append_right (Nat.le_add_right _ _), Nat.add_sub_cancel_left]
    exact ih
theorem rd_fl {L : List AH} {c n : Nat} {ρ : RV} {S : SV} (i : Nat) (hi : L[i]? = some (ch c n ρ S)) (hn : ((L.take i).map List.length).sum = n) : RD c n ρ S L.flatten := by
  refine ⟨?_, fun d k hk h0 => ?_⟩
  · have := fl_at L i 0 _ hi (by rw [ch_len]; unfold szV; omega)
    rw [hn] at this
    exact this
  · have := fl_at L i d _ hi (by rw [ch_len]; exact rk_lt hk h0)
    rw [hn] at this
    rw [this]
    obtain ⟨d, rfl⟩ : ∃ q, d = q + 1 := ⟨d - 1, by omega⟩
    show ((rkl c).map (rowZ c ρ S))[d]? = _
    rw [List.getElem?_map, show (rkl c)[d]? = some k from hk]; rfl
theorem at_fl {L : List AH} {n : Nat} {e : AE} (i : Nat) (hi : L[i]? = some [e]) (hn : ((L.take i).map List.length).sum = n) : L.flatten[n]? = some e := by
  have := fl_at L i 0 _ hi (by simp)
  rw [hn] at this
  exact this
def LL (f' : Nat → Int32) : List AH := [[.inr (.inr (8, [.ref 16, .ref 21, .ref 37, .ref 38, .ref 44, .ref 49, .ref 83, .ref 87]))], ch 0 1 ρz (Sc0 f'), ch 6 16 ρz St6, [.inr (.inl (6, 3, rw3))], ch 6 22 ρz St6, ch 6 27 ρz St6, ch 6 32 ρz St6, [.inl (2, 3, fun _ => 0)], ch 3 38 ρz Sz, ch 5 44 (ρs 1) Sz, [.inr (.inr (7, [.ref 50, .ref 76, .ref 81, .ref 82, .null, .int 0, .int 0, .int 0]))], [.inr (.inl (5, 5, rw5 49))], ch 5 51 (ρs 1) Sz, ch 5 56 (ρs 1) Sz, ch 5 61 (ρs 1) Sz, ch 5 66 (ρs 1) Sz, ch 5 71 (ρs 1) Sz, ch 5 76 (ρs 1) Sz, [.inl (0, 4, fun _ => 0)], [.inl (0, 4, fun _ => 0)], ch 1 83 ρz Sz, ch 2 87 ρz Sz, ch 9 89 ρz S9z]
theorem tr_start {s : Nat} {z : AH} (hs : s < 4) : TR s St6 ρz S9z z := by
  have r0 : ∀ m : Int, 0 ≤ m → rng 0 0 m := fun m hm => ⟨by decide, hm⟩
  have z0 : (0 : Int32).toInt = 0 := rfl
  refine ⟨fun k hk => ⟨rfl, rfl⟩, ⟨rfl, r0 600 (by decide), rfl, fun h => ?_⟩, fun k hk => ⟨rfl, r0 2 (by decide)⟩, fun i hi => ?_, fun q q1 q2 i hi => ?_, fun i hi c hc => ?_, fun i hi c hc => ?_⟩
  · rcases h with rfl | h
    · rfl
    · exact absurd rfl h
  · have : (i : Int) < 0 := hi
    omega
  · have : (i : Int) < (0 : Int32).toInt := by
      have e : St6.2.1 4 q = 0 := rfl
      rw [e] at hi; exact hi
    rw [z0] at this; omega
  · cases hc
  · cases hc
theorem inv_start (f' : Nat → Int32) : InvM Wcc (LL f').flatten S9z ρz := by
  have h9 : RD 9 89 ρz S9z (LL f').flatten := (rd_fl 22 rfl (by simp only [LL, List.take_succ_cons, List.take_zero, List.map_cons, List.map_nil, List.sum_cons, List.sum_nil, List.length_cons, List.length_nil, ch_len, s0v, s6, s3, s5, s1, s2]; rfl))
  have hl : 113 ≤ (LL f').flatten.length := (List.getElem?_eq_some_iff.mp (h9.2 23 55 rfl (by omega))).1
  refine ⟨hl, h9, fun s hs => ?_, ⟨(at_fl 0 rfl (by simp (config := { decide := true }) only [LL, List.take_succ_cons, List.take_zero, List.map_cons, List.map_nil, List.sum_cons, List.sum_nil, List.length_cons, List.length_nil, ch_len, s0v, s6, s3, s5, s1, s2])), ⟨rw3, (at_fl 3 rfl (by simp (config := { decide := true }) only [LL, List.take_succ_cons, List.take_zero, List.map_cons, List.map_nil, List.sum_cons, List.sum_nil, List.length_cons, List.length_nil, ch_len, s0v, s6, s3, s5, s1, s2])), rfl, rfl, rfl⟩, ⟨_, _, (rd_fl 8 rfl (by simp only [LL, List.take_succ_cons, List.take_zero, List.map_cons, List.map_nil, List.sum_cons, List.sum_nil, List.length_cons, List.length_nil, ch_len, s0v, s6, s3, s5, s1, s2]; rfl))⟩, ⟨_, _, (rd_fl 9 rfl (by simp only [LL, List.take_succ_cons, List.take_zero, List.map_cons, List.map_nil, List.sum_cons, List.sum_nil, List.length_cons, List.length_nil, ch_len, s0v, s6, s3, s5, s1, s2]; rfl))⟩, ⟨_, _, (rd_fl 20 rfl (by simp only [LL, List.take_succ_cons, List.take_zero, List.map_cons, List.map_nil, List.sum_cons, List.sum_nil, List.length_cons, List.length_nil, ch_len, s0v, s6, s3, s5, s1, s2]; rfl))⟩, ⟨_, _, (rd_fl 21 rfl (by simp only [LL, List.take_succ_cons, List.take_zero, List.map_cons, List.map_nil, List.sum_cons, List.sum_nil, List.length_cons, List.length_nil, ch_len, s0v, s6, s3, s5, s1, s2]; rfl))⟩⟩, ⟨fun _ => 0, (at_fl 7 rfl (by simp (config := { decide := true }) only [LL, List.take_succ_cons, List.take_zero, List.map_cons, List.map_nil, List.sum_cons, List.sum_nil, List.length_cons, List.length_nil, ch_len, s0v, s6, s3, s5, s1, s2])), fun k hk => ⟨rfl, Or.inl rfl⟩⟩, ⟨none, 0, 0, 0, fun _ => 0, (at_fl 10 rfl (by simp (config := { decide := true }) only [LL, List.take_succ_cons, List.take_zero, List.map_cons, List.map_nil, List.sum_cons, List.sum_nil, List.length_cons, List.length_nil, ch_len, s0v, s6, s3, s5, s1, s2])), ⟨rw5 49, (at_fl 11 rfl (by simp (config := { decide := true }) only [LL, List.take_succ_cons, List.take_zero, List.map_cons, List.map_nil, List.sum_cons, List.sum_nil, List.length_cons, List.length_nil, ch_len, s0v, s6, s3, s5, s1, s2])), fun k hk => ?_⟩, fun k hk => ?_, ⟨_, (at_fl 18 rfl (by simp (config := { decide := true }) only [LL, List.take_succ_cons, List.take_zero, List.map_cons, List.map_nil, List.sum_cons, List.sum_nil, List.length_cons, List.length_nil, ch_len, s0v, s6, s3, s5, s1, s2]))⟩, (at_fl 19 rfl (by simp (config := { decide := true }) only [LL, List.take_succ_cons, List.take_zero, List.map_cons, List.map_nil, List.sum_cons, List.sum_nil, List.length_cons, List.length_nil, ch_len, s0v, s6, s3, s5, s1, s2])), fun c hc => by cases hc⟩⟩
  · have h : RD 6 (tAd s) ρz St6 (LL f').flatten := by
      have : s = 0 ∨ s = 1 ∨ s = 2 ∨ s = 3 := by omega
      rcases this with rfl | rfl | rfl | rfl
      · exact (rd_fl 2 rfl (by simp only [LL, List.take_succ_cons, List.take_zero, List.map_cons, List.map_nil, List.sum_cons, List.sum_nil, List.length_cons, List.length_nil, ch_len, s0v, s6, s3, s5, s1, s2]; rfl))
      · exact (rd_fl 4 rfl (by simp only [LL, List.take_succ_cons, List.take_zero, List.map_cons, List.map_nil, List.sum_cons, List.sum_nil, List.length_cons, List.length_nil, ch_len, s0v, s6, s3, s5, s1, s2]; rfl))
      · exact (rd_fl 5 rfl (by simp only [LL, List.take_succ_cons, List.take_zero, List.map_cons, List.map_nil, List.sum_cons, List.sum_nil, List.length_cons, List.length_nil, ch_len, s0v, s6, s3, s5, s1, s2]; rfl))
      · exact (rd_fl 6 rfl (by simp only [LL, List.take_succ_cons, List.take_zero, List.map_cons, List.map_nil, List.sum_cons, List.sum_nil, List.length_cons, List.length_nil, ch_len, s0v, s6, s3, s5, s1, s2]; rfl))
    exact ⟨St6, ρz, h, tr_start hs⟩
  · have : k = 0 ∨ k = 1 ∨ k = 2 ∨ k = 3 ∨ k = 4 := by omega
    rcases this with rfl | rfl | rfl | rfl | rfl <;> rfl
  · refine ⟨ρs 1, Sz, ?_⟩
    have : k = 0 ∨ k = 1 ∨ k = 2 ∨ k = 3 ∨ k = 4 ∨ k = 5 := by omega
    rcases this with rfl | rfl | rfl | rfl | rfl | rfl
    · exact (rd_fl 12 rfl (by simp only [LL, List.take_succ_cons, List.take_zero, List.map_cons, List.map_nil, List.sum_cons, List.sum_nil, List.length_cons, List.length_nil, ch_len, s0v, s6, s3, s5, s1, s2]; rfl))
    · exact (rd_fl 13 rfl (by simp only [LL, List.take_succ_cons, List.take_zero, List.map_cons, List.map_nil, List.sum_cons, List.sum_nil, List.length_cons, List.length_nil, ch_len, s0v, s6, s3, s5, s1, s2]; rfl))
    · exact (rd_fl 14 rfl (by simp only [LL, List.take_succ_cons, List.take_zero, List.map_cons, List.map_nil, List.sum_cons, List.sum_nil, List.length_cons, List.length_nil, ch_len, s0v, s6, s3, s5, s1, s2]; rfl))
    · exact (rd_fl 15 rfl (by simp only [LL, List.take_succ_cons, List.take_zero, List.map_cons, List.map_nil, List.sum_cons, List.sum_nil, List.length_cons, List.length_nil, ch_len, s0v, s6, s3, s5, s1, s2]; rfl))
    · exact (rd_fl 16 rfl (by simp only [LL, List.take_succ_cons, List.take_zero, List.map_cons, List.map_nil, List.sum_cons, List.sum_nil, List.length_cons, List.length_nil, ch_len, s0v, s6, s3, s5, s1, s2]; rfl))
    · exact (rd_fl 17 rfl (by simp only [LL, List.take_succ_cons, List.take_zero, List.map_cons, List.map_nil, List.sum_cons, List.sum_nil, List.length_cons, List.length_nil, ch_len, s0v, s6, s3, s5, s1, s2]; rfl))
theorem steps_all : LawSteps (Inv Wcc) 0 89 := ⟨st_feed (qu_feed Wcc), st_end (qu_end Wcc), st_text (qu_text Wcc), st_fault (qu_fault Wcc), st_country (qu_country Wcc), st_deed (qu_deed Wcc), st_till (qu_till Wcc), st_state (qu_state Wcc), st_lasts (qu_lasts Wcc), st_watch qu_watch, st_way (qu_way Wcc), st_married (qu_married Wcc), st_unhappy (qu_unhappy Wcc), st_agree (qu_agree Wcc), st_view (qu_view Wcc), st_fits (qu_fits Wcc), st_fact (qu_fact Wcc), st_words (qu_words Wcc), st_drawn (qu_drawn Wcc), st_need (qu_need Wcc), st_keystone (qu_keystone Wcc), st_height qu_height, st_meet (qu_meet Wcc), st_after (qu_after Wcc), st_wrong (qu_wrong Wcc), st_tell (qu_tell Wcc), st_count (qu_count Wcc), st_image (qu_image Wcc), st_again (qu_again Wcc)⟩
theorem z_flat (f' : Nat → Int32) : (.inr (.inr (8, [.ref 16, .ref 21, .ref 37, .ref 38, .ref 44, .ref 49, .ref 83, .ref 87])) :: (((((((ch 0 1 ρz (Sc0 f') ++ ch 6 16 ρz St6) ++ (.inr (.inl (6, 3, rw3)) :: ((([] ++ ch 6 22 ρz St6) ++ ch 6 27 ρz St6) ++ ch 6 32 ρz St6))) ++ [.inl (2, 3, fun _ => 0)]) ++ ch 3 38 ρz Sz) ++ ch 5 44 (ρs 1) Sz) ++ wat 49 1) ++ ch 1 83 ρz Sz ++ ch 2 87 ρz Sz)) ++ ch 9 89 ρz S9z = (LL f').flatten := by
  simp only [LL, wat, List.flatten_cons, List.flatten_nil, List.append_assoc, List.cons_append, List.nil_append, List.append_nil, Nat.reduceAdd]
theorem pure_goal : PureGoal := by
  obtain ⟨f', h1⟩ := iz_pv
  have hl : ((.inr (.inr (8, [.ref 16, .ref 21, .ref 37, .ref 38, .ref 44, .ref 49, .ref 83, .ref 87])) : AE) :: (((((((ch 0 1 ρz (Sc0 f') ++ ch 6 16 ρz St6) ++ (.inr (.inl (6, 3, rw3)) :: ((([] ++ ch 6 22 ρz St6) ++ ch 6 27 ρz St6) ++ ch 6 32 ρz St6))) ++ [.inl (2, 3, fun _ => 0)]) ++ ch 3 38 ρz Sz) ++ ch 5 44 (ρs 1) Sz) ++ wat 49 1) ++ ch 1 83 ρz Sz ++ ch 2 87 ρz Sz)).length = 89 := by
    simp only [List.length_append, List.length_cons, List.length_nil, ch_len, s0v, s6, s3, s5, s1, s2, wat_len]
  have hf := z_flat f'
  generalize (.inr (.inr (8, [.ref 16, .ref 21, .ref 37, .ref 38, .ref 44, .ref 49, .ref 83, .ref 87])) : AE) :: _ = z1 at h1 hl hf
  refine ⟨Inv Wcc, z1, (LL f').flatten, h1, ?_, ⟨S9z, ρz, inv_start f'⟩, ?_⟩
  · rw [hl, iz_ref hl, hf]
  · rw [hl]; exact steps_all
