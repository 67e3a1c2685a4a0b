set_option maxHeartbeats 4000000 in
set_option maxRecDepth 100000 in
/-- the law, from its entry, out of what the plain functions must answer -/
theorem start_of (hPG : PureGoal) {p : Program} {e : Env} {s : State} {m : MethodId} {below : List Frame} {meth : Method} {c : Code} (l : Launch) {b L : Nat} {xs : Nat → Int32} (hL : L ≤ 3072) (C0 : lw_At p s m meth c b L xs) : W p l e room_1 s m #[Value.ref b] below meth c s.heap [] 0 0 (lw_Z below #[Value.ref b] s) (entryFrame m ([Value.ref b] : List Value).toArray 4) := by
  obtain ⟨hx, hb, hr, hml, hown, hts, hX, hbl, hlocks, hgv⟩ := id C0
  obtain ⟨G, hgB, hK⟩ := lw_world hts hgv
  have C : Cx p m c code 4 s #[Value.ref b] RLw G := ⟨hx, hb, hml, hown, fun w hw => hts w (List.mem_filter.mp hw).1, hK, fun q hq => by show gB G ≤ q; rw [hgB]; exact hq⟩
  have hbA : ¬ AA G b := by show ¬ gB G ≤ b; rw [hgB]; omega
  have hW : Wb G [] s s.heap [] := ⟨⟨fun k q h => by simp [wsZ] at h, by rw [hgB]; rfl⟩, va_S.rf⟩
  have hl := lv_entry ([.ref b]) (n := 4) (Nat.le_of_ble_eq_true rfl)
  rw [lg_entry_eq]
  generalize (lg_sl ([.ref b]) ++ List.replicate (4 - (lg_sl ([.ref b])).length) Slot.unset).toArray = ls at hl ⊢
  have hl : lv_has ls 4 [(0, .ref b)] := hl
  obtain ⟨Inv, z1, z2, h1, h2, hI, hS⟩ := hPG
  refine wz_newK (a1 := 0) (z1 := [.inr (.inr (8, newF 8))]) (c' := 1) (s' := 8) rfl rfl ⟨_, rfl⟩ ⟨tw 138 (by decide +kernel) rfl, tw 139 (by decide +kernel) rfl, tw 120 (by decide +kernel) rfl⟩ C hW ⟨Nat.le_of_ble_eq_true rfl, Nat.le_of_ble_eq_true rfl⟩ rfl rfl dL_law_0 (fun H hW => ?_)
  refine lv_dup hx hb dL_law_3 rfl ?_
  refine wz_rV (c' := 89) (s' := 4060) hW (wz_runI (rest := [.ref (gB G + 0)]) C hW lIL_9 (ctX9_init l G 0 _ h1) ⟨⟨rfl, rfl⟩, Nat.le_of_ble_eq_true rfl, Nat.le_of_ble_eq_true rfl⟩ rfl hl.1 rfl (Nat.le_of_ble_eq_true rfl) dL_law_4 ⟨Nat.le_of_ble_eq_true rfl, Nat.le_of_ble_eq_true rfl⟩) rfl rfl (fun H locs hW => ?_)
  refine lv_astore_n (lv' := [(1, .ref (gB G + 0)), (0, .ref b)]) hx hb dL_law_7 rfl hl (by decide) rfl (fun ls hl => ?_)
  refine wz_newK (a1 := z1.length) (z1 := z1 ++ [.inr (.inr (9, newF 9))]) (c' := 90) (s' := 4116) rfl rfl ⟨_, rfl⟩ ⟨tw 1193 (by decide +kernel) rfl, tw 1194 (by decide +kernel) rfl, tw 128 (by decide +kernel) rfl⟩ C hW ⟨Nat.le_of_ble_eq_true rfl, Nat.le_of_ble_eq_true rfl⟩ rfl rfl dL_law_8 (fun H hW => ?_)
  refine lv_dup hx hb dL_law_11 rfl ?_
  refine wz_rV (c' := 113) (s' := 9212) hW (wz_runI (rest := [.ref (gB G + z1.length)]) C hW lIL_12 (ctX10_init l G z1.length _ h2) ⟨⟨rfl, rfl⟩, Nat.le_of_ble_eq_true rfl, Nat.le_of_ble_eq_true rfl⟩ rfl hl.1 rfl (Nat.le_of_ble_eq_true rfl) dL_law_12 ⟨Nat.le_of_ble_eq_true rfl, Nat.le_of_ble_eq_true rfl⟩) rfl rfl (fun H locs hW => ?_)
  refine lv_astore_n (lv' := [(2, .ref (gB G + z1.length)), (1, .ref (gB G + 0)), (0, .ref b)]) hx hb dL_law_15 rfl hl (by decide) rfl (fun ls hl => ?_)
  refine lv_iconst (v := 0) hx hb dL_law_16 (by decide) ?_
  refine lv_istore_n (lv' := [(3, .int 0), (2, .ref (gB G + z1.length)), (1, .ref (gB G + 0)), (0, .ref b)]) hx hb dL_law_17 rfl hl (by decide) rfl (fun ls hl => ?_)
  exact law_loop C hX hbl hbA hgB hL hr hlocks hS (L + 1) 0 z2 _ _ _ 0 _ _ rfl ⟨by omega, by omega⟩ hI hW (lv_sub hl [3, 2, 1, 0] rfl) ⟨by decide, rfl, rfl⟩
