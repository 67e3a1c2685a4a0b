set_option maxRecDepth 100000 in
theorem nr_s20b : ∀ j, j < 26 → Cond.eq (.elem (.field (.string RX4 (sCp.getD 0 0)) "java/lang/String" "value" "[B") (.int (Int32.ofNat (26 + j)))) (.int ((strB.getD 0 []).getD (26 + j) 0)) ∈ flatC (Jvm.Cond.and given_1 narrow_1) := by decide +kernel
