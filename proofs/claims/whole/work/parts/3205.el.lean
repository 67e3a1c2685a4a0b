set_option maxRecDepth 100000 in
theorem nr_s23 : ∀ j, j < strL.getD 3 0 → Cond.eq (.elem (.field (.string RX4 (sCp.getD 3 0)) "java/lang/String" "value" "[B") (.int (Int32.ofNat j))) (.int ((strB.getD 3 []).getD j 0)) ∈ flatC (Jvm.Cond.and given_1 narrow_1) := by decide +kernel
