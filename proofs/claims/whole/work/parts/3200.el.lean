set_option maxRecDepth 100000 in
theorem nr_el : ∀ i, i < 6 → ∀ j, j < sLen i → Cond.eq (.elem (.static RX4 (sNam i) "[I") (.int (Int32.ofNat j))) (.int (sVal i j)) ∈ flatC (Jvm.Cond.and given_1 narrow_1) := by decide +kernel
