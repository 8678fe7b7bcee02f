set_option maxRecDepth 100000 in
theorem rn_26 : rn_x (nat_lit 3894) rn_an (nat_lit 1063) = true := by decide +kernel
