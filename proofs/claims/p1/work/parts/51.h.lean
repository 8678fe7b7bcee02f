set_option maxRecDepth 100000 in
theorem rn_14 : rn_x (nat_lit 2835) rn_an (nat_lit 678) = true := by decide +kernel
