set_option maxRecDepth 100000 in
theorem rn_16 : rn_x (nat_lit 12823) [] (nat_lit 753) = true := by decide +kernel
