set_option maxRecDepth 100000 in
theorem rn_15 : rn_x (nat_lit 5867) [] (nat_lit 728) = true := by decide +kernel
