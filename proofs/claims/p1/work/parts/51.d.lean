set_option maxRecDepth 100000 in
theorem rn_13 : rn_x (nat_lit 8693) [] (nat_lit 665) = true := by decide +kernel
