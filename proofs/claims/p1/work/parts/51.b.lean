set_option maxRecDepth 100000 in
theorem rn_12 : rn_x (nat_lit 644) [] (nat_lit 628) = true := by decide +kernel
set_option maxRecDepth 100000 in
theorem rn_1 : rn_x (nat_lit 4837) [] (nat_lit 285) = true := by decide +kernel
