set_option maxRecDepth 100000 in
theorem rn_34 : rn_x (nat_lit 737) rn_an (nat_lit 1339) = true := by decide +kernel
set_option maxRecDepth 100000 in
theorem rn_33 : rn_x (nat_lit 5604) rn_an (nat_lit 1302) = true := by decide +kernel
