set_option maxRecDepth 100000 in
theorem rn_37 : rn_x (nat_lit 48) [] (nat_lit 1414) = true := by decide +kernel
set_option maxRecDepth 100000 in
theorem rn_10 : rn_x (nat_lit 49) [] (nat_lit 590) = true := by decide +kernel
set_option maxRecDepth 100000 in
theorem rn_35 : rn_x (nat_lit 49) [] (nat_lit 1388) = true := by decide +kernel
set_option maxRecDepth 100000 in
theorem rn_22 : rn_x (nat_lit 54) [] (nat_lit 939) = true := by decide +kernel
set_option maxRecDepth 100000 in
theorem rn_3 : rn_x (nat_lit 76) [] (nat_lit 335) = true := by decide +kernel
set_option maxRecDepth 100000 in
theorem rn_30 : rn_x (nat_lit 70) [] (nat_lit 1227) = true := by decide +kernel
set_option maxRecDepth 100000 in
theorem rn_28 : rn_x (nat_lit 77) [] (nat_lit 1137) = true := by decide +kernel
set_option maxRecDepth 100000 in
theorem rn_32 : rn_x (nat_lit 77) [] (nat_lit 1277) = true := by decide +kernel
set_option maxRecDepth 100000 in
theorem rn_4 : rn_x (nat_lit 91) [] (nat_lit 360) = true := by decide +kernel
set_option maxRecDepth 100000 in
theorem rn_5 : rn_x (nat_lit 87) [] (nat_lit 428) = true := by decide +kernel
set_option maxRecDepth 100000 in
theorem rn_6 : rn_x (nat_lit 87) [] (nat_lit 465) = true := by decide +kernel
set_option maxRecDepth 100000 in
theorem rn_23 : rn_x (nat_lit 87) [] (nat_lit 952) = true := by decide +kernel
set_option maxRecDepth 100000 in
theorem rn_27 : rn_x (nat_lit 87) [] (nat_lit 1100) = true := by decide +kernel
set_option maxRecDepth 100000 in
theorem rn_19 : rn_x (nat_lit 101) [] (nat_lit 828) = true := by decide +kernel
set_option maxRecDepth 100000 in
theorem rn_2 : rn_x (nat_lit 66) [] (nat_lit 310) = true := by decide +kernel
set_option maxRecDepth 100000 in
theorem rn_20 : rn_x (nat_lit 111) [] (nat_lit 865) = true := by decide +kernel
set_option maxRecDepth 100000 in
theorem rn_18 : rn_x (nat_lit 90) [] (nat_lit 803) = true := by decide +kernel
set_option maxRecDepth 100000 in
theorem rn_31 : rn_x (nat_lit 90) [] (nat_lit 1252) = true := by decide +kernel
set_option maxRecDepth 100000 in
theorem rn_24 : rn_x (nat_lit 105) [] (nat_lit 989) = true := by decide +kernel
set_option maxRecDepth 100000 in
theorem rn_9 : rn_x (nat_lit 94) [] (nat_lit 565) = true := by decide +kernel
set_option maxRecDepth 100000 in
theorem rn_21 : rn_x (nat_lit 178) rn_an (nat_lit 914) = true := by decide +kernel
set_option maxRecDepth 100000 in
theorem rn_36 : rn_x (nat_lit 446) [] (nat_lit 1401) = true := by decide +kernel
set_option maxRecDepth 100000 in
theorem rn_8 : rn_x (nat_lit 187) [] (nat_lit 540) = true := by decide +kernel
set_option maxRecDepth 100000 in
theorem rn_11 : rn_x (nat_lit 241) rn_an (nat_lit 603) = true := by decide +kernel
set_option maxRecDepth 100000 in
theorem rn_7 : rn_x (nat_lit 135) [] (nat_lit 502) = true := by decide +kernel
set_option maxRecDepth 100000 in
theorem rn_38 : rn_x (nat_lit 73) [] (nat_lit 1427) = true := by decide +kernel
set_option maxRecDepth 100000 in
theorem rn_17 : rn_x (nat_lit 614) [] (nat_lit 790) = true := by decide +kernel
set_option maxRecDepth 100000 in
theorem rn_29 : rn_x (nat_lit 136) [] (nat_lit 1162) = true := by decide +kernel
set_option maxRecDepth 100000 in
theorem rn_0 : rn_x (nat_lit 1301) [] (nat_lit 212) = true := by decide +kernel
set_option maxRecDepth 100000 in
theorem rn_25 : rn_x (nat_lit 729) rn_an (nat_lit 1014) = true := by decide +kernel
