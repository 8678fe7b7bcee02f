set_option maxRecDepth 20000 in
theorem dkL_law_0 : pr_dk cL_law ((pr_dr (ab_lvs tL_law) 0).take 60) := by unfold pr_dk; decide +kernel
set_option maxRecDepth 20000 in
theorem dkL_law_1 : pr_dk cL_law ((pr_dr (ab_lvs tL_law) 1).take 60) := by unfold pr_dk; decide +kernel
set_option maxRecDepth 20000 in
theorem dkL_law_2 : pr_dk cL_law ((pr_dr (ab_lvs tL_law) 2).take 60) := by unfold pr_dk; decide +kernel
set_option maxRecDepth 20000 in
theorem dkL_law_3 : pr_dk cL_law ((pr_dr (ab_lvs tL_law) 3).take 60) := by unfold pr_dk; decide +kernel
set_option maxRecDepth 20000 in
theorem dkL_law_4 : pr_dk cL_law ((pr_dr (ab_lvs tL_law) 4).take 60) := by unfold pr_dk; decide +kernel
set_option maxRecDepth 20000 in
theorem dkL_law_5 : pr_dk cL_law ((pr_dr (ab_lvs tL_law) 5).take 60) := by unfold pr_dk; decide +kernel
set_option maxRecDepth 20000 in
theorem dkL_law_6 : pr_dk cL_law ((pr_dr (ab_lvs tL_law) 6).take 60) := by unfold pr_dk; decide +kernel
set_option maxRecDepth 20000 in
theorem dkL_law_7 : pr_dk cL_law ((pr_dr (ab_lvs tL_law) 7).take 60) := by unfold pr_dk; decide +kernel
set_option maxRecDepth 20000 in
theorem dkL_law_8 : pr_dk cL_law ((pr_dr (ab_lvs tL_law) 8).take 60) := by unfold pr_dk; decide +kernel
set_option maxRecDepth 20000 in
theorem dkL_law_9 : pr_dk cL_law ((pr_dr (ab_lvs tL_law) 9).take 60) := by unfold pr_dk; decide +kernel
set_option maxRecDepth 20000 in
theorem dkL_law_10 : pr_dk cL_law ((pr_dr (ab_lvs tL_law) 10).take 60) := by unfold pr_dk; decide +kernel
set_option maxRecDepth 20000 in
theorem dkL_law_11 : pr_dk cL_law ((pr_dr (ab_lvs tL_law) 11).take 60) := by unfold pr_dk; decide +kernel
set_option maxRecDepth 20000 in
theorem dkL_law_12 : pr_dk cL_law ((pr_dr (ab_lvs tL_law) 12).take 60) := by unfold pr_dk; decide +kernel
set_option maxRecDepth 20000 in
theorem dkL_law_13 : pr_dk cL_law ((pr_dr (ab_lvs tL_law) 13).take 60) := by unfold pr_dk; decide +kernel
set_option maxRecDepth 20000 in
theorem dkL_law_14 : pr_dk cL_law ((pr_dr (ab_lvs tL_law) 14).take 60) := by unfold pr_dk; decide +kernel
set_option maxRecDepth 20000 in
theorem dkL_law_15 : pr_dk cL_law (pr_dr (ab_lvs tL_law) 15) := by unfold pr_dk; decide +kernel
theorem dkL_law : pr_dk cL_law (ab_lvs tL_law) := (pr_dk_cut 0 dkL_law_0 (pr_dk_cut 1 dkL_law_1 (pr_dk_cut 2 dkL_law_2 (pr_dk_cut 3 dkL_law_3 (pr_dk_cut 4 dkL_law_4 (pr_dk_cut 5 dkL_law_5 (pr_dk_cut 6 dkL_law_6 (pr_dk_cut 7 dkL_law_7 (pr_dk_cut 8 dkL_law_8 (pr_dk_cut 9 dkL_law_9 (pr_dk_cut 10 dkL_law_10 (pr_dk_cut 11 dkL_law_11 (pr_dk_cut 12 dkL_law_12 (pr_dk_cut 13 dkL_law_13 (pr_dk_cut 14 dkL_law_14 dkL_law_15)))))))))))))))
set_option maxRecDepth 20000 in
theorem dkX0_init : pr_dk cX0_init (ab_lvs tX0_init) := by unfold pr_dk; decide +kernel
set_option maxRecDepth 20000 in
theorem dkX0_wipe : pr_dk cX0_wipe (ab_lvs tX0_wipe) := by unfold pr_dk; decide +kernel
set_option maxRecDepth 20000 in
theorem dkX0_add : pr_dk cX0_add (ab_lvs tX0_add) := by unfold pr_dk; decide +kernel
set_option maxRecDepth 20000 in
theorem dkX0_work : pr_dk cX0_work (ab_lvs tX0_work) := by unfold pr_dk; decide +kernel
set_option maxRecDepth 20000 in
theorem dkX0_apply : pr_dk cX0_apply (ab_lvs tX0_apply) := by unfold pr_dk; decide +kernel
set_option maxRecDepth 20000 in
theorem dkX1_init : pr_dk cX1_init (ab_lvs tX1_init) := by unfold pr_dk; decide +kernel
set_option maxRecDepth 20000 in
theorem dkX1_start : pr_dk cX1_start (ab_lvs tX1_start) := by unfold pr_dk; decide +kernel
