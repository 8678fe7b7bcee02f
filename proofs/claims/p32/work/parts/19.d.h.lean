set_option maxRecDepth 20000 in
theorem dkX8_fails : pr_dk cX8_fails (ab_lvs tX8_fails) := by unfold pr_dk; decide +kernel
set_option maxRecDepth 20000 in
theorem dkX8_groove : pr_dk cX8_groove (ab_lvs tX8_groove) := by unfold pr_dk; decide +kernel
set_option maxRecDepth 20000 in
theorem dkX8_scratch : pr_dk cX8_scratch (ab_lvs tX8_scratch) := by unfold pr_dk; decide +kernel
set_option maxRecDepth 20000 in
theorem dkX8_guest : pr_dk cX8_guest (ab_lvs tX8_guest) := by unfold pr_dk; decide +kernel
set_option maxRecDepth 20000 in
theorem dkX8_law : pr_dk cX8_law (ab_lvs tX8_law) := by unfold pr_dk; decide +kernel
set_option maxRecDepth 20000 in
theorem dkX8_weigh : pr_dk cX8_weigh (ab_lvs tX8_weigh) := by unfold pr_dk; decide +kernel
set_option maxRecDepth 20000 in
theorem dkX8_nudge : pr_dk cX8_nudge (ab_lvs tX8_nudge) := by unfold pr_dk; decide +kernel
set_option maxRecDepth 20000 in
theorem dkX8_anew : pr_dk cX8_anew (ab_lvs tX8_anew) := by unfold pr_dk; decide +kernel
set_option maxRecDepth 20000 in
theorem dkX8_go : pr_dk cX8_go (ab_lvs tX8_go) := by unfold pr_dk; decide +kernel
set_option maxRecDepth 20000 in
theorem dkX8_out : pr_dk cX8_out (ab_lvs tX8_out) := by unfold pr_dk; decide +kernel
set_option maxRecDepth 20000 in
theorem dkX8_loop : pr_dk cX8_loop (ab_lvs tX8_loop) := by unfold pr_dk; decide +kernel
set_option maxRecDepth 20000 in
theorem dkX8_powerOf : pr_dk cX8_powerOf (ab_lvs tX8_powerOf) := by unfold pr_dk; decide +kernel
set_option maxRecDepth 20000 in
theorem dkX8_likely : pr_dk cX8_likely (ab_lvs tX8_likely) := by unfold pr_dk; decide +kernel
set_option maxRecDepth 20000 in
theorem dkX8_outBy : pr_dk cX8_outBy (ab_lvs tX8_outBy) := by unfold pr_dk; decide +kernel
set_option maxRecDepth 20000 in
theorem dkX8_light : pr_dk cX8_light (ab_lvs tX8_light) := by unfold pr_dk; decide +kernel
set_option maxRecDepth 20000 in
theorem dkX8_when : pr_dk cX8_when (ab_lvs tX8_when) := by unfold pr_dk; decide +kernel
set_option maxRecDepth 20000 in
theorem dkX8_plays : pr_dk cX8_plays (ab_lvs tX8_plays) := by unfold pr_dk; decide +kernel
set_option maxRecDepth 20000 in
theorem dkX8_missed : pr_dk cX8_missed (ab_lvs tX8_missed) := by unfold pr_dk; decide +kernel
set_option maxRecDepth 20000 in
theorem dkX8_restAt_0 : pr_dk cX8_restAt ((pr_dr (ab_lvs tX8_restAt) 0).take 60) := by unfold pr_dk; decide +kernel
set_option maxRecDepth 20000 in
theorem dkX8_restAt_1 : pr_dk cX8_restAt ((pr_dr (ab_lvs tX8_restAt) 1).take 60) := by unfold pr_dk; decide +kernel
set_option maxRecDepth 20000 in
theorem dkX8_restAt_2 : pr_dk cX8_restAt ((pr_dr (ab_lvs tX8_restAt) 2).take 60) := by unfold pr_dk; decide +kernel
set_option maxRecDepth 20000 in
theorem dkX8_restAt_3 : pr_dk cX8_restAt (pr_dr (ab_lvs tX8_restAt) 3) := by unfold pr_dk; decide +kernel
theorem dkX8_restAt : pr_dk cX8_restAt (ab_lvs tX8_restAt) := (pr_dk_cut 0 dkX8_restAt_0 (pr_dk_cut 1 dkX8_restAt_1 (pr_dk_cut 2 dkX8_restAt_2 dkX8_restAt_3)))
set_option maxRecDepth 20000 in
theorem dkX8_areTwo : pr_dk cX8_areTwo (ab_lvs tX8_areTwo) := by unfold pr_dk; decide +kernel
set_option maxRecDepth 20000 in
theorem dkX8_rests : pr_dk cX8_rests (ab_lvs tX8_rests) := by unfold pr_dk; decide +kernel
set_option maxRecDepth 20000 in
theorem dkX8_rest : pr_dk cX8_rest (ab_lvs tX8_rest) := by unfold pr_dk; decide +kernel
set_option maxRecDepth 20000 in
theorem dkX8_needle : pr_dk cX8_needle (ab_lvs tX8_needle) := by unfold pr_dk; decide +kernel
set_option maxRecDepth 20000 in
theorem dkX8_most : pr_dk cX8_most (ab_lvs tX8_most) := by unfold pr_dk; decide +kernel
set_option maxRecDepth 20000 in
theorem dkX8_reaches : pr_dk cX8_reaches (ab_lvs tX8_reaches) := by unfold pr_dk; decide +kernel
set_option maxRecDepth 20000 in
theorem dkX8_bestBit : pr_dk cX8_bestBit (ab_lvs tX8_bestBit) := by unfold pr_dk; decide +kernel
