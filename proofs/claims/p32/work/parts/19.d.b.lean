set_option maxRecDepth 20000 in
theorem dkX1_copy : pr_dk cX1_copy (ab_lvs tX1_copy) := by unfold pr_dk; decide +kernel
set_option maxRecDepth 20000 in
theorem dkX1_rewind : pr_dk cX1_rewind (ab_lvs tX1_rewind) := by unfold pr_dk; decide +kernel
set_option maxRecDepth 20000 in
theorem dkX1_push : pr_dk cX1_push (ab_lvs tX1_push) := by unfold pr_dk; decide +kernel
set_option maxRecDepth 20000 in
theorem dkX1_move : pr_dk cX1_move (ab_lvs tX1_move) := by unfold pr_dk; decide +kernel
set_option maxRecDepth 20000 in
theorem dkX1_draw : pr_dk cX1_draw (ab_lvs tX1_draw) := by unfold pr_dk; decide +kernel
set_option maxRecDepth 20000 in
theorem dkX2_init : pr_dk cX2_init (ab_lvs tX2_init) := by unfold pr_dk; decide +kernel
set_option maxRecDepth 20000 in
theorem dkX2_take : pr_dk cX2_take (ab_lvs tX2_take) := by unfold pr_dk; decide +kernel
set_option maxRecDepth 20000 in
theorem dkX2_run : pr_dk cX2_run (ab_lvs tX2_run) := by unfold pr_dk; decide +kernel
set_option maxRecDepth 20000 in
theorem dkX2_turn : pr_dk cX2_turn (ab_lvs tX2_turn) := by unfold pr_dk; decide +kernel
set_option maxRecDepth 20000 in
theorem dkX2_drawnWay : pr_dk cX2_drawnWay (ab_lvs tX2_drawnWay) := by unfold pr_dk; decide +kernel
set_option maxRecDepth 20000 in
theorem dkX2_likelyWay : pr_dk cX2_likelyWay (ab_lvs tX2_likelyWay) := by unfold pr_dk; decide +kernel
set_option maxRecDepth 20000 in
theorem dkX2_throwNeedle : pr_dk cX2_throwNeedle (ab_lvs tX2_throwNeedle) := by unfold pr_dk; decide +kernel
set_option maxRecDepth 20000 in
theorem dkX2_listen : pr_dk cX2_listen (ab_lvs tX2_listen) := by unfold pr_dk; decide +kernel
set_option maxRecDepth 20000 in
theorem dkX2_backOdds : pr_dk cX2_backOdds (ab_lvs tX2_backOdds) := by unfold pr_dk; decide +kernel
set_option maxRecDepth 20000 in
theorem dkX2_onOdds : pr_dk cX2_onOdds (ab_lvs tX2_onOdds) := by unfold pr_dk; decide +kernel
set_option maxRecDepth 20000 in
theorem dkX2_wearOf : pr_dk cX2_wearOf (ab_lvs tX2_wearOf) := by unfold pr_dk; decide +kernel
set_option maxRecDepth 20000 in
theorem dkX2_worthOf : pr_dk cX2_worthOf (ab_lvs tX2_worthOf) := by unfold pr_dk; decide +kernel
set_option maxRecDepth 20000 in
theorem dkX2_cut : pr_dk cX2_cut (ab_lvs tX2_cut) := by unfold pr_dk; decide +kernel
set_option maxRecDepth 20000 in
theorem dkX2_nameScratch : pr_dk cX2_nameScratch (ab_lvs tX2_nameScratch) := by unfold pr_dk; decide +kernel
set_option maxRecDepth 20000 in
theorem dkX2_nameGroove : pr_dk cX2_nameGroove (ab_lvs tX2_nameGroove) := by unfold pr_dk; decide +kernel
set_option maxRecDepth 20000 in
theorem dkX2_spread_0 : pr_dk cX2_spread ((pr_dr (ab_lvs tX2_spread) 0).take 60) := by unfold pr_dk; decide +kernel
set_option maxRecDepth 20000 in
theorem dkX2_spread_1 : pr_dk cX2_spread ((pr_dr (ab_lvs tX2_spread) 1).take 60) := by unfold pr_dk; decide +kernel
set_option maxRecDepth 20000 in
theorem dkX2_spread_2 : pr_dk cX2_spread ((pr_dr (ab_lvs tX2_spread) 2).take 60) := by unfold pr_dk; decide +kernel
set_option maxRecDepth 20000 in
theorem dkX2_spread_3 : pr_dk cX2_spread ((pr_dr (ab_lvs tX2_spread) 3).take 60) := by unfold pr_dk; decide +kernel
set_option maxRecDepth 20000 in
theorem dkX2_spread_4 : pr_dk cX2_spread (pr_dr (ab_lvs tX2_spread) 4) := by unfold pr_dk; decide +kernel
theorem dkX2_spread : pr_dk cX2_spread (ab_lvs tX2_spread) := (pr_dk_cut 0 dkX2_spread_0 (pr_dk_cut 1 dkX2_spread_1 (pr_dk_cut 2 dkX2_spread_2 (pr_dk_cut 3 dkX2_spread_3 dkX2_spread_4))))
set_option maxRecDepth 20000 in
theorem dkX3_init : pr_dk cX3_init (ab_lvs tX3_init) := by unfold pr_dk; decide +kernel
set_option maxRecDepth 20000 in
theorem dkX3_read : pr_dk cX3_read (ab_lvs tX3_read) := by unfold pr_dk; decide +kernel
set_option maxRecDepth 20000 in
theorem dkX3_flaw : pr_dk cX3_flaw (ab_lvs tX3_flaw) := by unfold pr_dk; decide +kernel
set_option maxRecDepth 20000 in
theorem dkX3_readLine : pr_dk cX3_readLine (ab_lvs tX3_readLine) := by unfold pr_dk; decide +kernel
set_option maxRecDepth 20000 in
theorem dkX3_readGroove : pr_dk cX3_readGroove (ab_lvs tX3_readGroove) := by unfold pr_dk; decide +kernel
set_option maxRecDepth 20000 in
theorem dkX3_readScratch : pr_dk cX3_readScratch (ab_lvs tX3_readScratch) := by unfold pr_dk; decide +kernel
