set_option maxRecDepth 20000 in
theorem dkX7_bestRule : pr_dk cX7_bestRule (ab_lvs tX7_bestRule) := by unfold pr_dk; decide +kernel
set_option maxRecDepth 20000 in
theorem dkX7_gets : pr_dk cX7_gets (ab_lvs tX7_gets) := by unfold pr_dk; decide +kernel
set_option maxRecDepth 20000 in
theorem dkX7_tames : pr_dk cX7_tames (ab_lvs tX7_tames) := by unfold pr_dk; decide +kernel
set_option maxRecDepth 20000 in
theorem dkX7_tape : pr_dk cX7_tape (ab_lvs tX7_tape) := by unfold pr_dk; decide +kernel
set_option maxRecDepth 20000 in
theorem dkX7_strike : pr_dk cX7_strike (ab_lvs tX7_strike) := by unfold pr_dk; decide +kernel
set_option maxRecDepth 20000 in
theorem dkX7_known : pr_dk cX7_known (ab_lvs tX7_known) := by unfold pr_dk; decide +kernel
set_option maxRecDepth 20000 in
theorem dkX7_threw : pr_dk cX7_threw (ab_lvs tX7_threw) := by unfold pr_dk; decide +kernel
set_option maxRecDepth 20000 in
theorem dkX7_wayFromText : pr_dk cX7_wayFromText (ab_lvs tX7_wayFromText) := by unfold pr_dk; decide +kernel
set_option maxRecDepth 20000 in
theorem dkX7_chance : pr_dk cX7_chance (ab_lvs tX7_chance) := by unfold pr_dk; decide +kernel
set_option maxRecDepth 20000 in
theorem dkX7_tried : pr_dk cX7_tried (ab_lvs tX7_tried) := by unfold pr_dk; decide +kernel
set_option maxRecDepth 20000 in
theorem dkX7_undo : pr_dk cX7_undo (ab_lvs tX7_undo) := by unfold pr_dk; decide +kernel
set_option maxRecDepth 20000 in
theorem dkX7_keep : pr_dk cX7_keep (ab_lvs tX7_keep) := by unfold pr_dk; decide +kernel
set_option maxRecDepth 20000 in
theorem dkX7_back : pr_dk cX7_back (ab_lvs tX7_back) := by unfold pr_dk; decide +kernel
set_option maxRecDepth 20000 in
theorem dkX7_count : pr_dk cX7_count (ab_lvs tX7_count) := by unfold pr_dk; decide +kernel
set_option maxRecDepth 20000 in
theorem dkX8_init_0 : pr_dk cX8_init ((pr_dr (ab_lvs tX8_init) 0).take 60) := by unfold pr_dk; decide +kernel
set_option maxRecDepth 20000 in
theorem dkX8_init_1 : pr_dk cX8_init ((pr_dr (ab_lvs tX8_init) 1).take 60) := by unfold pr_dk; decide +kernel
set_option maxRecDepth 20000 in
theorem dkX8_init_2 : pr_dk cX8_init ((pr_dr (ab_lvs tX8_init) 2).take 60) := by unfold pr_dk; decide +kernel
set_option maxRecDepth 20000 in
theorem dkX8_init_3 : pr_dk cX8_init ((pr_dr (ab_lvs tX8_init) 3).take 60) := by unfold pr_dk; decide +kernel
set_option maxRecDepth 20000 in
theorem dkX8_init_4 : pr_dk cX8_init ((pr_dr (ab_lvs tX8_init) 4).take 60) := by unfold pr_dk; decide +kernel
set_option maxRecDepth 20000 in
theorem dkX8_init_5 : pr_dk cX8_init ((pr_dr (ab_lvs tX8_init) 5).take 60) := by unfold pr_dk; decide +kernel
set_option maxRecDepth 20000 in
theorem dkX8_init_6 : pr_dk cX8_init ((pr_dr (ab_lvs tX8_init) 6).take 60) := by unfold pr_dk; decide +kernel
set_option maxRecDepth 20000 in
theorem dkX8_init_7 : pr_dk cX8_init ((pr_dr (ab_lvs tX8_init) 7).take 60) := by unfold pr_dk; decide +kernel
set_option maxRecDepth 20000 in
theorem dkX8_init_8 : pr_dk cX8_init ((pr_dr (ab_lvs tX8_init) 8).take 60) := by unfold pr_dk; decide +kernel
set_option maxRecDepth 20000 in
theorem dkX8_init_9 : pr_dk cX8_init ((pr_dr (ab_lvs tX8_init) 9).take 60) := by unfold pr_dk; decide +kernel
set_option maxRecDepth 20000 in
theorem dkX8_init_10 : pr_dk cX8_init (pr_dr (ab_lvs tX8_init) 10) := by unfold pr_dk; decide +kernel
theorem dkX8_init : pr_dk cX8_init (ab_lvs tX8_init) := (pr_dk_cut 0 dkX8_init_0 (pr_dk_cut 1 dkX8_init_1 (pr_dk_cut 2 dkX8_init_2 (pr_dk_cut 3 dkX8_init_3 (pr_dk_cut 4 dkX8_init_4 (pr_dk_cut 5 dkX8_init_5 (pr_dk_cut 6 dkX8_init_6 (pr_dk_cut 7 dkX8_init_7 (pr_dk_cut 8 dkX8_init_8 (pr_dk_cut 9 dkX8_init_9 dkX8_init_10))))))))))
set_option maxRecDepth 20000 in
theorem dkX8_feed : pr_dk cX8_feed (ab_lvs tX8_feed) := by unfold pr_dk; decide +kernel
set_option maxRecDepth 20000 in
theorem dkX8_isIn : pr_dk cX8_isIn (ab_lvs tX8_isIn) := by unfold pr_dk; decide +kernel
set_option maxRecDepth 20000 in
theorem dkX8_wrong : pr_dk cX8_wrong (ab_lvs tX8_wrong) := by unfold pr_dk; decide +kernel
set_option maxRecDepth 20000 in
theorem dkX8_wordAt : pr_dk cX8_wordAt (ab_lvs tX8_wordAt) := by unfold pr_dk; decide +kernel
set_option maxRecDepth 20000 in
theorem dkX8_isSmall : pr_dk cX8_isSmall (ab_lvs tX8_isSmall) := by unfold pr_dk; decide +kernel
set_option maxRecDepth 20000 in
theorem dkX8_isDigit : pr_dk cX8_isDigit (ab_lvs tX8_isDigit) := by unfold pr_dk; decide +kernel
