set_option maxRecDepth 20000 in
theorem dkX8_heardBy : pr_dk cX8_heardBy (ab_lvs tX8_heardBy) := by unfold pr_dk; decide +kernel
set_option maxRecDepth 20000 in
theorem dkX8_rule : pr_dk cX8_rule (ab_lvs tX8_rule) := by unfold pr_dk; decide +kernel
set_option maxRecDepth 20000 in
theorem dkX8_bestRule : pr_dk cX8_bestRule (ab_lvs tX8_bestRule) := by unfold pr_dk; decide +kernel
set_option maxRecDepth 20000 in
theorem dkX8_gets : pr_dk cX8_gets (ab_lvs tX8_gets) := by unfold pr_dk; decide +kernel
set_option maxRecDepth 20000 in
theorem dkX8_tames : pr_dk cX8_tames (ab_lvs tX8_tames) := by unfold pr_dk; decide +kernel
set_option maxRecDepth 20000 in
theorem dkX8_noted : pr_dk cX8_noted (ab_lvs tX8_noted) := by unfold pr_dk; decide +kernel
set_option maxRecDepth 20000 in
theorem dkX8_tape : pr_dk cX8_tape (ab_lvs tX8_tape) := by unfold pr_dk; decide +kernel
set_option maxRecDepth 20000 in
theorem dkX8_strike : pr_dk cX8_strike (ab_lvs tX8_strike) := by unfold pr_dk; decide +kernel
set_option maxRecDepth 20000 in
theorem dkX8_known : pr_dk cX8_known (ab_lvs tX8_known) := by unfold pr_dk; decide +kernel
set_option maxRecDepth 20000 in
theorem dkX8_knownBy : pr_dk cX8_knownBy (ab_lvs tX8_knownBy) := by unfold pr_dk; decide +kernel
set_option maxRecDepth 20000 in
theorem dkX8_isSo : pr_dk cX8_isSo (ab_lvs tX8_isSo) := by unfold pr_dk; decide +kernel
set_option maxRecDepth 20000 in
theorem dkX8_fits : pr_dk cX8_fits (ab_lvs tX8_fits) := by unfold pr_dk; decide +kernel
set_option maxRecDepth 20000 in
theorem dkX8_threw : pr_dk cX8_threw (ab_lvs tX8_threw) := by unfold pr_dk; decide +kernel
set_option maxRecDepth 20000 in
theorem dkX8_chance : pr_dk cX8_chance (ab_lvs tX8_chance) := by unfold pr_dk; decide +kernel
set_option maxRecDepth 20000 in
theorem dkX8_tried : pr_dk cX8_tried (ab_lvs tX8_tried) := by unfold pr_dk; decide +kernel
set_option maxRecDepth 20000 in
theorem dkX8_remember : pr_dk cX8_remember (ab_lvs tX8_remember) := by unfold pr_dk; decide +kernel
set_option maxRecDepth 20000 in
theorem dkX8_undo : pr_dk cX8_undo (ab_lvs tX8_undo) := by unfold pr_dk; decide +kernel
set_option maxRecDepth 20000 in
theorem dkX8_keep : pr_dk cX8_keep (ab_lvs tX8_keep) := by unfold pr_dk; decide +kernel
set_option maxRecDepth 20000 in
theorem dkX8_back : pr_dk cX8_back (ab_lvs tX8_back) := by unfold pr_dk; decide +kernel
set_option maxRecDepth 20000 in
theorem dkX8_count : pr_dk cX8_count (ab_lvs tX8_count) := by unfold pr_dk; decide +kernel
set_option maxRecDepth 20000 in
theorem dkJ6_bitCount_0f7a4 : pr_dk cJ6_bitCount_0f7a4 (ab_lvs tJ6_bitCount_0f7a4) := by unfold pr_dk; decide +kernel
set_option maxRecDepth 20000 in
theorem dkX7_groove : pr_dk cX7_groove (ab_lvs tX7_groove) := by unfold pr_dk; decide +kernel
