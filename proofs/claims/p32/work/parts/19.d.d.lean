set_option maxRecDepth 20000 in
theorem dkX7_feed : pr_dk cX7_feed (ab_lvs tX7_feed) := by unfold pr_dk; decide +kernel
set_option maxRecDepth 20000 in
theorem dkX7_putBytes : pr_dk cX7_putBytes (ab_lvs tX7_putBytes) := by unfold pr_dk; decide +kernel
set_option maxRecDepth 20000 in
theorem dkX7_text : pr_dk cX7_text (ab_lvs tX7_text) := by unfold pr_dk; decide +kernel
set_option maxRecDepth 20000 in
theorem dkX7_fault : pr_dk cX7_fault (ab_lvs tX7_fault) := by unfold pr_dk; decide +kernel
set_option maxRecDepth 20000 in
theorem dkX7_named : pr_dk cX7_named (ab_lvs tX7_named) := by unfold pr_dk; decide +kernel
set_option maxRecDepth 20000 in
theorem dkX7_scratch : pr_dk cX7_scratch (ab_lvs tX7_scratch) := by unfold pr_dk; decide +kernel
set_option maxRecDepth 20000 in
theorem dkX7_guest : pr_dk cX7_guest (ab_lvs tX7_guest) := by unfold pr_dk; decide +kernel
set_option maxRecDepth 20000 in
theorem dkX7_law : pr_dk cX7_law (ab_lvs tX7_law) := by unfold pr_dk; decide +kernel
set_option maxRecDepth 20000 in
theorem dkX7_isGroove : pr_dk cX7_isGroove (ab_lvs tX7_isGroove) := by unfold pr_dk; decide +kernel
set_option maxRecDepth 20000 in
theorem dkX7_isScratch : pr_dk cX7_isScratch (ab_lvs tX7_isScratch) := by unfold pr_dk; decide +kernel
set_option maxRecDepth 20000 in
theorem dkX7_isGuest : pr_dk cX7_isGuest (ab_lvs tX7_isGuest) := by unfold pr_dk; decide +kernel
set_option maxRecDepth 20000 in
theorem dkX7_within : pr_dk cX7_within (ab_lvs tX7_within) := by unfold pr_dk; decide +kernel
set_option maxRecDepth 20000 in
theorem dkX7_weigh : pr_dk cX7_weigh (ab_lvs tX7_weigh) := by unfold pr_dk; decide +kernel
set_option maxRecDepth 20000 in
theorem dkX7_nudge : pr_dk cX7_nudge (ab_lvs tX7_nudge) := by unfold pr_dk; decide +kernel
set_option maxRecDepth 20000 in
theorem dkX7_anew : pr_dk cX7_anew (ab_lvs tX7_anew) := by unfold pr_dk; decide +kernel
set_option maxRecDepth 20000 in
theorem dkX7_go : pr_dk cX7_go (ab_lvs tX7_go) := by unfold pr_dk; decide +kernel
set_option maxRecDepth 20000 in
theorem dkX7_out : pr_dk cX7_out (ab_lvs tX7_out) := by unfold pr_dk; decide +kernel
set_option maxRecDepth 20000 in
theorem dkX7_tryNow : pr_dk cX7_tryNow (ab_lvs tX7_tryNow) := by unfold pr_dk; decide +kernel
set_option maxRecDepth 20000 in
theorem dkX7_loop : pr_dk cX7_loop (ab_lvs tX7_loop) := by unfold pr_dk; decide +kernel
set_option maxRecDepth 20000 in
theorem dkX7_likely : pr_dk cX7_likely (ab_lvs tX7_likely) := by unfold pr_dk; decide +kernel
set_option maxRecDepth 20000 in
theorem dkX7_hundreds : pr_dk cX7_hundreds (ab_lvs tX7_hundreds) := by unfold pr_dk; decide +kernel
set_option maxRecDepth 20000 in
theorem dkX7_greatestCommon : pr_dk cX7_greatestCommon (ab_lvs tX7_greatestCommon) := by unfold pr_dk; decide +kernel
set_option maxRecDepth 20000 in
theorem dkX7_light : pr_dk cX7_light (ab_lvs tX7_light) := by unfold pr_dk; decide +kernel
set_option maxRecDepth 20000 in
theorem dkX7_when : pr_dk cX7_when (ab_lvs tX7_when) := by unfold pr_dk; decide +kernel
set_option maxRecDepth 20000 in
theorem dkX7_plays : pr_dk cX7_plays (ab_lvs tX7_plays) := by unfold pr_dk; decide +kernel
set_option maxRecDepth 20000 in
theorem dkX7_missed : pr_dk cX7_missed (ab_lvs tX7_missed) := by unfold pr_dk; decide +kernel
set_option maxRecDepth 20000 in
theorem dkX7_rests : pr_dk cX7_rests (ab_lvs tX7_rests) := by unfold pr_dk; decide +kernel
set_option maxRecDepth 20000 in
theorem dkX7_rest : pr_dk cX7_rest (ab_lvs tX7_rest) := by unfold pr_dk; decide +kernel
set_option maxRecDepth 20000 in
theorem dkX7_canWait : pr_dk cX7_canWait (ab_lvs tX7_canWait) := by unfold pr_dk; decide +kernel
set_option maxRecDepth 20000 in
theorem dkX7_restBits : pr_dk cX7_restBits (ab_lvs tX7_restBits) := by unfold pr_dk; decide +kernel
set_option maxRecDepth 20000 in
theorem dkX7_waited : pr_dk cX7_waited (ab_lvs tX7_waited) := by unfold pr_dk; decide +kernel
set_option maxRecDepth 20000 in
theorem dkX7_needle : pr_dk cX7_needle (ab_lvs tX7_needle) := by unfold pr_dk; decide +kernel
set_option maxRecDepth 20000 in
theorem dkX7_most : pr_dk cX7_most (ab_lvs tX7_most) := by unfold pr_dk; decide +kernel
set_option maxRecDepth 20000 in
theorem dkX7_reaches : pr_dk cX7_reaches (ab_lvs tX7_reaches) := by unfold pr_dk; decide +kernel
set_option maxRecDepth 20000 in
theorem dkX7_bestBit : pr_dk cX7_bestBit (ab_lvs tX7_bestBit) := by unfold pr_dk; decide +kernel
set_option maxRecDepth 20000 in
theorem dkX7_rule : pr_dk cX7_rule (ab_lvs tX7_rule) := by unfold pr_dk; decide +kernel
set_option maxRecDepth 20000 in
theorem dkX7_tryRule : pr_dk cX7_tryRule (ab_lvs tX7_tryRule) := by unfold pr_dk; decide +kernel
