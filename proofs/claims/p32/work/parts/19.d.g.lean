set_option maxRecDepth 20000 in
theorem dkX8_signs : pr_dk cX8_signs (ab_lvs tX8_signs) := by unfold pr_dk; decide +kernel
set_option maxRecDepth 20000 in
theorem dkX8_sumRead : pr_dk cX8_sumRead (ab_lvs tX8_sumRead) := by unfold pr_dk; decide +kernel
set_option maxRecDepth 20000 in
theorem dkX8_bounded : pr_dk cX8_bounded (ab_lvs tX8_bounded) := by unfold pr_dk; decide +kernel
set_option maxRecDepth 20000 in
theorem dkX8_compares : pr_dk cX8_compares (ab_lvs tX8_compares) := by unfold pr_dk; decide +kernel
set_option maxRecDepth 20000 in
theorem dkX8_times : pr_dk cX8_times (ab_lvs tX8_times) := by unfold pr_dk; decide +kernel
set_option maxRecDepth 20000 in
theorem dkX8_valueOf : pr_dk cX8_valueOf (ab_lvs tX8_valueOf) := by unfold pr_dk; decide +kernel
set_option maxRecDepth 20000 in
theorem dkX8_begin : pr_dk cX8_begin (ab_lvs tX8_begin) := by unfold pr_dk; decide +kernel
set_option maxRecDepth 20000 in
theorem dkX8_atFirst : pr_dk cX8_atFirst (ab_lvs tX8_atFirst) := by unfold pr_dk; decide +kernel
set_option maxRecDepth 20000 in
theorem dkX8_plainTried : pr_dk cX8_plainTried (ab_lvs tX8_plainTried) := by unfold pr_dk; decide +kernel
set_option maxRecDepth 20000 in
theorem dkX8_layTried : pr_dk cX8_layTried (ab_lvs tX8_layTried) := by unfold pr_dk; decide +kernel
set_option maxRecDepth 20000 in
theorem dkX8_isGroove : pr_dk cX8_isGroove (ab_lvs tX8_isGroove) := by unfold pr_dk; decide +kernel
set_option maxRecDepth 20000 in
theorem dkX8_isScratch : pr_dk cX8_isScratch (ab_lvs tX8_isScratch) := by unfold pr_dk; decide +kernel
set_option maxRecDepth 20000 in
theorem dkX8_isGuest : pr_dk cX8_isGuest (ab_lvs tX8_isGuest) := by unfold pr_dk; decide +kernel
set_option maxRecDepth 20000 in
theorem dkX8_layNames : pr_dk cX8_layNames (ab_lvs tX8_layNames) := by unfold pr_dk; decide +kernel
set_option maxRecDepth 20000 in
theorem dkX8_lawOf : pr_dk cX8_lawOf (ab_lvs tX8_lawOf) := by unfold pr_dk; decide +kernel
set_option maxRecDepth 20000 in
theorem dkX8_boundLaw : pr_dk cX8_boundLaw (ab_lvs tX8_boundLaw) := by unfold pr_dk; decide +kernel
set_option maxRecDepth 20000 in
theorem dkX8_backOf : pr_dk cX8_backOf (ab_lvs tX8_backOf) := by unfold pr_dk; decide +kernel
set_option maxRecDepth 20000 in
theorem dkX8_wearOf : pr_dk cX8_wearOf (ab_lvs tX8_wearOf) := by unfold pr_dk; decide +kernel
set_option maxRecDepth 20000 in
theorem dkX8_worthOf : pr_dk cX8_worthOf (ab_lvs tX8_worthOf) := by unfold pr_dk; decide +kernel
set_option maxRecDepth 20000 in
theorem dkX8_number1 : pr_dk cX8_number1 (ab_lvs tX8_number1) := by unfold pr_dk; decide +kernel
set_option maxRecDepth 20000 in
theorem dkX8_wayOf : pr_dk cX8_wayOf (ab_lvs tX8_wayOf) := by unfold pr_dk; decide +kernel
set_option maxRecDepth 20000 in
theorem dkX8_scratchIn : pr_dk cX8_scratchIn (ab_lvs tX8_scratchIn) := by unfold pr_dk; decide +kernel
set_option maxRecDepth 20000 in
theorem dkX8_puts : pr_dk cX8_puts (ab_lvs tX8_puts) := by unfold pr_dk; decide +kernel
set_option maxRecDepth 20000 in
theorem dkX8_passes : pr_dk cX8_passes (ab_lvs tX8_passes) := by unfold pr_dk; decide +kernel
set_option maxRecDepth 20000 in
theorem dkX8_nudges : pr_dk cX8_nudges (ab_lvs tX8_nudges) := by unfold pr_dk; decide +kernel
set_option maxRecDepth 20000 in
theorem dkX8_guestsRise : pr_dk cX8_guestsRise (ab_lvs tX8_guestsRise) := by unfold pr_dk; decide +kernel
set_option maxRecDepth 20000 in
theorem dkX8_playsOne : pr_dk cX8_playsOne (ab_lvs tX8_playsOne) := by unfold pr_dk; decide +kernel
