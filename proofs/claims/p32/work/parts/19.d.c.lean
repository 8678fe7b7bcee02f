set_option maxRecDepth 20000 in
theorem dkX3_readGuest : pr_dk cX3_readGuest (ab_lvs tX3_readGuest) := by unfold pr_dk; decide +kernel
set_option maxRecDepth 20000 in
theorem dkX3_readOnce : pr_dk cX3_readOnce (ab_lvs tX3_readOnce) := by unfold pr_dk; decide +kernel
set_option maxRecDepth 20000 in
theorem dkX3_readNumber : pr_dk cX3_readNumber (ab_lvs tX3_readNumber) := by unfold pr_dk; decide +kernel
set_option maxRecDepth 20000 in
theorem dkX3_readLaw : pr_dk cX3_readLaw (ab_lvs tX3_readLaw) := by unfold pr_dk; decide +kernel
set_option maxRecDepth 20000 in
theorem dkX3_readOperand : pr_dk cX3_readOperand (ab_lvs tX3_readOperand) := by unfold pr_dk; decide +kernel
set_option maxRecDepth 20000 in
theorem dkX3_readSign : pr_dk cX3_readSign (ab_lvs tX3_readSign) := by unfold pr_dk; decide +kernel
set_option maxRecDepth 20000 in
theorem dkX3_waitingRank : pr_dk cX3_waitingRank (ab_lvs tX3_waitingRank) := by unfold pr_dk; decide +kernel
set_option maxRecDepth 20000 in
theorem dkX3_unwind : pr_dk cX3_unwind (ab_lvs tX3_unwind) := by unfold pr_dk; decide +kernel
set_option maxRecDepth 20000 in
theorem dkX3_push : pr_dk cX3_push (ab_lvs tX3_push) := by unfold pr_dk; decide +kernel
set_option maxRecDepth 20000 in
theorem dkX3_tie : pr_dk cX3_tie (ab_lvs tX3_tie) := by unfold pr_dk; decide +kernel
set_option maxRecDepth 20000 in
theorem dkX3_next : pr_dk cX3_next (ab_lvs tX3_next) := by unfold pr_dk; decide +kernel
set_option maxRecDepth 20000 in
theorem dkX3_nextNumber : pr_dk cX3_nextNumber (ab_lvs tX3_nextNumber) := by unfold pr_dk; decide +kernel
set_option maxRecDepth 20000 in
theorem dkX3_nextWord : pr_dk cX3_nextWord (ab_lvs tX3_nextWord) := by unfold pr_dk; decide +kernel
set_option maxRecDepth 20000 in
theorem dkX3_takeLanguageWord : pr_dk cX3_takeLanguageWord (ab_lvs tX3_takeLanguageWord) := by unfold pr_dk; decide +kernel
set_option maxRecDepth 20000 in
theorem dkX3_sign : pr_dk cX3_sign (ab_lvs tX3_sign) := by unfold pr_dk; decide +kernel
set_option maxRecDepth 20000 in
theorem dkX3_follows : pr_dk cX3_follows (ab_lvs tX3_follows) := by unfold pr_dk; decide +kernel
set_option maxRecDepth 20000 in
theorem dkX4_init : pr_dk cX4_init (ab_lvs tX4_init) := by unfold pr_dk; decide +kernel
set_option maxRecDepth 20000 in
theorem dkX4_wipe : pr_dk cX4_wipe (ab_lvs tX4_wipe) := by unfold pr_dk; decide +kernel
set_option maxRecDepth 20000 in
theorem dkX4_guestNamed : pr_dk cX4_guestNamed (ab_lvs tX4_guestNamed) := by unfold pr_dk; decide +kernel
set_option maxRecDepth 20000 in
theorem dkX5_init : pr_dk cX5_init (ab_lvs tX5_init) := by unfold pr_dk; decide +kernel
set_option maxRecDepth 20000 in
theorem dkX5_remember : pr_dk cX5_remember (ab_lvs tX5_remember) := by unfold pr_dk; decide +kernel
set_option maxRecDepth 20000 in
theorem dkX5_recall : pr_dk cX5_recall (ab_lvs tX5_recall) := by unfold pr_dk; decide +kernel
set_option maxRecDepth 20000 in
theorem dkX6_init : pr_dk cX6_init (ab_lvs tX6_init) := by unfold pr_dk; decide +kernel
set_option maxRecDepth 20000 in
theorem dkX6_wipe : pr_dk cX6_wipe (ab_lvs tX6_wipe) := by unfold pr_dk; decide +kernel
set_option maxRecDepth 20000 in
theorem dkX6_add : pr_dk cX6_add (ab_lvs tX6_add) := by unfold pr_dk; decide +kernel
set_option maxRecDepth 20000 in
theorem dkX6_knownCount : pr_dk cX6_knownCount (ab_lvs tX6_knownCount) := by unfold pr_dk; decide +kernel
set_option maxRecDepth 20000 in
theorem dkX6_markStruck : pr_dk cX6_markStruck (ab_lvs tX6_markStruck) := by unfold pr_dk; decide +kernel
set_option maxRecDepth 20000 in
theorem dkX6_agrees : pr_dk cX6_agrees (ab_lvs tX6_agrees) := by unfold pr_dk; decide +kernel
set_option maxRecDepth 20000 in
theorem dkX7_init : pr_dk cX7_init (ab_lvs tX7_init) := by unfold pr_dk; decide +kernel
