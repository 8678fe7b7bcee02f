set_option maxRecDepth 20000 in
theorem dkX8_token : pr_dk cX8_token (ab_lvs tX8_token) := by unfold pr_dk; decide +kernel
set_option maxRecDepth 20000 in
theorem dkX8_signToken : pr_dk cX8_signToken (ab_lvs tX8_signToken) := by unfold pr_dk; decide +kernel
set_option maxRecDepth 20000 in
theorem dkX8_packed : pr_dk cX8_packed (ab_lvs tX8_packed) := by unfold pr_dk; decide +kernel
set_option maxRecDepth 20000 in
theorem dkX8_isKey : pr_dk cX8_isKey (ab_lvs tX8_isKey) := by unfold pr_dk; decide +kernel
set_option maxRecDepth 20000 in
theorem dkX8_isSign : pr_dk cX8_isSign (ab_lvs tX8_isSign) := by unfold pr_dk; decide +kernel
set_option maxRecDepth 20000 in
theorem dkX8_number : pr_dk cX8_number (ab_lvs tX8_number) := by unfold pr_dk; decide +kernel
set_option maxRecDepth 20000 in
theorem dkX8_plain : pr_dk cX8_plain (ab_lvs tX8_plain) := by unfold pr_dk; decide +kernel
set_option maxRecDepth 20000 in
theorem dkX8_copies : pr_dk cX8_copies (ab_lvs tX8_copies) := by unfold pr_dk; decide +kernel
set_option maxRecDepth 20000 in
theorem dkX8_keepText : pr_dk cX8_keepText (ab_lvs tX8_keepText) := by unfold pr_dk; decide +kernel
set_option maxRecDepth 20000 in
theorem dkX8_find : pr_dk cX8_find (ab_lvs tX8_find) := by unfold pr_dk; decide +kernel
set_option maxRecDepth 20000 in
theorem dkX8_grooveLine : pr_dk cX8_grooveLine (ab_lvs tX8_grooveLine) := by unfold pr_dk; decide +kernel
set_option maxRecDepth 20000 in
theorem dkX8_scratLine : pr_dk cX8_scratLine (ab_lvs tX8_scratLine) := by unfold pr_dk; decide +kernel
set_option maxRecDepth 20000 in
theorem dkX8_guestLine : pr_dk cX8_guestLine (ab_lvs tX8_guestLine) := by unfold pr_dk; decide +kernel
set_option maxRecDepth 20000 in
theorem dkX8_onceLine : pr_dk cX8_onceLine (ab_lvs tX8_onceLine) := by unfold pr_dk; decide +kernel
set_option maxRecDepth 20000 in
theorem dkX8_lineRead : pr_dk cX8_lineRead (ab_lvs tX8_lineRead) := by unfold pr_dk; decide +kernel
set_option maxRecDepth 20000 in
theorem dkX8_text : pr_dk cX8_text (ab_lvs tX8_text) := by unfold pr_dk; decide +kernel
set_option maxRecDepth 20000 in
theorem dkX8_fault : pr_dk cX8_fault (ab_lvs tX8_fault) := by unfold pr_dk; decide +kernel
set_option maxRecDepth 20000 in
theorem dkX8_named : pr_dk cX8_named (ab_lvs tX8_named) := by unfold pr_dk; decide +kernel
set_option maxRecDepth 20000 in
theorem dkX8_rank : pr_dk cX8_rank (ab_lvs tX8_rank) := by unfold pr_dk; decide +kernel
set_option maxRecDepth 20000 in
theorem dkX8_grown : pr_dk cX8_grown (ab_lvs tX8_grown) := by unfold pr_dk; decide +kernel
set_option maxRecDepth 20000 in
theorem dkX8_dropHeld : pr_dk cX8_dropHeld (ab_lvs tX8_dropHeld) := by unfold pr_dk; decide +kernel
set_option maxRecDepth 20000 in
theorem dkX8_bind : pr_dk cX8_bind (ab_lvs tX8_bind) := by unfold pr_dk; decide +kernel
set_option maxRecDepth 20000 in
theorem dkX8_isCounted : pr_dk cX8_isCounted (ab_lvs tX8_isCounted) := by unfold pr_dk; decide +kernel
set_option maxRecDepth 20000 in
theorem dkX8_waitsFor : pr_dk cX8_waitsFor (ab_lvs tX8_waitsFor) := by unfold pr_dk; decide +kernel
set_option maxRecDepth 20000 in
theorem dkX8_nameMet : pr_dk cX8_nameMet (ab_lvs tX8_nameMet) := by unfold pr_dk; decide +kernel
set_option maxRecDepth 20000 in
theorem dkX8_leafRead : pr_dk cX8_leafRead (ab_lvs tX8_leafRead) := by unfold pr_dk; decide +kernel
