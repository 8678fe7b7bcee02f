section
theorem ckL_law : (ab_lvs tL_law).all (pr_chk false plL) = true := by decide +kernel
theorem ckX0_init : (ab_lvs tX0_init).all (pr_chk true plX0) = true := by decide +kernel
theorem ckX0_wipe : (ab_lvs tX0_wipe).all (pr_chk false plX0) = true := by decide +kernel
theorem ckX0_add : (ab_lvs tX0_add).all (pr_chk false plX0) = true := by decide +kernel
theorem ckX0_work : (ab_lvs tX0_work).all (pr_chk false plX0) = true := by decide +kernel
theorem ckX0_apply : (ab_lvs tX0_apply).all (pr_chk false plX0) = true := by decide +kernel
theorem ckX1_init : (ab_lvs tX1_init).all (pr_chk true plX1) = true := by decide +kernel
theorem ckX1_start : (ab_lvs tX1_start).all (pr_chk false plX1) = true := by decide +kernel
theorem ckX1_copy : (ab_lvs tX1_copy).all (pr_chk false plX1) = true := by decide +kernel
theorem ckX1_rewind : (ab_lvs tX1_rewind).all (pr_chk false plX1) = true := by decide +kernel
theorem ckX1_push : (ab_lvs tX1_push).all (pr_chk false plX1) = true := by decide +kernel
theorem ckX1_move : (ab_lvs tX1_move).all (pr_chk false plX1) = true := by decide +kernel
theorem ckX1_draw : (ab_lvs tX1_draw).all (pr_chk false plX1) = true := by decide +kernel
theorem ckX2_init : (ab_lvs tX2_init).all (pr_chk true plX2) = true := by decide +kernel
theorem ckX2_take : (ab_lvs tX2_take).all (pr_chk false plX2) = true := by decide +kernel
theorem ckX2_run : (ab_lvs tX2_run).all (pr_chk false plX2) = true := by decide +kernel
theorem ckX2_turn : (ab_lvs tX2_turn).all (pr_chk false plX2) = true := by decide +kernel
theorem ckX2_drawnWay : (ab_lvs tX2_drawnWay).all (pr_chk false plX2) = true := by decide +kernel
theorem ckX2_likelyWay : (ab_lvs tX2_likelyWay).all (pr_chk false plX2) = true := by decide +kernel
theorem ckX2_throwNeedle : (ab_lvs tX2_throwNeedle).all (pr_chk false plX2) = true := by decide +kernel
theorem ckX2_listen : (ab_lvs tX2_listen).all (pr_chk false plX2) = true := by decide +kernel
theorem ckX2_backOdds : (ab_lvs tX2_backOdds).all (pr_chk false plX2) = true := by decide +kernel
theorem ckX2_onOdds : (ab_lvs tX2_onOdds).all (pr_chk false plX2) = true := by decide +kernel
theorem ckX2_wearOf : (ab_lvs tX2_wearOf).all (pr_chk false plX2) = true := by decide +kernel
theorem ckX2_worthOf : (ab_lvs tX2_worthOf).all (pr_chk false plX2) = true := by decide +kernel
theorem ckX2_cut : (ab_lvs tX2_cut).all (pr_chk false plX2) = true := by decide +kernel
theorem ckX2_nameScratch : (ab_lvs tX2_nameScratch).all (pr_chk false plX2) = true := by decide +kernel
theorem ckX2_nameGroove : (ab_lvs tX2_nameGroove).all (pr_chk false plX2) = true := by decide +kernel
theorem ckX2_spread : (ab_lvs tX2_spread).all (pr_chk false plX2) = true := by decide +kernel
theorem ckX3_init : (ab_lvs tX3_init).all (pr_chk true plX3) = true := by decide +kernel
theorem ckX3_read : (ab_lvs tX3_read).all (pr_chk false plX3) = true := by decide +kernel
theorem ckX3_flaw : (ab_lvs tX3_flaw).all (pr_chk false plX3) = true := by decide +kernel
theorem ckX3_readLine : (ab_lvs tX3_readLine).all (pr_chk false plX3) = true := by decide +kernel
theorem ckX3_readGroove : (ab_lvs tX3_readGroove).all (pr_chk false plX3) = true := by decide +kernel
theorem ckX3_readScratch : (ab_lvs tX3_readScratch).all (pr_chk false plX3) = true := by decide +kernel
theorem ckX3_readGuest : (ab_lvs tX3_readGuest).all (pr_chk false plX3) = true := by decide +kernel
theorem ckX3_readOnce : (ab_lvs tX3_readOnce).all (pr_chk false plX3) = true := by decide +kernel
theorem ckX3_readNumber : (ab_lvs tX3_readNumber).all (pr_chk false plX3) = true := by decide +kernel
theorem ckX3_readLaw : (ab_lvs tX3_readLaw).all (pr_chk false plX3) = true := by decide +kernel
theorem ckX3_readOperand : (ab_lvs tX3_readOperand).all (pr_chk false plX3) = true := by decide +kernel
theorem ckX3_readSign : (ab_lvs tX3_readSign).all (pr_chk false plX3) = true := by decide +kernel
theorem ckX3_waitingRank : (ab_lvs tX3_waitingRank).all (pr_chk false plX3) = true := by decide +kernel
theorem ckX3_unwind : (ab_lvs tX3_unwind).all (pr_chk false plX3) = true := by decide +kernel
theorem ckX3_push : (ab_lvs tX3_push).all (pr_chk false plX3) = true := by decide +kernel
theorem ckX3_tie : (ab_lvs tX3_tie).all (pr_chk false plX3) = true := by decide +kernel
theorem ckX3_next : (ab_lvs tX3_next).all (pr_chk false plX3) = true := by decide +kernel
theorem ckX3_nextNumber : (ab_lvs tX3_nextNumber).all (pr_chk false plX3) = true := by decide +kernel
theorem ckX3_nextWord : (ab_lvs tX3_nextWord).all (pr_chk false plX3) = true := by decide +kernel
theorem ckX3_takeLanguageWord : (ab_lvs tX3_takeLanguageWord).all (pr_chk false plX3) = true := by decide +kernel
theorem ckX3_sign : (ab_lvs tX3_sign).all (pr_chk false plX3) = true := by decide +kernel
theorem ckX3_follows : (ab_lvs tX3_follows).all (pr_chk false plX3) = true := by decide +kernel
theorem ckX4_init : (ab_lvs tX4_init).all (pr_chk true plX4) = true := by decide +kernel
theorem ckX4_wipe : (ab_lvs tX4_wipe).all (pr_chk false plX4) = true := by decide +kernel
theorem ckX4_guestNamed : (ab_lvs tX4_guestNamed).all (pr_chk false plX4) = true := by decide +kernel
theorem ckX5_init : (ab_lvs tX5_init).all (pr_chk true plX5) = true := by decide +kernel
theorem ckX5_remember : (ab_lvs tX5_remember).all (pr_chk false plX5) = true := by decide +kernel
theorem ckX5_recall : (ab_lvs tX5_recall).all (pr_chk false plX5) = true := by decide +kernel
theorem ckX6_init : (ab_lvs tX6_init).all (pr_chk true plX6) = true := by decide +kernel
theorem ckX6_wipe : (ab_lvs tX6_wipe).all (pr_chk false plX6) = true := by decide +kernel
theorem ckX6_add : (ab_lvs tX6_add).all (pr_chk false plX6) = true := by decide +kernel
theorem ckX6_knownCount : (ab_lvs tX6_knownCount).all (pr_chk false plX6) = true := by decide +kernel
theorem ckX6_markStruck : (ab_lvs tX6_markStruck).all (pr_chk false plX6) = true := by decide +kernel
theorem ckX6_agrees : (ab_lvs tX6_agrees).all (pr_chk false plX6) = true := by decide +kernel
theorem ckX7_init : (ab_lvs tX7_init).all (pr_chk true plX7) = true := by decide +kernel
theorem ckX7_feed : (ab_lvs tX7_feed).all (pr_chk false plX7) = true := by decide +kernel
theorem ckX7_putBytes : (ab_lvs tX7_putBytes).all (pr_chk false plX7) = true := by decide +kernel
theorem ckX7_text : (ab_lvs tX7_text).all (pr_chk false plX7) = true := by decide +kernel
theorem ckX7_fault : (ab_lvs tX7_fault).all (pr_chk false plX7) = true := by decide +kernel
theorem ckX7_named : (ab_lvs tX7_named).all (pr_chk false plX7) = true := by decide +kernel
theorem ckX7_scratch : (ab_lvs tX7_scratch).all (pr_chk false plX7) = true := by decide +kernel
theorem ckX7_guest : (ab_lvs tX7_guest).all (pr_chk false plX7) = true := by decide +kernel
theorem ckX7_law : (ab_lvs tX7_law).all (pr_chk false plX7) = true := by decide +kernel
theorem ckX7_isGroove : (ab_lvs tX7_isGroove).all (pr_chk false plX7) = true := by decide +kernel
theorem ckX7_isScratch : (ab_lvs tX7_isScratch).all (pr_chk false plX7) = true := by decide +kernel
theorem ckX7_isGuest : (ab_lvs tX7_isGuest).all (pr_chk false plX7) = true := by decide +kernel
theorem ckX7_within : (ab_lvs tX7_within).all (pr_chk false plX7) = true := by decide +kernel
theorem ckX7_weigh : (ab_lvs tX7_weigh).all (pr_chk false plX7) = true := by decide +kernel
theorem ckX7_nudge : (ab_lvs tX7_nudge).all (pr_chk false plX7) = true := by decide +kernel
theorem ckX7_anew : (ab_lvs tX7_anew).all (pr_chk false plX7) = true := by decide +kernel
theorem ckX7_go : (ab_lvs tX7_go).all (pr_chk false plX7) = true := by decide +kernel
theorem ckX7_out : (ab_lvs tX7_out).all (pr_chk false plX7) = true := by decide +kernel
theorem ckX7_tryNow : (ab_lvs tX7_tryNow).all (pr_chk false plX7) = true := by decide +kernel
theorem ckX7_loop : (ab_lvs tX7_loop).all (pr_chk false plX7) = true := by decide +kernel
theorem ckX7_likely : (ab_lvs tX7_likely).all (pr_chk false plX7) = true := by decide +kernel
theorem ckX7_hundreds : (ab_lvs tX7_hundreds).all (pr_chk false plX7) = true := by decide +kernel
theorem ckX7_greatestCommon : (ab_lvs tX7_greatestCommon).all (pr_chk false plX7) = true := by decide +kernel
theorem ckX7_light : (ab_lvs tX7_light).all (pr_chk false plX7) = true := by decide +kernel
theorem ckX7_when : (ab_lvs tX7_when).all (pr_chk false plX7) = true := by decide +kernel
theorem ckX7_plays : (ab_lvs tX7_plays).all (pr_chk false plX7) = true := by decide +kernel
theorem ckX7_missed : (ab_lvs tX7_missed).all (pr_chk false plX7) = true := by decide +kernel
theorem ckX7_rests : (ab_lvs tX7_rests).all (pr_chk false plX7) = true := by decide +kernel
theorem ckX7_rest : (ab_lvs tX7_rest).all (pr_chk false plX7) = true := by decide +kernel
theorem ckX7_canWait : (ab_lvs tX7_canWait).all (pr_chk false plX7) = true := by decide +kernel
theorem ckX7_restBits : (ab_lvs tX7_restBits).all (pr_chk false plX7) = true := by decide +kernel
theorem ckX7_waited : (ab_lvs tX7_waited).all (pr_chk false plX7) = true := by decide +kernel
theorem ckX7_needle : (ab_lvs tX7_needle).all (pr_chk false plX7) = true := by decide +kernel
theorem ckX7_most : (ab_lvs tX7_most).all (pr_chk false plX7) = true := by decide +kernel
theorem ckX7_reaches : (ab_lvs tX7_reaches).all (pr_chk false plX7) = true := by decide +kernel
theorem ckX7_bestBit : (ab_lvs tX7_bestBit).all (pr_chk false plX7) = true := by decide +kernel
theorem ckX7_rule : (ab_lvs tX7_rule).all (pr_chk false plX7) = true := by decide +kernel
theorem ckX7_tryRule : (ab_lvs tX7_tryRule).all (pr_chk false plX7) = true := by decide +kernel
theorem ckX7_bestRule : (ab_lvs tX7_bestRule).all (pr_chk false plX7) = true := by decide +kernel
theorem ckX7_gets : (ab_lvs tX7_gets).all (pr_chk false plX7) = true := by decide +kernel
theorem ckX7_tames : (ab_lvs tX7_tames).all (pr_chk false plX7) = true := by decide +kernel
theorem ckX7_tape : (ab_lvs tX7_tape).all (pr_chk false plX7) = true := by decide +kernel
theorem ckX7_strike : (ab_lvs tX7_strike).all (pr_chk false plX7) = true := by decide +kernel
theorem ckX7_known : (ab_lvs tX7_known).all (pr_chk false plX7) = true := by decide +kernel
theorem ckX7_threw : (ab_lvs tX7_threw).all (pr_chk false plX7) = true := by decide +kernel
theorem ckX7_wayFromText : (ab_lvs tX7_wayFromText).all (pr_chk false plX7) = true := by decide +kernel
theorem ckX7_chance : (ab_lvs tX7_chance).all (pr_chk false plX7) = true := by decide +kernel
theorem ckX7_tried : (ab_lvs tX7_tried).all (pr_chk false plX7) = true := by decide +kernel
theorem ckX7_undo : (ab_lvs tX7_undo).all (pr_chk false plX7) = true := by decide +kernel
theorem ckX7_keep : (ab_lvs tX7_keep).all (pr_chk false plX7) = true := by decide +kernel
theorem ckX7_back : (ab_lvs tX7_back).all (pr_chk false plX7) = true := by decide +kernel
theorem ckX7_count : (ab_lvs tX7_count).all (pr_chk false plX7) = true := by decide +kernel
theorem ckX8_init : (ab_lvs tX8_init).all (pr_chk true plX8) = true := by decide +kernel
theorem ckX8_feed : (ab_lvs tX8_feed).all (pr_chk false plX8) = true := by decide +kernel
theorem ckX8_isIn : (ab_lvs tX8_isIn).all (pr_chk false plX8) = true := by decide +kernel
theorem ckX8_wrong : (ab_lvs tX8_wrong).all (pr_chk false plX8) = true := by decide +kernel
theorem ckX8_wordAt : (ab_lvs tX8_wordAt).all (pr_chk false plX8) = true := by decide +kernel
theorem ckX8_isSmall : (ab_lvs tX8_isSmall).all (pr_chk false plX8) = true := by decide +kernel
theorem ckX8_isDigit : (ab_lvs tX8_isDigit).all (pr_chk false plX8) = true := by decide +kernel
theorem ckX8_token : (ab_lvs tX8_token).all (pr_chk false plX8) = true := by decide +kernel
theorem ckX8_signToken : (ab_lvs tX8_signToken).all (pr_chk false plX8) = true := by decide +kernel
theorem ckX8_packed : (ab_lvs tX8_packed).all (pr_chk false plX8) = true := by decide +kernel
theorem ckX8_isKey : (ab_lvs tX8_isKey).all (pr_chk false plX8) = true := by decide +kernel
theorem ckX8_isSign : (ab_lvs tX8_isSign).all (pr_chk false plX8) = true := by decide +kernel
theorem ckX8_number : (ab_lvs tX8_number).all (pr_chk false plX8) = true := by decide +kernel
theorem ckX8_plain : (ab_lvs tX8_plain).all (pr_chk false plX8) = true := by decide +kernel
theorem ckX8_copies : (ab_lvs tX8_copies).all (pr_chk false plX8) = true := by decide +kernel
theorem ckX8_keepText : (ab_lvs tX8_keepText).all (pr_chk false plX8) = true := by decide +kernel
theorem ckX8_find : (ab_lvs tX8_find).all (pr_chk false plX8) = true := by decide +kernel
theorem ckX8_grooveLine : (ab_lvs tX8_grooveLine).all (pr_chk false plX8) = true := by decide +kernel
theorem ckX8_scratLine : (ab_lvs tX8_scratLine).all (pr_chk false plX8) = true := by decide +kernel
theorem ckX8_guestLine : (ab_lvs tX8_guestLine).all (pr_chk false plX8) = true := by decide +kernel
theorem ckX8_onceLine : (ab_lvs tX8_onceLine).all (pr_chk false plX8) = true := by decide +kernel
theorem ckX8_lineRead : (ab_lvs tX8_lineRead).all (pr_chk false plX8) = true := by decide +kernel
theorem ckX8_text : (ab_lvs tX8_text).all (pr_chk false plX8) = true := by decide +kernel
theorem ckX8_fault : (ab_lvs tX8_fault).all (pr_chk false plX8) = true := by decide +kernel
theorem ckX8_named : (ab_lvs tX8_named).all (pr_chk false plX8) = true := by decide +kernel
theorem ckX8_rank : (ab_lvs tX8_rank).all (pr_chk false plX8) = true := by decide +kernel
theorem ckX8_grown : (ab_lvs tX8_grown).all (pr_chk false plX8) = true := by decide +kernel
theorem ckX8_dropHeld : (ab_lvs tX8_dropHeld).all (pr_chk false plX8) = true := by decide +kernel
theorem ckX8_bind : (ab_lvs tX8_bind).all (pr_chk false plX8) = true := by decide +kernel
theorem ckX8_isCounted : (ab_lvs tX8_isCounted).all (pr_chk false plX8) = true := by decide +kernel
theorem ckX8_waitsFor : (ab_lvs tX8_waitsFor).all (pr_chk false plX8) = true := by decide +kernel
theorem ckX8_nameMet : (ab_lvs tX8_nameMet).all (pr_chk false plX8) = true := by decide +kernel
theorem ckX8_leafRead : (ab_lvs tX8_leafRead).all (pr_chk false plX8) = true := by decide +kernel
theorem ckX8_signs : (ab_lvs tX8_signs).all (pr_chk false plX8) = true := by decide +kernel
theorem ckX8_sumRead : (ab_lvs tX8_sumRead).all (pr_chk false plX8) = true := by decide +kernel
theorem ckX8_bounded : (ab_lvs tX8_bounded).all (pr_chk false plX8) = true := by decide +kernel
theorem ckX8_compares : (ab_lvs tX8_compares).all (pr_chk false plX8) = true := by decide +kernel
theorem ckX8_times : (ab_lvs tX8_times).all (pr_chk false plX8) = true := by decide +kernel
theorem ckX8_valueOf : (ab_lvs tX8_valueOf).all (pr_chk false plX8) = true := by decide +kernel
theorem ckX8_begin : (ab_lvs tX8_begin).all (pr_chk false plX8) = true := by decide +kernel
theorem ckX8_atFirst : (ab_lvs tX8_atFirst).all (pr_chk false plX8) = true := by decide +kernel
theorem ckX8_plainTried : (ab_lvs tX8_plainTried).all (pr_chk false plX8) = true := by decide +kernel
theorem ckX8_layTried : (ab_lvs tX8_layTried).all (pr_chk false plX8) = true := by decide +kernel
theorem ckX8_isGroove : (ab_lvs tX8_isGroove).all (pr_chk false plX8) = true := by decide +kernel
theorem ckX8_isScratch : (ab_lvs tX8_isScratch).all (pr_chk false plX8) = true := by decide +kernel
theorem ckX8_isGuest : (ab_lvs tX8_isGuest).all (pr_chk false plX8) = true := by decide +kernel
theorem ckX8_layNames : (ab_lvs tX8_layNames).all (pr_chk false plX8) = true := by decide +kernel
theorem ckX8_lawOf : (ab_lvs tX8_lawOf).all (pr_chk false plX8) = true := by decide +kernel
theorem ckX8_boundLaw : (ab_lvs tX8_boundLaw).all (pr_chk false plX8) = true := by decide +kernel
theorem ckX8_backOf : (ab_lvs tX8_backOf).all (pr_chk false plX8) = true := by decide +kernel
theorem ckX8_wearOf : (ab_lvs tX8_wearOf).all (pr_chk false plX8) = true := by decide +kernel
theorem ckX8_worthOf : (ab_lvs tX8_worthOf).all (pr_chk false plX8) = true := by decide +kernel
theorem ckX8_number1 : (ab_lvs tX8_number1).all (pr_chk false plX8) = true := by decide +kernel
theorem ckX8_wayOf : (ab_lvs tX8_wayOf).all (pr_chk false plX8) = true := by decide +kernel
theorem ckX8_scratchIn : (ab_lvs tX8_scratchIn).all (pr_chk false plX8) = true := by decide +kernel
theorem ckX8_puts : (ab_lvs tX8_puts).all (pr_chk false plX8) = true := by decide +kernel
theorem ckX8_passes : (ab_lvs tX8_passes).all (pr_chk false plX8) = true := by decide +kernel
theorem ckX8_nudges : (ab_lvs tX8_nudges).all (pr_chk false plX8) = true := by decide +kernel
theorem ckX8_guestsRise : (ab_lvs tX8_guestsRise).all (pr_chk false plX8) = true := by decide +kernel
theorem ckX8_playsOne : (ab_lvs tX8_playsOne).all (pr_chk false plX8) = true := by decide +kernel
theorem ckX8_fails : (ab_lvs tX8_fails).all (pr_chk false plX8) = true := by decide +kernel
theorem ckX8_groove : (ab_lvs tX8_groove).all (pr_chk false plX8) = true := by decide +kernel
theorem ckX8_scratch : (ab_lvs tX8_scratch).all (pr_chk false plX8) = true := by decide +kernel
theorem ckX8_guest : (ab_lvs tX8_guest).all (pr_chk false plX8) = true := by decide +kernel
theorem ckX8_law : (ab_lvs tX8_law).all (pr_chk false plX8) = true := by decide +kernel
theorem ckX8_weigh : (ab_lvs tX8_weigh).all (pr_chk false plX8) = true := by decide +kernel
theorem ckX8_nudge : (ab_lvs tX8_nudge).all (pr_chk false plX8) = true := by decide +kernel
theorem ckX8_anew : (ab_lvs tX8_anew).all (pr_chk false plX8) = true := by decide +kernel
theorem ckX8_go : (ab_lvs tX8_go).all (pr_chk false plX8) = true := by decide +kernel
theorem ckX8_out : (ab_lvs tX8_out).all (pr_chk false plX8) = true := by decide +kernel
theorem ckX8_loop : (ab_lvs tX8_loop).all (pr_chk false plX8) = true := by decide +kernel
theorem ckX8_powerOf : (ab_lvs tX8_powerOf).all (pr_chk false plX8) = true := by decide +kernel
theorem ckX8_likely : (ab_lvs tX8_likely).all (pr_chk false plX8) = true := by decide +kernel
theorem ckX8_outBy : (ab_lvs tX8_outBy).all (pr_chk false plX8) = true := by decide +kernel
theorem ckX8_light : (ab_lvs tX8_light).all (pr_chk false plX8) = true := by decide +kernel
theorem ckX8_when : (ab_lvs tX8_when).all (pr_chk false plX8) = true := by decide +kernel
theorem ckX8_plays : (ab_lvs tX8_plays).all (pr_chk false plX8) = true := by decide +kernel
theorem ckX8_missed : (ab_lvs tX8_missed).all (pr_chk false plX8) = true := by decide +kernel
theorem ckX8_restAt : (ab_lvs tX8_restAt).all (pr_chk false plX8) = true := by decide +kernel
theorem ckX8_areTwo : (ab_lvs tX8_areTwo).all (pr_chk false plX8) = true := by decide +kernel
theorem ckX8_rests : (ab_lvs tX8_rests).all (pr_chk false plX8) = true := by decide +kernel
theorem ckX8_rest : (ab_lvs tX8_rest).all (pr_chk false plX8) = true := by decide +kernel
theorem ckX8_needle : (ab_lvs tX8_needle).all (pr_chk false plX8) = true := by decide +kernel
theorem ckX8_most : (ab_lvs tX8_most).all (pr_chk false plX8) = true := by decide +kernel
theorem ckX8_reaches : (ab_lvs tX8_reaches).all (pr_chk false plX8) = true := by decide +kernel
theorem ckX8_bestBit : (ab_lvs tX8_bestBit).all (pr_chk false plX8) = true := by decide +kernel
theorem ckX8_heardBy : (ab_lvs tX8_heardBy).all (pr_chk false plX8) = true := by decide +kernel
theorem ckX8_rule : (ab_lvs tX8_rule).all (pr_chk false plX8) = true := by decide +kernel
theorem ckX8_bestRule : (ab_lvs tX8_bestRule).all (pr_chk false plX8) = true := by decide +kernel
theorem ckX8_gets : (ab_lvs tX8_gets).all (pr_chk false plX8) = true := by decide +kernel
theorem ckX8_tames : (ab_lvs tX8_tames).all (pr_chk false plX8) = true := by decide +kernel
theorem ckX8_noted : (ab_lvs tX8_noted).all (pr_chk false plX8) = true := by decide +kernel
theorem ckX8_tape : (ab_lvs tX8_tape).all (pr_chk false plX8) = true := by decide +kernel
theorem ckX8_strike : (ab_lvs tX8_strike).all (pr_chk false plX8) = true := by decide +kernel
theorem ckX8_known : (ab_lvs tX8_known).all (pr_chk false plX8) = true := by decide +kernel
theorem ckX8_knownBy : (ab_lvs tX8_knownBy).all (pr_chk false plX8) = true := by decide +kernel
theorem ckX8_isSo : (ab_lvs tX8_isSo).all (pr_chk false plX8) = true := by decide +kernel
theorem ckX8_fits : (ab_lvs tX8_fits).all (pr_chk false plX8) = true := by decide +kernel
theorem ckX8_threw : (ab_lvs tX8_threw).all (pr_chk false plX8) = true := by decide +kernel
theorem ckX8_chance : (ab_lvs tX8_chance).all (pr_chk false plX8) = true := by decide +kernel
theorem ckX8_tried : (ab_lvs tX8_tried).all (pr_chk false plX8) = true := by decide +kernel
theorem ckX8_remember : (ab_lvs tX8_remember).all (pr_chk false plX8) = true := by decide +kernel
theorem ckX8_undo : (ab_lvs tX8_undo).all (pr_chk false plX8) = true := by decide +kernel
theorem ckX8_keep : (ab_lvs tX8_keep).all (pr_chk false plX8) = true := by decide +kernel
theorem ckX8_back : (ab_lvs tX8_back).all (pr_chk false plX8) = true := by decide +kernel
theorem ckX8_count : (ab_lvs tX8_count).all (pr_chk false plX8) = true := by decide +kernel
theorem ckJ6_bitCount_0f7a4 : (ab_lvs tJ6_bitCount_0f7a4).all (pr_chk false plJ6) = true := by decide +kernel
theorem ckX7_groove : (ab_lvs tX7_groove).all (pr_chk false plX7) = true := by decide +kernel
end
section
theorem omL_law : pr_om (yL_law, cL_law, 7, some .boolean, 1, 0, 0) (1, 0, 0, 7, 2, tL_law) := pr_om_of plL_ok dkL_law ckL_law
theorem omX0_init : pr_om (yX0_init, cX0_init, 1, none, 0, 2, 0) (0, 2, 0, 1, 0, tX0_init) := pr_om_of plX0_ok dkX0_init ckX0_init
theorem omX0_wipe : pr_om (yX0_wipe, cX0_wipe, 2, none, 0, 1, 0) (0, 1, 0, 2, 0, tX0_wipe) := pr_om_of plX0_ok dkX0_wipe ckX0_wipe
theorem omX0_add : pr_om (yX0_add, cX0_add, 2, none, 1, 1, 0) (1, 1, 0, 2, 0, tX0_add) := pr_om_of plX0_ok dkX0_add ckX0_add
theorem omX0_work : pr_om (yX0_work, cX0_work, 7, some .long, 1, 1, 0) (1, 1, 0, 7, 3, tX0_work) := pr_om_of plX0_ok dkX0_work ckX0_work
theorem omX0_apply : pr_om (yX0_apply, cX0_apply, 9, some .long, 3, 0, 0) (3, 0, 0, 9, 3, tX0_apply) := pr_om_of plX0_ok dkX0_apply ckX0_apply
theorem omX1_init : pr_om (yX1_init, cX1_init, 1, none, 0, 2, 1) (0, 2, 1, 1, 0, tX1_init) := pr_om_of plX1_ok dkX1_init ckX1_init
theorem omX1_start : pr_om (yX1_start, cX1_start, 3, none, 1, 1, 1) (1, 1, 1, 3, 0, tX1_start) := pr_om_of plX1_ok dkX1_start ckX1_start
theorem omX1_copy : pr_om (yX1_copy, cX1_copy, 2, none, 1, 1, 1) (1, 1, 1, 2, 0, tX1_copy) := pr_om_of plX1_ok dkX1_copy ckX1_copy
theorem omX1_rewind : pr_om (yX1_rewind, cX1_rewind, 2, none, 1, 1, 1) (1, 1, 1, 2, 0, tX1_rewind) := pr_om_of plX1_ok dkX1_rewind ckX1_rewind
theorem omX1_push : pr_om (yX1_push, cX1_push, 3, none, 2, 1, 1) (2, 1, 1, 3, 0, tX1_push) := pr_om_of plX1_ok dkX1_push ckX1_push
theorem omX1_move : pr_om (yX1_move, cX1_move, 4, none, 2, 1, 1) (2, 1, 1, 4, 0, tX1_move) := pr_om_of plX1_ok dkX1_move ckX1_move
theorem omX1_draw : pr_om (yX1_draw, cX1_draw, 1, some .int, 0, 1, 1) (0, 1, 1, 1, 1, tX1_draw) := pr_om_of plX1_ok dkX1_draw ckX1_draw
theorem omX2_init : pr_om (yX2_init, cX2_init, 3, none, 2, 2, 2) (2, 2, 2, 3, 0, tX2_init) := pr_om_of plX2_ok dkX2_init ckX2_init
theorem omX2_take : pr_om (yX2_take, cX2_take, 3, none, 2, 1, 2) (2, 1, 2, 3, 0, tX2_take) := pr_om_of plX2_ok dkX2_take ckX2_take
theorem omX2_run : pr_om (yX2_run, cX2_run, 3, some .int, 1, 1, 2) (1, 1, 2, 3, 1, tX2_run) := pr_om_of plX2_ok dkX2_run ckX2_run
theorem omX2_turn : pr_om (yX2_turn, cX2_turn, 6, none, 0, 1, 2) (0, 1, 2, 6, 0, tX2_turn) := pr_om_of plX2_ok dkX2_turn ckX2_turn
theorem omX2_drawnWay : pr_om (yX2_drawnWay, cX2_drawnWay, 4, some .int, 2, 1, 2) (2, 1, 2, 4, 1, tX2_drawnWay) := pr_om_of plX2_ok dkX2_drawnWay ckX2_drawnWay
theorem omX2_likelyWay : pr_om (yX2_likelyWay, cX2_likelyWay, 2, some .int, 2, 0, 2) (2, 0, 2, 2, 1, tX2_likelyWay) := pr_om_of plX2_ok dkX2_likelyWay ckX2_likelyWay
theorem omX2_throwNeedle : pr_om (yX2_throwNeedle, cX2_throwNeedle, 5, none, 2, 1, 2) (2, 1, 2, 5, 0, tX2_throwNeedle) := pr_om_of plX2_ok dkX2_throwNeedle ckX2_throwNeedle
theorem omX2_listen : pr_om (yX2_listen, cX2_listen, 3, none, 0, 1, 2) (0, 1, 2, 3, 0, tX2_listen) := pr_om_of plX2_ok dkX2_listen ckX2_listen
theorem omX2_backOdds : pr_om (yX2_backOdds, cX2_backOdds, 4, some .int, 1, 1, 2) (1, 1, 2, 4, 1, tX2_backOdds) := pr_om_of plX2_ok dkX2_backOdds ckX2_backOdds
theorem omX2_onOdds : pr_om (yX2_onOdds, cX2_onOdds, 4, some .int, 2, 1, 2) (2, 1, 2, 4, 1, tX2_onOdds) := pr_om_of plX2_ok dkX2_onOdds ckX2_onOdds
theorem omX2_wearOf : pr_om (yX2_wearOf, cX2_wearOf, 4, some .int, 1, 1, 2) (1, 1, 2, 4, 1, tX2_wearOf) := pr_om_of plX2_ok dkX2_wearOf ckX2_wearOf
theorem omX2_worthOf : pr_om (yX2_worthOf, cX2_worthOf, 4, some .int, 1, 1, 2) (1, 1, 2, 4, 1, tX2_worthOf) := pr_om_of plX2_ok dkX2_worthOf ckX2_worthOf
theorem omX2_cut : pr_om (yX2_cut, cX2_cut, 3, some .int, 2, 0, 2) (2, 0, 2, 3, 1, tX2_cut) := pr_om_of plX2_ok dkX2_cut ckX2_cut
theorem omX2_nameScratch : pr_om (yX2_nameScratch, cX2_nameScratch, 3, none, 1, 1, 2) (1, 1, 2, 3, 0, tX2_nameScratch) := pr_om_of plX2_ok dkX2_nameScratch ckX2_nameScratch
theorem omX2_nameGroove : pr_om (yX2_nameGroove, cX2_nameGroove, 3, none, 1, 1, 2) (1, 1, 2, 3, 0, tX2_nameGroove) := pr_om_of plX2_ok dkX2_nameGroove ckX2_nameGroove
theorem omX2_spread : pr_om (yX2_spread, cX2_spread, 15, none, 3, 1, 2) (3, 1, 2, 15, 0, tX2_spread) := pr_om_of plX2_ok dkX2_spread ckX2_spread
theorem omX3_init : pr_om (yX3_init, cX3_init, 7, none, 2, 2, 3) (2, 2, 3, 7, 0, tX3_init) := pr_om_of plX3_ok dkX3_init ckX3_init
theorem omX3_read : pr_om (yX3_read, cX3_read, 4, some .boolean, 2, 1, 3) (2, 1, 3, 4, 2, tX3_read) := pr_om_of plX3_ok dkX3_read ckX3_read
theorem omX3_flaw : pr_om (yX3_flaw, cX3_flaw, 3, none, 2, 1, 3) (2, 1, 3, 3, 0, tX3_flaw) := pr_om_of plX3_ok dkX3_flaw ckX3_flaw
theorem omX3_readLine : pr_om (yX3_readLine, cX3_readLine, 1, none, 0, 1, 3) (0, 1, 3, 1, 0, tX3_readLine) := pr_om_of plX3_ok dkX3_readLine ckX3_readLine
theorem omX3_readGroove : pr_om (yX3_readGroove, cX3_readGroove, 2, none, 0, 1, 3) (0, 1, 3, 2, 0, tX3_readGroove) := pr_om_of plX3_ok dkX3_readGroove ckX3_readGroove
theorem omX3_readScratch : pr_om (yX3_readScratch, cX3_readScratch, 5, none, 0, 1, 3) (0, 1, 3, 5, 0, tX3_readScratch) := pr_om_of plX3_ok dkX3_readScratch ckX3_readScratch
theorem omX3_readGuest : pr_om (yX3_readGuest, cX3_readGuest, 3, none, 0, 1, 3) (0, 1, 3, 3, 0, tX3_readGuest) := pr_om_of plX3_ok dkX3_readGuest ckX3_readGuest
theorem omX3_readOnce : pr_om (yX3_readOnce, cX3_readOnce, 2, none, 1, 1, 3) (1, 1, 3, 2, 0, tX3_readOnce) := pr_om_of plX3_ok dkX3_readOnce ckX3_readOnce
theorem omX3_readNumber : pr_om (yX3_readNumber, cX3_readNumber, 4, some .int, 2, 1, 3) (2, 1, 3, 4, 1, tX3_readNumber) := pr_om_of plX3_ok dkX3_readNumber ckX3_readNumber
theorem omX3_readLaw : pr_om (yX3_readLaw, cX3_readLaw, 5, none, 0, 1, 3) (0, 1, 3, 5, 0, tX3_readLaw) := pr_om_of plX3_ok dkX3_readLaw ckX3_readLaw
theorem omX3_readOperand : pr_om (yX3_readOperand, cX3_readOperand, 1, some .boolean, 0, 1, 3) (0, 1, 3, 1, 2, tX3_readOperand) := pr_om_of plX3_ok dkX3_readOperand ckX3_readOperand
theorem omX3_readSign : pr_om (yX3_readSign, cX3_readSign, 2, some .boolean, 0, 1, 3) (0, 1, 3, 2, 2, tX3_readSign) := pr_om_of plX3_ok dkX3_readSign ckX3_readSign
theorem omX3_waitingRank : pr_om (yX3_waitingRank, cX3_waitingRank, 1, some .int, 0, 1, 3) (0, 1, 3, 1, 1, tX3_waitingRank) := pr_om_of plX3_ok dkX3_waitingRank ckX3_waitingRank
theorem omX3_unwind : pr_om (yX3_unwind, cX3_unwind, 2, none, 1, 1, 3) (1, 1, 3, 2, 0, tX3_unwind) := pr_om_of plX3_ok dkX3_unwind ckX3_unwind
theorem omX3_push : pr_om (yX3_push, cX3_push, 2, none, 1, 1, 3) (1, 1, 3, 2, 0, tX3_push) := pr_om_of plX3_ok dkX3_push ckX3_push
theorem omX3_tie : pr_om (yX3_tie, cX3_tie, 1, none, 0, 1, 3) (0, 1, 3, 1, 0, tX3_tie) := pr_om_of plX3_ok dkX3_tie ckX3_tie
theorem omX3_next : pr_om (yX3_next, cX3_next, 2, none, 0, 1, 3) (0, 1, 3, 2, 0, tX3_next) := pr_om_of plX3_ok dkX3_next ckX3_next
theorem omX3_nextNumber : pr_om (yX3_nextNumber, cX3_nextNumber, 1, none, 0, 1, 3) (0, 1, 3, 1, 0, tX3_nextNumber) := pr_om_of plX3_ok dkX3_nextNumber ckX3_nextNumber
theorem omX3_nextWord : pr_om (yX3_nextWord, cX3_nextWord, 3, none, 0, 1, 3) (0, 1, 3, 3, 0, tX3_nextWord) := pr_om_of plX3_ok dkX3_nextWord ckX3_nextWord
theorem omX3_takeLanguageWord : pr_om (yX3_takeLanguageWord, cX3_takeLanguageWord, 2, none, 1, 1, 3) (1, 1, 3, 2, 0, tX3_takeLanguageWord) := pr_om_of plX3_ok dkX3_takeLanguageWord ckX3_takeLanguageWord
theorem omX3_sign : pr_om (yX3_sign, cX3_sign, 2, some .int, 1, 1, 3) (1, 1, 3, 2, 1, tX3_sign) := pr_om_of plX3_ok dkX3_sign ckX3_sign
theorem omX3_follows : pr_om (yX3_follows, cX3_follows, 2, some .boolean, 1, 1, 3) (1, 1, 3, 2, 2, tX3_follows) := pr_om_of plX3_ok dkX3_follows ckX3_follows
theorem omX4_init : pr_om (yX4_init, cX4_init, 1, none, 0, 2, 4) (0, 2, 4, 1, 0, tX4_init) := pr_om_of plX4_ok dkX4_init ckX4_init
theorem omX4_wipe : pr_om (yX4_wipe, cX4_wipe, 2, none, 0, 1, 4) (0, 1, 4, 2, 0, tX4_wipe) := pr_om_of plX4_ok dkX4_wipe ckX4_wipe
theorem omX4_guestNamed : pr_om (yX4_guestNamed, cX4_guestNamed, 3, some .int, 1, 1, 4) (1, 1, 4, 3, 1, tX4_guestNamed) := pr_om_of plX4_ok dkX4_guestNamed ckX4_guestNamed
theorem omX5_init : pr_om (yX5_init, cX5_init, 1, none, 0, 2, 5) (0, 2, 5, 1, 0, tX5_init) := pr_om_of plX5_ok dkX5_init ckX5_init
theorem omX5_remember : pr_om (yX5_remember, cX5_remember, 2, none, 1, 1, 5) (1, 1, 5, 2, 0, tX5_remember) := pr_om_of plX5_ok dkX5_remember ckX5_remember
theorem omX5_recall : pr_om (yX5_recall, cX5_recall, 2, none, 1, 1, 5) (1, 1, 5, 2, 0, tX5_recall) := pr_om_of plX5_ok dkX5_recall ckX5_recall
theorem omX6_init : pr_om (yX6_init, cX6_init, 1, none, 0, 2, 6) (0, 2, 6, 1, 0, tX6_init) := pr_om_of plX6_ok dkX6_init ckX6_init
theorem omX6_wipe : pr_om (yX6_wipe, cX6_wipe, 1, none, 0, 1, 6) (0, 1, 6, 1, 0, tX6_wipe) := pr_om_of plX6_ok dkX6_wipe ckX6_wipe
theorem omX6_add : pr_om (yX6_add, cX6_add, 5, some .int, 4, 1, 6) (4, 1, 6, 5, 1, tX6_add) := pr_om_of plX6_ok dkX6_add ckX6_add
theorem omX6_knownCount : pr_om (yX6_knownCount, cX6_knownCount, 1, some .int, 0, 1, 6) (0, 1, 6, 1, 1, tX6_knownCount) := pr_om_of plX6_ok dkX6_knownCount ckX6_knownCount
theorem omX6_markStruck : pr_om (yX6_markStruck, cX6_markStruck, 2, none, 0, 1, 6) (0, 1, 6, 2, 0, tX6_markStruck) := pr_om_of plX6_ok dkX6_markStruck ckX6_markStruck
theorem omX6_agrees : pr_om (yX6_agrees, cX6_agrees, 3, some .boolean, 1, 1, 6) (1, 1, 6, 3, 2, tX6_agrees) := pr_om_of plX6_ok dkX6_agrees ckX6_agrees
theorem omX7_init : pr_om (yX7_init, cX7_init, 1, none, 0, 2, 7) (0, 2, 7, 1, 0, tX7_init) := pr_om_of plX7_ok dkX7_init ckX7_init
theorem omX7_feed : pr_om (yX7_feed, cX7_feed, 6, some .int, 5, 1, 7) (5, 1, 7, 6, 1, tX7_feed) := pr_om_of plX7_ok dkX7_feed ckX7_feed
theorem omX7_putBytes : pr_om (yX7_putBytes, cX7_putBytes, 3, none, 1, 1, 7) (1, 1, 7, 3, 0, tX7_putBytes) := pr_om_of plX7_ok dkX7_putBytes ckX7_putBytes
theorem omX7_text : pr_om (yX7_text, cX7_text, 4, some .int, 1, 1, 7) (1, 1, 7, 4, 1, tX7_text) := pr_om_of plX7_ok dkX7_text ckX7_text
theorem omX7_fault : pr_om (yX7_fault, cX7_fault, 2, some .int, 1, 1, 7) (1, 1, 7, 2, 1, tX7_fault) := pr_om_of plX7_ok dkX7_fault ckX7_fault
theorem omX7_named : pr_om (yX7_named, cX7_named, 2, some .int, 1, 1, 7) (1, 1, 7, 2, 1, tX7_named) := pr_om_of plX7_ok dkX7_named ckX7_named
theorem omX7_scratch : pr_om (yX7_scratch, cX7_scratch, 3, some .int, 2, 1, 7) (2, 1, 7, 3, 1, tX7_scratch) := pr_om_of plX7_ok dkX7_scratch ckX7_scratch
theorem omX7_guest : pr_om (yX7_guest, cX7_guest, 3, some .int, 2, 1, 7) (2, 1, 7, 3, 1, tX7_guest) := pr_om_of plX7_ok dkX7_guest ckX7_guest
theorem omX7_law : pr_om (yX7_law, cX7_law, 3, some .long, 2, 1, 7) (2, 1, 7, 3, 3, tX7_law) := pr_om_of plX7_ok dkX7_law ckX7_law
theorem omX7_isGroove : pr_om (yX7_isGroove, cX7_isGroove, 2, some .boolean, 1, 1, 7) (1, 1, 7, 2, 2, tX7_isGroove) := pr_om_of plX7_ok dkX7_isGroove ckX7_isGroove
theorem omX7_isScratch : pr_om (yX7_isScratch, cX7_isScratch, 2, some .boolean, 1, 1, 7) (1, 1, 7, 2, 2, tX7_isScratch) := pr_om_of plX7_ok dkX7_isScratch ckX7_isScratch
theorem omX7_isGuest : pr_om (yX7_isGuest, cX7_isGuest, 2, some .boolean, 1, 1, 7) (1, 1, 7, 2, 2, tX7_isGuest) := pr_om_of plX7_ok dkX7_isGuest ckX7_isGuest
theorem omX7_within : pr_om (yX7_within, cX7_within, 3, some .boolean, 3, 0, 7) (3, 0, 7, 3, 2, tX7_within) := pr_om_of plX7_ok dkX7_within ckX7_within
theorem omX7_weigh : pr_om (yX7_weigh, cX7_weigh, 2, some .boolean, 1, 1, 7) (1, 1, 7, 2, 2, tX7_weigh) := pr_om_of plX7_ok dkX7_weigh ckX7_weigh
theorem omX7_nudge : pr_om (yX7_nudge, cX7_nudge, 2, some .int, 1, 1, 7) (1, 1, 7, 2, 1, tX7_nudge) := pr_om_of plX7_ok dkX7_nudge ckX7_nudge
theorem omX7_anew : pr_om (yX7_anew, cX7_anew, 1, some .boolean, 0, 1, 7) (0, 1, 7, 1, 2, tX7_anew) := pr_om_of plX7_ok dkX7_anew ckX7_anew
theorem omX7_go : pr_om (yX7_go, cX7_go, 3, some .int, 1, 1, 7) (1, 1, 7, 3, 1, tX7_go) := pr_om_of plX7_ok dkX7_go ckX7_go
theorem omX7_out : pr_om (yX7_out, cX7_out, 4, some .int, 2, 1, 7) (2, 1, 7, 4, 1, tX7_out) := pr_om_of plX7_ok dkX7_out ckX7_out
theorem omX7_tryNow : pr_om (yX7_tryNow, cX7_tryNow, 2, none, 1, 1, 7) (1, 1, 7, 2, 0, tX7_tryNow) := pr_om_of plX7_ok dkX7_tryNow ckX7_tryNow
theorem omX7_loop : pr_om (yX7_loop, cX7_loop, 3, some .int, 0, 1, 7) (0, 1, 7, 3, 1, tX7_loop) := pr_om_of plX7_ok dkX7_loop ckX7_loop
theorem omX7_likely : pr_om (yX7_likely, cX7_likely, 8, some .long, 3, 1, 7) (3, 1, 7, 8, 3, tX7_likely) := pr_om_of plX7_ok dkX7_likely ckX7_likely
theorem omX7_hundreds : pr_om (yX7_hundreds, cX7_hundreds, 4, some .long, 1, 0, 7) (1, 0, 7, 4, 3, tX7_hundreds) := pr_om_of plX7_ok dkX7_hundreds ckX7_hundreds
theorem omX7_greatestCommon : pr_om (yX7_greatestCommon, cX7_greatestCommon, 11, some .long, 2, 0, 7) (2, 0, 7, 11, 3, tX7_greatestCommon) := pr_om_of plX7_ok dkX7_greatestCommon ckX7_greatestCommon
theorem omX7_light : pr_om (yX7_light, cX7_light, 6, some .int, 1, 1, 7) (1, 1, 7, 6, 1, tX7_light) := pr_om_of plX7_ok dkX7_light ckX7_light
theorem omX7_when : pr_om (yX7_when, cX7_when, 7, some .int, 2, 1, 7) (2, 1, 7, 7, 1, tX7_when) := pr_om_of plX7_ok dkX7_when ckX7_when
theorem omX7_plays : pr_om (yX7_plays, cX7_plays, 2, some .int, 0, 1, 7) (0, 1, 7, 2, 1, tX7_plays) := pr_om_of plX7_ok dkX7_plays ckX7_plays
theorem omX7_missed : pr_om (yX7_missed, cX7_missed, 4, some .int, 1, 1, 7) (1, 1, 7, 4, 1, tX7_missed) := pr_om_of plX7_ok dkX7_missed ckX7_missed
theorem omX7_rests : pr_om (yX7_rests, cX7_rests, 3, some .int, 2, 1, 7) (2, 1, 7, 3, 1, tX7_rests) := pr_om_of plX7_ok dkX7_rests ckX7_rests
theorem omX7_rest : pr_om (yX7_rest, cX7_rest, 7, some .int, 3, 1, 7) (3, 1, 7, 7, 1, tX7_rest) := pr_om_of plX7_ok dkX7_rest ckX7_rest
theorem omX7_canWait : pr_om (yX7_canWait, cX7_canWait, 3, some .boolean, 2, 1, 7) (2, 1, 7, 3, 2, tX7_canWait) := pr_om_of plX7_ok dkX7_canWait ckX7_canWait
theorem omX7_restBits : pr_om (yX7_restBits, cX7_restBits, 14, some .int, 2, 1, 7) (2, 1, 7, 14, 1, tX7_restBits) := pr_om_of plX7_ok dkX7_restBits ckX7_restBits
theorem omX7_waited : pr_om (yX7_waited, cX7_waited, 3, some .int, 1, 1, 7) (1, 1, 7, 3, 1, tX7_waited) := pr_om_of plX7_ok dkX7_waited ckX7_waited
theorem omX7_needle : pr_om (yX7_needle, cX7_needle, 6, some .int, 1, 1, 7) (1, 1, 7, 6, 1, tX7_needle) := pr_om_of plX7_ok dkX7_needle ckX7_needle
theorem omX7_most : pr_om (yX7_most, cX7_most, 3, some .int, 0, 1, 7) (0, 1, 7, 3, 1, tX7_most) := pr_om_of plX7_ok dkX7_most ckX7_most
theorem omX7_reaches : pr_om (yX7_reaches, cX7_reaches, 4, some .int, 2, 1, 7) (2, 1, 7, 4, 1, tX7_reaches) := pr_om_of plX7_ok dkX7_reaches ckX7_reaches
theorem omX7_bestBit : pr_om (yX7_bestBit, cX7_bestBit, 7, some .int, 1, 1, 7) (1, 1, 7, 7, 1, tX7_bestBit) := pr_om_of plX7_ok dkX7_bestBit ckX7_bestBit
theorem omX7_rule : pr_om (yX7_rule, cX7_rule, 4, some .int, 3, 1, 7) (3, 1, 7, 4, 1, tX7_rule) := pr_om_of plX7_ok dkX7_rule ckX7_rule
theorem omX7_tryRule : pr_om (yX7_tryRule, cX7_tryRule, 3, none, 2, 1, 7) (2, 1, 7, 3, 0, tX7_tryRule) := pr_om_of plX7_ok dkX7_tryRule ckX7_tryRule
theorem omX7_bestRule : pr_om (yX7_bestRule, cX7_bestRule, 9, some .int, 2, 1, 7) (2, 1, 7, 9, 1, tX7_bestRule) := pr_om_of plX7_ok dkX7_bestRule ckX7_bestRule
theorem omX7_gets : pr_om (yX7_gets, cX7_gets, 3, some .int, 2, 1, 7) (2, 1, 7, 3, 1, tX7_gets) := pr_om_of plX7_ok dkX7_gets ckX7_gets
theorem omX7_tames : pr_om (yX7_tames, cX7_tames, 3, some .int, 1, 1, 7) (1, 1, 7, 3, 1, tX7_tames) := pr_om_of plX7_ok dkX7_tames ckX7_tames
theorem omX7_tape : pr_om (yX7_tape, cX7_tape, 4, some .int, 3, 1, 7) (3, 1, 7, 4, 1, tX7_tape) := pr_om_of plX7_ok dkX7_tape ckX7_tape
theorem omX7_strike : pr_om (yX7_strike, cX7_strike, 2, some .int, 1, 1, 7) (1, 1, 7, 2, 1, tX7_strike) := pr_om_of plX7_ok dkX7_strike ckX7_strike
theorem omX7_known : pr_om (yX7_known, cX7_known, 2, some .boolean, 1, 1, 7) (1, 1, 7, 2, 2, tX7_known) := pr_om_of plX7_ok dkX7_known ckX7_known
theorem omX7_threw : pr_om (yX7_threw, cX7_threw, 4, some .int, 1, 1, 7) (1, 1, 7, 4, 1, tX7_threw) := pr_om_of plX7_ok dkX7_threw ckX7_threw
theorem omX7_wayFromText : pr_om (yX7_wayFromText, cX7_wayFromText, 4, none, 2, 1, 7) (2, 1, 7, 4, 0, tX7_wayFromText) := pr_om_of plX7_ok dkX7_wayFromText ckX7_wayFromText
theorem omX7_chance : pr_om (yX7_chance, cX7_chance, 6, some .int, 2, 1, 7) (2, 1, 7, 6, 1, tX7_chance) := pr_om_of plX7_ok dkX7_chance ckX7_chance
theorem omX7_tried : pr_om (yX7_tried, cX7_tried, 4, some .int, 3, 1, 7) (3, 1, 7, 4, 1, tX7_tried) := pr_om_of plX7_ok dkX7_tried ckX7_tried
theorem omX7_undo : pr_om (yX7_undo, cX7_undo, 1, some .int, 0, 1, 7) (0, 1, 7, 1, 1, tX7_undo) := pr_om_of plX7_ok dkX7_undo ckX7_undo
theorem omX7_keep : pr_om (yX7_keep, cX7_keep, 1, some .int, 0, 1, 7) (0, 1, 7, 1, 1, tX7_keep) := pr_om_of plX7_ok dkX7_keep ckX7_keep
theorem omX7_back : pr_om (yX7_back, cX7_back, 1, some .int, 0, 1, 7) (0, 1, 7, 1, 1, tX7_back) := pr_om_of plX7_ok dkX7_back ckX7_back
theorem omX7_count : pr_om (yX7_count, cX7_count, 2, some .int, 1, 1, 7) (1, 1, 7, 2, 1, tX7_count) := pr_om_of plX7_ok dkX7_count ckX7_count
theorem omX8_init : pr_om (yX8_init, cX8_init, 1, none, 0, 2, 8) (0, 2, 8, 1, 0, tX8_init) := pr_om_of plX8_ok dkX8_init ckX8_init
theorem omX8_feed : pr_om (yX8_feed, cX8_feed, 8, some .int, 5, 1, 8) (5, 1, 8, 8, 1, tX8_feed) := pr_om_of plX8_ok dkX8_feed ckX8_feed
theorem omX8_isIn : pr_om (yX8_isIn, cX8_isIn, 3, some .boolean, 3, 0, 8) (3, 0, 8, 3, 2, tX8_isIn) := pr_om_of plX8_ok dkX8_isIn ckX8_isIn
theorem omX8_wrong : pr_om (yX8_wrong, cX8_wrong, 2, some .boolean, 1, 1, 8) (1, 1, 8, 2, 2, tX8_wrong) := pr_om_of plX8_ok dkX8_wrong ckX8_wrong
theorem omX8_wordAt : pr_om (yX8_wordAt, cX8_wordAt, 8, some .int, 2, 1, 8) (2, 1, 8, 8, 1, tX8_wordAt) := pr_om_of plX8_ok dkX8_wordAt ckX8_wordAt
theorem omX8_isSmall : pr_om (yX8_isSmall, cX8_isSmall, 2, some .boolean, 1, 1, 8) (1, 1, 8, 2, 2, tX8_isSmall) := pr_om_of plX8_ok dkX8_isSmall ckX8_isSmall
theorem omX8_isDigit : pr_om (yX8_isDigit, cX8_isDigit, 2, some .boolean, 1, 1, 8) (1, 1, 8, 2, 2, tX8_isDigit) := pr_om_of plX8_ok dkX8_isDigit ckX8_isDigit
theorem omX8_token : pr_om (yX8_token, cX8_token, 1, none, 0, 1, 8) (0, 1, 8, 1, 0, tX8_token) := pr_om_of plX8_ok dkX8_token ckX8_token
theorem omX8_signToken : pr_om (yX8_signToken, cX8_signToken, 4, none, 0, 1, 8) (0, 1, 8, 4, 0, tX8_signToken) := pr_om_of plX8_ok dkX8_signToken ckX8_signToken
theorem omX8_packed : pr_om (yX8_packed, cX8_packed, 5, some .int, 2, 1, 8) (2, 1, 8, 5, 1, tX8_packed) := pr_om_of plX8_ok dkX8_packed ckX8_packed
theorem omX8_isKey : pr_om (yX8_isKey, cX8_isKey, 2, some .boolean, 1, 1, 8) (1, 1, 8, 2, 2, tX8_isKey) := pr_om_of plX8_ok dkX8_isKey ckX8_isKey
theorem omX8_isSign : pr_om (yX8_isSign, cX8_isSign, 2, some .boolean, 1, 1, 8) (1, 1, 8, 2, 2, tX8_isSign) := pr_om_of plX8_ok dkX8_isSign ckX8_isSign
theorem omX8_number : pr_om (yX8_number, cX8_number, 3, some .boolean, 2, 1, 8) (2, 1, 8, 3, 2, tX8_number) := pr_om_of plX8_ok dkX8_number ckX8_number
theorem omX8_plain : pr_om (yX8_plain, cX8_plain, 2, none, 0, 1, 8) (0, 1, 8, 2, 0, tX8_plain) := pr_om_of plX8_ok dkX8_plain ckX8_plain
theorem omX8_copies : pr_om (yX8_copies, cX8_copies, 3, none, 2, 0, 8) (2, 0, 8, 3, 0, tX8_copies) := pr_om_of plX8_ok dkX8_copies ckX8_copies
theorem omX8_keepText : pr_om (yX8_keepText, cX8_keepText, 2, none, 0, 1, 8) (0, 1, 8, 2, 0, tX8_keepText) := pr_om_of plX8_ok dkX8_keepText ckX8_keepText
theorem omX8_find : pr_om (yX8_find, cX8_find, 5, some .int, 4, 0, 8) (4, 0, 8, 5, 1, tX8_find) := pr_om_of plX8_ok dkX8_find ckX8_find
theorem omX8_grooveLine : pr_om (yX8_grooveLine, cX8_grooveLine, 1, some .boolean, 0, 1, 8) (0, 1, 8, 1, 2, tX8_grooveLine) := pr_om_of plX8_ok dkX8_grooveLine ckX8_grooveLine
theorem omX8_scratLine : pr_om (yX8_scratLine, cX8_scratLine, 3, some .boolean, 0, 1, 8) (0, 1, 8, 3, 2, tX8_scratLine) := pr_om_of plX8_ok dkX8_scratLine ckX8_scratLine
theorem omX8_guestLine : pr_om (yX8_guestLine, cX8_guestLine, 2, some .boolean, 0, 1, 8) (0, 1, 8, 2, 2, tX8_guestLine) := pr_om_of plX8_ok dkX8_guestLine ckX8_guestLine
theorem omX8_onceLine : pr_om (yX8_onceLine, cX8_onceLine, 3, some .boolean, 2, 1, 8) (2, 1, 8, 3, 2, tX8_onceLine) := pr_om_of plX8_ok dkX8_onceLine ckX8_onceLine
theorem omX8_lineRead : pr_om (yX8_lineRead, cX8_lineRead, 3, some .boolean, 0, 1, 8) (0, 1, 8, 3, 2, tX8_lineRead) := pr_om_of plX8_ok dkX8_lineRead ckX8_lineRead
theorem omX8_text : pr_om (yX8_text, cX8_text, 3, some .int, 1, 1, 8) (1, 1, 8, 3, 1, tX8_text) := pr_om_of plX8_ok dkX8_text ckX8_text
theorem omX8_fault : pr_om (yX8_fault, cX8_fault, 2, some .int, 1, 1, 8) (1, 1, 8, 2, 1, tX8_fault) := pr_om_of plX8_ok dkX8_fault ckX8_fault
theorem omX8_named : pr_om (yX8_named, cX8_named, 2, some .int, 1, 1, 8) (1, 1, 8, 2, 1, tX8_named) := pr_om_of plX8_ok dkX8_named ckX8_named
theorem omX8_rank : pr_om (yX8_rank, cX8_rank, 1, some .int, 1, 0, 8) (1, 0, 8, 1, 1, tX8_rank) := pr_om_of plX8_ok dkX8_rank ckX8_rank
theorem omX8_grown : pr_om (yX8_grown, cX8_grown, 4, none, 3, 1, 8) (3, 1, 8, 4, 0, tX8_grown) := pr_om_of plX8_ok dkX8_grown ckX8_grown
theorem omX8_dropHeld : pr_om (yX8_dropHeld, cX8_dropHeld, 1, some .int, 0, 1, 8) (0, 1, 8, 1, 1, tX8_dropHeld) := pr_om_of plX8_ok dkX8_dropHeld ckX8_dropHeld
theorem omX8_bind : pr_om (yX8_bind, cX8_bind, 5, none, 1, 1, 8) (1, 1, 8, 5, 0, tX8_bind) := pr_om_of plX8_ok dkX8_bind ckX8_bind
theorem omX8_isCounted : pr_om (yX8_isCounted, cX8_isCounted, 1, some .boolean, 0, 1, 8) (0, 1, 8, 1, 2, tX8_isCounted) := pr_om_of plX8_ok dkX8_isCounted ckX8_isCounted
theorem omX8_waitsFor : pr_om (yX8_waitsFor, cX8_waitsFor, 2, none, 1, 1, 8) (1, 1, 8, 2, 0, tX8_waitsFor) := pr_om_of plX8_ok dkX8_waitsFor ckX8_waitsFor
theorem omX8_nameMet : pr_om (yX8_nameMet, cX8_nameMet, 1, some .int, 0, 1, 8) (0, 1, 8, 1, 1, tX8_nameMet) := pr_om_of plX8_ok dkX8_nameMet ckX8_nameMet
theorem omX8_leafRead : pr_om (yX8_leafRead, cX8_leafRead, 2, some .boolean, 0, 1, 8) (0, 1, 8, 2, 2, tX8_leafRead) := pr_om_of plX8_ok dkX8_leafRead ckX8_leafRead
theorem omX8_signs : pr_om (yX8_signs, cX8_signs, 2, some .boolean, 0, 1, 8) (0, 1, 8, 2, 2, tX8_signs) := pr_om_of plX8_ok dkX8_signs ckX8_signs
theorem omX8_sumRead : pr_om (yX8_sumRead, cX8_sumRead, 1, some .boolean, 0, 1, 8) (0, 1, 8, 1, 2, tX8_sumRead) := pr_om_of plX8_ok dkX8_sumRead ckX8_sumRead
theorem omX8_bounded : pr_om (yX8_bounded, cX8_bounded, 3, some .long, 1, 1, 8) (1, 1, 8, 3, 3, tX8_bounded) := pr_om_of plX8_ok dkX8_bounded ckX8_bounded
theorem omX8_compares : pr_om (yX8_compares, cX8_compares, 5, some .boolean, 3, 0, 8) (3, 0, 8, 5, 2, tX8_compares) := pr_om_of plX8_ok dkX8_compares ckX8_compares
theorem omX8_times : pr_om (yX8_times, cX8_times, 6, some .long, 2, 1, 8) (2, 1, 8, 6, 3, tX8_times) := pr_om_of plX8_ok dkX8_times ckX8_times
theorem omX8_valueOf : pr_om (yX8_valueOf, cX8_valueOf, 6, some .long, 1, 1, 8) (1, 1, 8, 6, 3, tX8_valueOf) := pr_om_of plX8_ok dkX8_valueOf ckX8_valueOf
theorem omX8_begin : pr_om (yX8_begin, cX8_begin, 1, none, 0, 1, 8) (0, 1, 8, 1, 0, tX8_begin) := pr_om_of plX8_ok dkX8_begin ckX8_begin
theorem omX8_atFirst : pr_om (yX8_atFirst, cX8_atFirst, 3, none, 1, 1, 8) (1, 1, 8, 3, 0, tX8_atFirst) := pr_om_of plX8_ok dkX8_atFirst ckX8_atFirst
theorem omX8_plainTried : pr_om (yX8_plainTried, cX8_plainTried, 1, none, 0, 1, 8) (0, 1, 8, 1, 0, tX8_plainTried) := pr_om_of plX8_ok dkX8_plainTried ckX8_plainTried
theorem omX8_layTried : pr_om (yX8_layTried, cX8_layTried, 2, none, 0, 1, 8) (0, 1, 8, 2, 0, tX8_layTried) := pr_om_of plX8_ok dkX8_layTried ckX8_layTried
theorem omX8_isGroove : pr_om (yX8_isGroove, cX8_isGroove, 2, some .boolean, 1, 1, 8) (1, 1, 8, 2, 2, tX8_isGroove) := pr_om_of plX8_ok dkX8_isGroove ckX8_isGroove
theorem omX8_isScratch : pr_om (yX8_isScratch, cX8_isScratch, 2, some .boolean, 1, 1, 8) (1, 1, 8, 2, 2, tX8_isScratch) := pr_om_of plX8_ok dkX8_isScratch ckX8_isScratch
theorem omX8_isGuest : pr_om (yX8_isGuest, cX8_isGuest, 2, some .boolean, 1, 1, 8) (1, 1, 8, 2, 2, tX8_isGuest) := pr_om_of plX8_ok dkX8_isGuest ckX8_isGuest
theorem omX8_layNames : pr_om (yX8_layNames, cX8_layNames, 6, none, 5, 1, 8) (5, 1, 8, 6, 0, tX8_layNames) := pr_om_of plX8_ok dkX8_layNames ckX8_layNames
theorem omX8_lawOf : pr_om (yX8_lawOf, cX8_lawOf, 3, some .long, 1, 1, 8) (1, 1, 8, 3, 3, tX8_lawOf) := pr_om_of plX8_ok dkX8_lawOf ckX8_lawOf
theorem omX8_boundLaw : pr_om (yX8_boundLaw, cX8_boundLaw, 6, some .int, 3, 1, 8) (3, 1, 8, 6, 1, tX8_boundLaw) := pr_om_of plX8_ok dkX8_boundLaw ckX8_boundLaw
theorem omX8_backOf : pr_om (yX8_backOf, cX8_backOf, 4, some .int, 2, 1, 8) (2, 1, 8, 4, 1, tX8_backOf) := pr_om_of plX8_ok dkX8_backOf ckX8_backOf
theorem omX8_wearOf : pr_om (yX8_wearOf, cX8_wearOf, 3, some .int, 2, 1, 8) (2, 1, 8, 3, 1, tX8_wearOf) := pr_om_of plX8_ok dkX8_wearOf ckX8_wearOf
theorem omX8_worthOf : pr_om (yX8_worthOf, cX8_worthOf, 3, some .int, 2, 1, 8) (2, 1, 8, 3, 1, tX8_worthOf) := pr_om_of plX8_ok dkX8_worthOf ckX8_worthOf
theorem omX8_number1 : pr_om (yX8_number1, cX8_number1, 2, some .int, 1, 1, 8) (1, 1, 8, 2, 1, tX8_number1) := pr_om_of plX8_ok dkX8_number1 ckX8_number1
theorem omX8_wayOf : pr_om (yX8_wayOf, cX8_wayOf, 4, some .int, 2, 1, 8) (2, 1, 8, 4, 1, tX8_wayOf) := pr_om_of plX8_ok dkX8_wayOf ckX8_wayOf
theorem omX8_scratchIn : pr_om (yX8_scratchIn, cX8_scratchIn, 3, some .int, 1, 1, 8) (1, 1, 8, 3, 1, tX8_scratchIn) := pr_om_of plX8_ok dkX8_scratchIn ckX8_scratchIn
theorem omX8_puts : pr_om (yX8_puts, cX8_puts, 3, none, 2, 1, 8) (2, 1, 8, 3, 0, tX8_puts) := pr_om_of plX8_ok dkX8_puts ckX8_puts
theorem omX8_passes : pr_om (yX8_passes, cX8_passes, 9, none, 3, 1, 8) (3, 1, 8, 9, 0, tX8_passes) := pr_om_of plX8_ok dkX8_passes ckX8_passes
theorem omX8_nudges : pr_om (yX8_nudges, cX8_nudges, 3, none, 2, 1, 8) (2, 1, 8, 3, 0, tX8_nudges) := pr_om_of plX8_ok dkX8_nudges ckX8_nudges
theorem omX8_guestsRise : pr_om (yX8_guestsRise, cX8_guestsRise, 3, none, 1, 1, 8) (1, 1, 8, 3, 0, tX8_guestsRise) := pr_om_of plX8_ok dkX8_guestsRise ckX8_guestsRise
theorem omX8_playsOne : pr_om (yX8_playsOne, cX8_playsOne, 5, none, 1, 1, 8) (1, 1, 8, 5, 0, tX8_playsOne) := pr_om_of plX8_ok dkX8_playsOne ckX8_playsOne
theorem omX8_fails : pr_om (yX8_fails, cX8_fails, 2, some .int, 1, 1, 8) (1, 1, 8, 2, 1, tX8_fails) := pr_om_of plX8_ok dkX8_fails ckX8_fails
theorem omX8_groove : pr_om (yX8_groove, cX8_groove, 3, some .int, 2, 1, 8) (2, 1, 8, 3, 1, tX8_groove) := pr_om_of plX8_ok dkX8_groove ckX8_groove
theorem omX8_scratch : pr_om (yX8_scratch, cX8_scratch, 3, some .int, 2, 1, 8) (2, 1, 8, 3, 1, tX8_scratch) := pr_om_of plX8_ok dkX8_scratch ckX8_scratch
theorem omX8_guest : pr_om (yX8_guest, cX8_guest, 3, some .int, 2, 1, 8) (2, 1, 8, 3, 1, tX8_guest) := pr_om_of plX8_ok dkX8_guest ckX8_guest
theorem omX8_law : pr_om (yX8_law, cX8_law, 5, some .long, 2, 1, 8) (2, 1, 8, 5, 3, tX8_law) := pr_om_of plX8_ok dkX8_law ckX8_law
theorem omX8_weigh : pr_om (yX8_weigh, cX8_weigh, 2, some .boolean, 1, 1, 8) (1, 1, 8, 2, 2, tX8_weigh) := pr_om_of plX8_ok dkX8_weigh ckX8_weigh
theorem omX8_nudge : pr_om (yX8_nudge, cX8_nudge, 2, some .int, 1, 1, 8) (1, 1, 8, 2, 1, tX8_nudge) := pr_om_of plX8_ok dkX8_nudge ckX8_nudge
theorem omX8_anew : pr_om (yX8_anew, cX8_anew, 1, some .boolean, 0, 1, 8) (0, 1, 8, 1, 2, tX8_anew) := pr_om_of plX8_ok dkX8_anew ckX8_anew
theorem omX8_go : pr_om (yX8_go, cX8_go, 3, some .int, 1, 1, 8) (1, 1, 8, 3, 1, tX8_go) := pr_om_of plX8_ok dkX8_go ckX8_go
theorem omX8_out : pr_om (yX8_out, cX8_out, 4, some .int, 2, 1, 8) (2, 1, 8, 4, 1, tX8_out) := pr_om_of plX8_ok dkX8_out ckX8_out
theorem omX8_loop : pr_om (yX8_loop, cX8_loop, 3, some .int, 0, 1, 8) (0, 1, 8, 3, 1, tX8_loop) := pr_om_of plX8_ok dkX8_loop ckX8_loop
theorem omX8_powerOf : pr_om (yX8_powerOf, cX8_powerOf, 4, some .int, 2, 0, 8) (2, 0, 8, 4, 1, tX8_powerOf) := pr_om_of plX8_ok dkX8_powerOf ckX8_powerOf
theorem omX8_likely : pr_om (yX8_likely, cX8_likely, 14, some .long, 3, 1, 8) (3, 1, 8, 14, 3, tX8_likely) := pr_om_of plX8_ok dkX8_likely ckX8_likely
theorem omX8_outBy : pr_om (yX8_outBy, cX8_outBy, 3, some .int, 1, 1, 8) (1, 1, 8, 3, 1, tX8_outBy) := pr_om_of plX8_ok dkX8_outBy ckX8_outBy
theorem omX8_light : pr_om (yX8_light, cX8_light, 6, some .int, 1, 1, 8) (1, 1, 8, 6, 1, tX8_light) := pr_om_of plX8_ok dkX8_light ckX8_light
theorem omX8_when : pr_om (yX8_when, cX8_when, 7, some .int, 2, 1, 8) (2, 1, 8, 7, 1, tX8_when) := pr_om_of plX8_ok dkX8_when ckX8_when
theorem omX8_plays : pr_om (yX8_plays, cX8_plays, 4, some .int, 0, 1, 8) (0, 1, 8, 4, 1, tX8_plays) := pr_om_of plX8_ok dkX8_plays ckX8_plays
theorem omX8_missed : pr_om (yX8_missed, cX8_missed, 4, some .int, 1, 1, 8) (1, 1, 8, 4, 1, tX8_missed) := pr_om_of plX8_ok dkX8_missed ckX8_missed
theorem omX8_restAt : pr_om (yX8_restAt, cX8_restAt, 8, some .int, 3, 1, 8) (3, 1, 8, 8, 1, tX8_restAt) := pr_om_of plX8_ok dkX8_restAt ckX8_restAt
theorem omX8_areTwo : pr_om (yX8_areTwo, cX8_areTwo, 3, some .boolean, 2, 1, 8) (2, 1, 8, 3, 2, tX8_areTwo) := pr_om_of plX8_ok dkX8_areTwo ckX8_areTwo
theorem omX8_rests : pr_om (yX8_rests, cX8_rests, 3, some .int, 2, 1, 8) (2, 1, 8, 3, 1, tX8_rests) := pr_om_of plX8_ok dkX8_rests ckX8_rests
theorem omX8_rest : pr_om (yX8_rest, cX8_rest, 4, some .int, 3, 1, 8) (3, 1, 8, 4, 1, tX8_rest) := pr_om_of plX8_ok dkX8_rest ckX8_rest
theorem omX8_needle : pr_om (yX8_needle, cX8_needle, 6, some .int, 1, 1, 8) (1, 1, 8, 6, 1, tX8_needle) := pr_om_of plX8_ok dkX8_needle ckX8_needle
theorem omX8_most : pr_om (yX8_most, cX8_most, 3, some .int, 0, 1, 8) (0, 1, 8, 3, 1, tX8_most) := pr_om_of plX8_ok dkX8_most ckX8_most
theorem omX8_reaches : pr_om (yX8_reaches, cX8_reaches, 4, some .int, 2, 1, 8) (2, 1, 8, 4, 1, tX8_reaches) := pr_om_of plX8_ok dkX8_reaches ckX8_reaches
theorem omX8_bestBit : pr_om (yX8_bestBit, cX8_bestBit, 7, some .int, 1, 1, 8) (1, 1, 8, 7, 1, tX8_bestBit) := pr_om_of plX8_ok dkX8_bestBit ckX8_bestBit
theorem omX8_heardBy : pr_om (yX8_heardBy, cX8_heardBy, 5, some .int, 3, 1, 8) (3, 1, 8, 5, 1, tX8_heardBy) := pr_om_of plX8_ok dkX8_heardBy ckX8_heardBy
theorem omX8_rule : pr_om (yX8_rule, cX8_rule, 4, some .int, 3, 1, 8) (3, 1, 8, 4, 1, tX8_rule) := pr_om_of plX8_ok dkX8_rule ckX8_rule
theorem omX8_bestRule : pr_om (yX8_bestRule, cX8_bestRule, 9, some .int, 2, 1, 8) (2, 1, 8, 9, 1, tX8_bestRule) := pr_om_of plX8_ok dkX8_bestRule ckX8_bestRule
theorem omX8_gets : pr_om (yX8_gets, cX8_gets, 4, some .int, 2, 1, 8) (2, 1, 8, 4, 1, tX8_gets) := pr_om_of plX8_ok dkX8_gets ckX8_gets
theorem omX8_tames : pr_om (yX8_tames, cX8_tames, 4, some .int, 1, 1, 8) (1, 1, 8, 4, 1, tX8_tames) := pr_om_of plX8_ok dkX8_tames ckX8_tames
theorem omX8_noted : pr_om (yX8_noted, cX8_noted, 4, some .int, 3, 1, 8) (3, 1, 8, 4, 1, tX8_noted) := pr_om_of plX8_ok dkX8_noted ckX8_noted
theorem omX8_tape : pr_om (yX8_tape, cX8_tape, 4, some .int, 3, 1, 8) (3, 1, 8, 4, 1, tX8_tape) := pr_om_of plX8_ok dkX8_tape ckX8_tape
theorem omX8_strike : pr_om (yX8_strike, cX8_strike, 2, some .int, 1, 1, 8) (1, 1, 8, 2, 1, tX8_strike) := pr_om_of plX8_ok dkX8_strike ckX8_strike
theorem omX8_known : pr_om (yX8_known, cX8_known, 2, some .boolean, 1, 1, 8) (1, 1, 8, 2, 2, tX8_known) := pr_om_of plX8_ok dkX8_known ckX8_known
theorem omX8_knownBy : pr_om (yX8_knownBy, cX8_knownBy, 1, some .int, 0, 1, 8) (0, 1, 8, 1, 1, tX8_knownBy) := pr_om_of plX8_ok dkX8_knownBy ckX8_knownBy
theorem omX8_isSo : pr_om (yX8_isSo, cX8_isSo, 3, some .boolean, 1, 1, 8) (1, 1, 8, 3, 2, tX8_isSo) := pr_om_of plX8_ok dkX8_isSo ckX8_isSo
theorem omX8_fits : pr_om (yX8_fits, cX8_fits, 4, some .boolean, 2, 1, 8) (2, 1, 8, 4, 2, tX8_fits) := pr_om_of plX8_ok dkX8_fits ckX8_fits
theorem omX8_threw : pr_om (yX8_threw, cX8_threw, 4, some .int, 1, 1, 8) (1, 1, 8, 4, 1, tX8_threw) := pr_om_of plX8_ok dkX8_threw ckX8_threw
theorem omX8_chance : pr_om (yX8_chance, cX8_chance, 8, some .int, 2, 1, 8) (2, 1, 8, 8, 1, tX8_chance) := pr_om_of plX8_ok dkX8_chance ckX8_chance
theorem omX8_tried : pr_om (yX8_tried, cX8_tried, 5, some .int, 3, 1, 8) (3, 1, 8, 5, 1, tX8_tried) := pr_om_of plX8_ok dkX8_tried ckX8_tried
theorem omX8_remember : pr_om (yX8_remember, cX8_remember, 2, none, 0, 1, 8) (0, 1, 8, 2, 0, tX8_remember) := pr_om_of plX8_ok dkX8_remember ckX8_remember
theorem omX8_undo : pr_om (yX8_undo, cX8_undo, 1, some .int, 0, 1, 8) (0, 1, 8, 1, 1, tX8_undo) := pr_om_of plX8_ok dkX8_undo ckX8_undo
theorem omX8_keep : pr_om (yX8_keep, cX8_keep, 2, some .int, 0, 1, 8) (0, 1, 8, 2, 1, tX8_keep) := pr_om_of plX8_ok dkX8_keep ckX8_keep
theorem omX8_back : pr_om (yX8_back, cX8_back, 2, some .int, 0, 1, 8) (0, 1, 8, 2, 1, tX8_back) := pr_om_of plX8_ok dkX8_back ckX8_back
theorem omX8_count : pr_om (yX8_count, cX8_count, 2, some .int, 1, 1, 8) (1, 1, 8, 2, 1, tX8_count) := pr_om_of plX8_ok dkX8_count ckX8_count
theorem omJ6_bitCount_0f7a4 : pr_om (yJ6_bitCount_0f7a4, cJ6_bitCount_0f7a4, 1, some .int, 1, 0, 0) (1, 0, 0, 1, 1, tJ6_bitCount_0f7a4) := pr_om_of plJ6_ok dkJ6_bitCount_0f7a4 ckJ6_bitCount_0f7a4
theorem omX7_groove : pr_om (yX7_groove, cX7_groove, 3, some .int, 2, 1, 7) (2, 1, 7, 3, 1, tX7_groove) := pr_om_of plX7_ok dkX7_groove ckX7_groove
theorem pr_o2_all : pr_o2 pr_pt pr_mt := (And.intro rfl (And.intro (And.intro rfl (And.intro (And.intro rfl (And.intro (And.intro rfl (And.intro (And.intro rfl (And.intro (And.intro rfl (And.intro (And.intro rfl (And.intro (And.intro rfl omL_law) (And.intro rfl (And.intro (And.intro rfl omX0_init) (And.intro rfl omX0_wipe))))) (And.intro rfl (And.intro (And.intro rfl omX0_add) (And.intro rfl (And.intro (And.intro rfl omX0_work) (And.intro rfl omX0_apply))))))) (And.intro rfl (And.intro (And.intro rfl (And.intro (And.intro rfl omX1_init) (And.intro rfl (And.intro (And.intro rfl omX1_start) (And.intro rfl omX1_copy))))) (And.intro rfl (And.intro (And.intro rfl (And.intro (And.intro rfl omX1_rewind) (And.intro rfl omX1_push))) (And.intro rfl (And.intro (And.intro rfl omX1_move) (And.intro rfl omX1_draw))))))))) (And.intro rfl (And.intro (And.intro rfl (And.intro (And.intro rfl (And.intro (And.intro rfl omX2_init) (And.intro rfl (And.intro (And.intro rfl omX2_take) (And.intro rfl omX2_run))))) (And.intro rfl (And.intro (And.intro rfl (And.intro (And.intro rfl omX2_turn) (And.intro rfl omX2_drawnWay))) (And.intro rfl (And.intro (And.intro rfl omX2_likelyWay) (And.intro rfl omX2_throwNeedle))))))) (And.intro rfl (And.intro (And.intro rfl (And.intro (And.intro rfl omX2_listen) (And.intro rfl (And.intro (And.intro rfl omX2_backOdds) (And.intro rfl omX2_onOdds))))) (And.intro rfl (And.intro (And.intro rfl (And.intro (And.intro rfl omX2_wearOf) (And.intro rfl omX2_worthOf))) (And.intro rfl (And.intro (And.intro rfl omX2_cut) (And.intro rfl omX2_nameScratch))))))))))) (And.intro rfl (And.intro (And.intro rfl (And.intro (And.intro rfl (And.intro (And.intro rfl (And.intro (And.intro rfl omX2_nameGroove) (And.intro rfl (And.intro (And.intro rfl omX2_spread) (And.intro rfl omX3_init))))) (And.intro rfl (And.intro (And.intro rfl (And.intro (And.intro rfl omX3_read) (And.intro rfl omX3_flaw))) (And.intro rfl (And.intro (And.intro rfl omX3_readLine) (And.intro rfl omX3_readGroove))))))) (And.intro rfl (And.intro (And.intro rfl (And.intro (And.intro rfl omX3_readScratch) (And.intro rfl (And.intro (And.intro rfl omX3_readGuest) (And.intro rfl omX3_readOnce))))) (And.intro rfl (And.intro (And.intro rfl (And.intro (And.intro rfl omX3_readNumber) (And.intro rfl omX3_readLaw))) (And.intro rfl (And.intro (And.intro rfl omX3_readOperand) (And.intro rfl omX3_readSign))))))))) (And.intro rfl (And.intro (And.intro rfl (And.intro (And.intro rfl (And.intro (And.intro rfl omX3_waitingRank) (And.intro rfl (And.intro (And.intro rfl omX3_unwind) (And.intro rfl omX3_push))))) (And.intro rfl (And.intro (And.intro rfl (And.intro (And.intro rfl omX3_tie) (And.intro rfl omX3_next))) (And.intro rfl (And.intro (And.intro rfl omX3_nextNumber) (And.intro rfl omX3_nextWord))))))) (And.intro rfl (And.intro (And.intro rfl (And.intro (And.intro rfl omX3_takeLanguageWord) (And.intro rfl (And.intro (And.intro rfl omX3_sign) (And.intro rfl omX3_follows))))) (And.intro rfl (And.intro (And.intro rfl (And.intro (And.intro rfl omX4_init) (And.intro rfl omX4_wipe))) (And.intro rfl (And.intro (And.intro rfl omX4_guestNamed) (And.intro rfl omX5_init))))))))))))) (And.intro rfl (And.intro (And.intro rfl (And.intro (And.intro rfl (And.intro (And.intro rfl (And.intro (And.intro rfl (And.intro (And.intro rfl omX5_remember) (And.intro rfl (And.intro (And.intro rfl omX5_recall) (And.intro rfl omX6_init))))) (And.intro rfl (And.intro (And.intro rfl (And.intro (And.intro rfl omX6_wipe) (And.intro rfl omX6_add))) (And.intro rfl (And.intro (And.intro rfl omX6_knownCount) (And.intro rfl omX6_markStruck))))))) (And.intro rfl (And.intro (And.intro rfl (And.intro (And.intro rfl omX6_agrees) (And.intro rfl (And.intro (And.intro rfl omX7_init) (And.intro rfl omX7_feed))))) (And.intro rfl (And.intro (And.intro rfl (And.intro (And.intro rfl omX7_putBytes) (And.intro rfl omX7_text))) (And.intro rfl (And.intro (And.intro rfl omX7_fault) (And.intro rfl omX7_named))))))))) (And.intro rfl (And.intro (And.intro rfl (And.intro (And.intro rfl (And.intro (And.intro rfl omX7_scratch) (And.intro rfl (And.intro (And.intro rfl omX7_guest) (And.intro rfl omX7_law))))) (And.intro rfl (And.intro (And.intro rfl (And.intro (And.intro rfl omX7_isGroove) (And.intro rfl omX7_isScratch))) (And.intro rfl (And.intro (And.intro rfl omX7_isGuest) (And.intro rfl omX7_within))))))) (And.intro rfl (And.intro (And.intro rfl (And.intro (And.intro rfl omX7_weigh) (And.intro rfl (And.intro (And.intro rfl omX7_nudge) (And.intro rfl omX7_anew))))) (And.intro rfl (And.intro (And.intro rfl (And.intro (And.intro rfl omX7_go) (And.intro rfl omX7_out))) (And.intro rfl (And.intro (And.intro rfl omX7_tryNow) (And.intro rfl omX7_loop))))))))))) (And.intro rfl (And.intro (And.intro rfl (And.intro (And.intro rfl (And.intro (And.intro rfl (And.intro (And.intro rfl omX7_likely) (And.intro rfl (And.intro (And.intro rfl omX7_hundreds) (And.intro rfl omX7_greatestCommon))))) (And.intro rfl (And.intro (And.intro rfl (And.intro (And.intro rfl omX7_light) (And.intro rfl omX7_when))) (And.intro rfl (And.intro (And.intro rfl omX7_plays) (And.intro rfl omX7_missed))))))) (And.intro rfl (And.intro (And.intro rfl (And.intro (And.intro rfl omX7_rests) (And.intro rfl (And.intro (And.intro rfl omX7_rest) (And.intro rfl omX7_canWait))))) (And.intro rfl (And.intro (And.intro rfl (And.intro (And.intro rfl omX7_restBits) (And.intro rfl omX7_waited))) (And.intro rfl (And.intro (And.intro rfl omX7_needle) (And.intro rfl omX7_most))))))))) (And.intro rfl (And.intro (And.intro rfl (And.intro (And.intro rfl (And.intro (And.intro rfl omX7_reaches) (And.intro rfl (And.intro (And.intro rfl omX7_bestBit) (And.intro rfl omX7_rule))))) (And.intro rfl (And.intro (And.intro rfl (And.intro (And.intro rfl omX7_tryRule) (And.intro rfl omX7_bestRule))) (And.intro rfl (And.intro (And.intro rfl omX7_gets) (And.intro rfl omX7_tames))))))) (And.intro rfl (And.intro (And.intro rfl (And.intro (And.intro rfl omX7_tape) (And.intro rfl (And.intro (And.intro rfl omX7_strike) (And.intro rfl omX7_known))))) (And.intro rfl (And.intro (And.intro rfl (And.intro (And.intro rfl omX7_threw) (And.intro rfl omX7_wayFromText))) (And.intro rfl (And.intro (And.intro rfl omX7_chance) (And.intro rfl omX7_tried))))))))))))))) (And.intro rfl (And.intro (And.intro rfl (And.intro (And.intro rfl (And.intro (And.intro rfl (And.intro (And.intro rfl (And.intro (And.intro rfl (And.intro (And.intro rfl omX7_undo) (And.intro rfl (And.intro (And.intro rfl omX7_keep) (And.intro rfl omX7_back))))) (And.intro rfl (And.intro (And.intro rfl (And.intro (And.intro rfl omX7_count) (And.intro rfl omX8_init))) (And.intro rfl (And.intro (And.intro rfl omX8_feed) (And.intro rfl omX8_isIn))))))) (And.intro rfl (And.intro (And.intro rfl (And.intro (And.intro rfl omX8_wrong) (And.intro rfl (And.intro (And.intro rfl omX8_wordAt) (And.intro rfl omX8_isSmall))))) (And.intro rfl (And.intro (And.intro rfl (And.intro (And.intro rfl omX8_isDigit) (And.intro rfl omX8_token))) (And.intro rfl (And.intro (And.intro rfl omX8_signToken) (And.intro rfl omX8_packed))))))))) (And.intro rfl (And.intro (And.intro rfl (And.intro (And.intro rfl (And.intro (And.intro rfl omX8_isKey) (And.intro rfl (And.intro (And.intro rfl omX8_isSign) (And.intro rfl omX8_number))))) (And.intro rfl (And.intro (And.intro rfl (And.intro (And.intro rfl omX8_plain) (And.intro rfl omX8_copies))) (And.intro rfl (And.intro (And.intro rfl omX8_keepText) (And.intro rfl omX8_find))))))) (And.intro rfl (And.intro (And.intro rfl (And.intro (And.intro rfl omX8_grooveLine) (And.intro rfl (And.intro (And.intro rfl omX8_scratLine) (And.intro rfl omX8_guestLine))))) (And.intro rfl (And.intro (And.intro rfl (And.intro (And.intro rfl omX8_onceLine) (And.intro rfl omX8_lineRead))) (And.intro rfl (And.intro (And.intro rfl omX8_text) (And.intro rfl omX8_fault))))))))))) (And.intro rfl (And.intro (And.intro rfl (And.intro (And.intro rfl (And.intro (And.intro rfl (And.intro (And.intro rfl omX8_named) (And.intro rfl (And.intro (And.intro rfl omX8_rank) (And.intro rfl omX8_grown))))) (And.intro rfl (And.intro (And.intro rfl (And.intro (And.intro rfl omX8_dropHeld) (And.intro rfl omX8_bind))) (And.intro rfl (And.intro (And.intro rfl omX8_isCounted) (And.intro rfl omX8_waitsFor))))))) (And.intro rfl (And.intro (And.intro rfl (And.intro (And.intro rfl omX8_nameMet) (And.intro rfl (And.intro (And.intro rfl omX8_leafRead) (And.intro rfl omX8_signs))))) (And.intro rfl (And.intro (And.intro rfl (And.intro (And.intro rfl omX8_sumRead) (And.intro rfl omX8_bounded))) (And.intro rfl (And.intro (And.intro rfl omX8_compares) (And.intro rfl omX8_times))))))))) (And.intro rfl (And.intro (And.intro rfl (And.intro (And.intro rfl (And.intro (And.intro rfl omX8_valueOf) (And.intro rfl (And.intro (And.intro rfl omX8_begin) (And.intro rfl omX8_atFirst))))) (And.intro rfl (And.intro (And.intro rfl (And.intro (And.intro rfl omX8_plainTried) (And.intro rfl omX8_layTried))) (And.intro rfl (And.intro (And.intro rfl omX8_isGroove) (And.intro rfl omX8_isScratch))))))) (And.intro rfl (And.intro (And.intro rfl (And.intro (And.intro rfl omX8_isGuest) (And.intro rfl (And.intro (And.intro rfl omX8_layNames) (And.intro rfl omX8_lawOf))))) (And.intro rfl (And.intro (And.intro rfl (And.intro (And.intro rfl omX8_boundLaw) (And.intro rfl omX8_backOf))) (And.intro rfl (And.intro (And.intro rfl omX8_wearOf) (And.intro rfl omX8_worthOf))))))))))))) (And.intro rfl (And.intro (And.intro rfl (And.intro (And.intro rfl (And.intro (And.intro rfl (And.intro (And.intro rfl (And.intro (And.intro rfl omX8_number1) (And.intro rfl (And.intro (And.intro rfl omX8_wayOf) (And.intro rfl omX8_scratchIn))))) (And.intro rfl (And.intro (And.intro rfl (And.intro (And.intro rfl omX8_puts) (And.intro rfl omX8_passes))) (And.intro rfl (And.intro (And.intro rfl omX8_nudges) (And.intro rfl omX8_guestsRise))))))) (And.intro rfl (And.intro (And.intro rfl (And.intro (And.intro rfl omX8_playsOne) (And.intro rfl (And.intro (And.intro rfl omX8_fails) (And.intro rfl omX8_groove))))) (And.intro rfl (And.intro (And.intro rfl (And.intro (And.intro rfl omX8_scratch) (And.intro rfl omX8_guest))) (And.intro rfl (And.intro (And.intro rfl omX8_law) (And.intro rfl omX8_weigh))))))))) (And.intro rfl (And.intro (And.intro rfl (And.intro (And.intro rfl (And.intro (And.intro rfl omX8_nudge) (And.intro rfl (And.intro (And.intro rfl omX8_anew) (And.intro rfl omX8_go))))) (And.intro rfl (And.intro (And.intro rfl (And.intro (And.intro rfl omX8_out) (And.intro rfl omX8_loop))) (And.intro rfl (And.intro (And.intro rfl omX8_powerOf) (And.intro rfl omX8_likely))))))) (And.intro rfl (And.intro (And.intro rfl (And.intro (And.intro rfl omX8_outBy) (And.intro rfl (And.intro (And.intro rfl omX8_light) (And.intro rfl omX8_when))))) (And.intro rfl (And.intro (And.intro rfl (And.intro (And.intro rfl omX8_plays) (And.intro rfl omX8_missed))) (And.intro rfl (And.intro (And.intro rfl omX8_restAt) (And.intro rfl omX8_areTwo))))))))))) (And.intro rfl (And.intro (And.intro rfl (And.intro (And.intro rfl (And.intro (And.intro rfl (And.intro (And.intro rfl omX8_rests) (And.intro rfl (And.intro (And.intro rfl omX8_rest) (And.intro rfl omX8_needle))))) (And.intro rfl (And.intro (And.intro rfl (And.intro (And.intro rfl omX8_most) (And.intro rfl omX8_reaches))) (And.intro rfl (And.intro (And.intro rfl omX8_bestBit) (And.intro rfl omX8_heardBy))))))) (And.intro rfl (And.intro (And.intro rfl (And.intro (And.intro rfl omX8_rule) (And.intro rfl (And.intro (And.intro rfl omX8_bestRule) (And.intro rfl omX8_gets))))) (And.intro rfl (And.intro (And.intro rfl (And.intro (And.intro rfl omX8_tames) (And.intro rfl omX8_noted))) (And.intro rfl (And.intro (And.intro rfl omX8_tape) (And.intro rfl omX8_strike))))))))) (And.intro rfl (And.intro (And.intro rfl (And.intro (And.intro rfl (And.intro (And.intro rfl omX8_known) (And.intro rfl (And.intro (And.intro rfl omX8_knownBy) (And.intro rfl omX8_isSo))))) (And.intro rfl (And.intro (And.intro rfl (And.intro (And.intro rfl omX8_fits) (And.intro rfl omX8_threw))) (And.intro rfl (And.intro (And.intro rfl omX8_chance) (And.intro rfl omX8_tried))))))) (And.intro rfl (And.intro (And.intro rfl (And.intro (And.intro rfl omX8_remember) (And.intro rfl (And.intro (And.intro rfl omX8_undo) (And.intro rfl omX8_keep))))) (And.intro rfl (And.intro (And.intro rfl (And.intro (And.intro rfl omX8_back) (And.intro rfl omX8_count))) (And.intro rfl (And.intro (And.intro rfl omJ6_bitCount_0f7a4) (And.intro rfl omX7_groove)))))))))))))))))
theorem pr_pok : sm_pok pr_P pr_K pr_L := pr_pok_of pr_o2_all
theorem u_all {C : String} {T : u_T} {N : Nat} (h : ∀ k, k < N → u_lay C T k ∈ sm_all) : ∀ w ∈ u_ws C T N, w ∈ sm_all := fun w hw => by
  obtain ⟨k, hk, rfl⟩ := List.mem_map.mp hw
  exact h k (List.mem_range.mp hk)
theorem u_below {P : Nat → Prop} {n : Nat} (h : ∀ k, k < n → P k) (h1 : P n) : ∀ k, k < n + 1 → P k := fun k hk => by
  rcases Nat.lt_or_eq_of_le (Nat.le_of_lt_succ hk) with h2 | h2
  · exact h k h2
  · rw [h2]; exact h1
theorem luX0_0 : ∀ k, k < 0 → u_lay RX0 TX0 k ∈ sm_all := fun _ h => absurd h (Nat.not_lt_zero _)
theorem luX0_1 : ∀ k, k < 1 → u_lay RX0 TX0 k ∈ sm_all := u_below luX0_0 pw_1108
theorem luX0_2 : ∀ k, k < 2 → u_lay RX0 TX0 k ∈ sm_all := u_below luX0_1 pw_1109
theorem luX0_3 : ∀ k, k < 3 → u_lay RX0 TX0 k ∈ sm_all := u_below luX0_2 pw_1110
theorem luX0_4 : ∀ k, k < 4 → u_lay RX0 TX0 k ∈ sm_all := u_below luX0_3 pw_1111
theorem luX0_5 : ∀ k, k < 5 → u_lay RX0 TX0 k ∈ sm_all := u_below luX0_4 pw_1112
theorem luX0_6 : ∀ k, k < 6 → u_lay RX0 TX0 k ∈ sm_all := u_below luX0_5 pw_1113
theorem luX0_7 : ∀ k, k < 7 → u_lay RX0 TX0 k ∈ sm_all := u_below luX0_6 pw_1114
theorem luX0 : ∀ w ∈ u_ws RX0 TX0 7, w ∈ sm_all := u_all luX0_7
theorem luX1_0 : ∀ k, k < 0 → u_lay RX1 TX1 k ∈ sm_all := fun _ h => absurd h (Nat.not_lt_zero _)
theorem luX1_1 : ∀ k, k < 1 → u_lay RX1 TX1 k ∈ sm_all := u_below luX1_0 pw_1115
theorem luX1_2 : ∀ k, k < 2 → u_lay RX1 TX1 k ∈ sm_all := u_below luX1_1 pw_1116
theorem luX1_3 : ∀ k, k < 3 → u_lay RX1 TX1 k ∈ sm_all := u_below luX1_2 pw_1117
theorem luX1_4 : ∀ k, k < 4 → u_lay RX1 TX1 k ∈ sm_all := u_below luX1_3 pw_1118
theorem luX1_5 : ∀ k, k < 5 → u_lay RX1 TX1 k ∈ sm_all := u_below luX1_4 pw_1119
theorem luX1_6 : ∀ k, k < 6 → u_lay RX1 TX1 k ∈ sm_all := u_below luX1_5 pw_1120
theorem luX1_7 : ∀ k, k < 7 → u_lay RX1 TX1 k ∈ sm_all := u_below luX1_6 pw_1121
theorem luX1_8 : ∀ k, k < 8 → u_lay RX1 TX1 k ∈ sm_all := u_below luX1_7 pw_1122
theorem luX1_9 : ∀ k, k < 9 → u_lay RX1 TX1 k ∈ sm_all := u_below luX1_8 pw_1123
theorem luX1_10 : ∀ k, k < 10 → u_lay RX1 TX1 k ∈ sm_all := u_below luX1_9 pw_1124
theorem luX1_11 : ∀ k, k < 11 → u_lay RX1 TX1 k ∈ sm_all := u_below luX1_10 pw_1125
theorem luX1 : ∀ w ∈ u_ws RX1 TX1 11, w ∈ sm_all := u_all luX1_11
theorem luX2_0 : ∀ k, k < 0 → u_lay RX2 TX2 k ∈ sm_all := fun _ h => absurd h (Nat.not_lt_zero _)
theorem luX2_1 : ∀ k, k < 1 → u_lay RX2 TX2 k ∈ sm_all := u_below luX2_0 pw_1126
theorem luX2_2 : ∀ k, k < 2 → u_lay RX2 TX2 k ∈ sm_all := u_below luX2_1 pw_1127
theorem luX2_3 : ∀ k, k < 3 → u_lay RX2 TX2 k ∈ sm_all := u_below luX2_2 pw_1128
theorem luX2_4 : ∀ k, k < 4 → u_lay RX2 TX2 k ∈ sm_all := u_below luX2_3 pw_1129
theorem luX2_5 : ∀ k, k < 5 → u_lay RX2 TX2 k ∈ sm_all := u_below luX2_4 pw_1130
theorem luX2_6 : ∀ k, k < 6 → u_lay RX2 TX2 k ∈ sm_all := u_below luX2_5 pw_1131
theorem luX2_7 : ∀ k, k < 7 → u_lay RX2 TX2 k ∈ sm_all := u_below luX2_6 pw_1132
theorem luX2_8 : ∀ k, k < 8 → u_lay RX2 TX2 k ∈ sm_all := u_below luX2_7 pw_1133
theorem luX2_9 : ∀ k, k < 9 → u_lay RX2 TX2 k ∈ sm_all := u_below luX2_8 pw_1134
theorem luX2_10 : ∀ k, k < 10 → u_lay RX2 TX2 k ∈ sm_all := u_below luX2_9 pw_1135
theorem luX2_11 : ∀ k, k < 11 → u_lay RX2 TX2 k ∈ sm_all := u_below luX2_10 pw_1136
theorem luX2_12 : ∀ k, k < 12 → u_lay RX2 TX2 k ∈ sm_all := u_below luX2_11 pw_1137
theorem luX2 : ∀ w ∈ u_ws RX2 TX2 12, w ∈ sm_all := u_all luX2_12
theorem luX3_0 : ∀ k, k < 0 → u_lay RX3 TX3 k ∈ sm_all := fun _ h => absurd h (Nat.not_lt_zero _)
theorem luX3_1 : ∀ k, k < 1 → u_lay RX3 TX3 k ∈ sm_all := u_below luX3_0 pw_1138
theorem luX3_2 : ∀ k, k < 2 → u_lay RX3 TX3 k ∈ sm_all := u_below luX3_1 pw_1139
theorem luX3_3 : ∀ k, k < 3 → u_lay RX3 TX3 k ∈ sm_all := u_below luX3_2 pw_1140
theorem luX3_4 : ∀ k, k < 4 → u_lay RX3 TX3 k ∈ sm_all := u_below luX3_3 pw_1141
theorem luX3_5 : ∀ k, k < 5 → u_lay RX3 TX3 k ∈ sm_all := u_below luX3_4 pw_1142
theorem luX3_6 : ∀ k, k < 6 → u_lay RX3 TX3 k ∈ sm_all := u_below luX3_5 pw_1143
theorem luX3_7 : ∀ k, k < 7 → u_lay RX3 TX3 k ∈ sm_all := u_below luX3_6 pw_1144
theorem luX3_8 : ∀ k, k < 8 → u_lay RX3 TX3 k ∈ sm_all := u_below luX3_7 pw_1145
theorem luX3_9 : ∀ k, k < 9 → u_lay RX3 TX3 k ∈ sm_all := u_below luX3_8 pw_1146
theorem luX3_10 : ∀ k, k < 10 → u_lay RX3 TX3 k ∈ sm_all := u_below luX3_9 pw_1147
theorem luX3_11 : ∀ k, k < 11 → u_lay RX3 TX3 k ∈ sm_all := u_below luX3_10 pw_1148
theorem luX3_12 : ∀ k, k < 12 → u_lay RX3 TX3 k ∈ sm_all := u_below luX3_11 pw_1149
theorem luX3_13 : ∀ k, k < 13 → u_lay RX3 TX3 k ∈ sm_all := u_below luX3_12 pw_1150
theorem luX3_14 : ∀ k, k < 14 → u_lay RX3 TX3 k ∈ sm_all := u_below luX3_13 pw_1151
theorem luX3 : ∀ w ∈ u_ws RX3 TX3 14, w ∈ sm_all := u_all luX3_14
theorem luX4_0 : ∀ k, k < 0 → u_lay RX4 TX4 k ∈ sm_all := fun _ h => absurd h (Nat.not_lt_zero _)
theorem luX4_1 : ∀ k, k < 1 → u_lay RX4 TX4 k ∈ sm_all := u_below luX4_0 pw_1152
theorem luX4_2 : ∀ k, k < 2 → u_lay RX4 TX4 k ∈ sm_all := u_below luX4_1 pw_1153
theorem luX4_3 : ∀ k, k < 3 → u_lay RX4 TX4 k ∈ sm_all := u_below luX4_2 pw_1154
theorem luX4_4 : ∀ k, k < 4 → u_lay RX4 TX4 k ∈ sm_all := u_below luX4_3 pw_1155
theorem luX4_5 : ∀ k, k < 5 → u_lay RX4 TX4 k ∈ sm_all := u_below luX4_4 pw_1156
theorem luX4_6 : ∀ k, k < 6 → u_lay RX4 TX4 k ∈ sm_all := u_below luX4_5 pw_1157
theorem luX4_7 : ∀ k, k < 7 → u_lay RX4 TX4 k ∈ sm_all := u_below luX4_6 pw_1158
theorem luX4_8 : ∀ k, k < 8 → u_lay RX4 TX4 k ∈ sm_all := u_below luX4_7 pw_1159
theorem luX4_9 : ∀ k, k < 9 → u_lay RX4 TX4 k ∈ sm_all := u_below luX4_8 pw_1160
theorem luX4_10 : ∀ k, k < 10 → u_lay RX4 TX4 k ∈ sm_all := u_below luX4_9 pw_1161
theorem luX4_11 : ∀ k, k < 11 → u_lay RX4 TX4 k ∈ sm_all := u_below luX4_10 pw_1162
theorem luX4_12 : ∀ k, k < 12 → u_lay RX4 TX4 k ∈ sm_all := u_below luX4_11 pw_1163
theorem luX4_13 : ∀ k, k < 13 → u_lay RX4 TX4 k ∈ sm_all := u_below luX4_12 pw_1164
theorem luX4_14 : ∀ k, k < 14 → u_lay RX4 TX4 k ∈ sm_all := u_below luX4_13 pw_1165
theorem luX4_15 : ∀ k, k < 15 → u_lay RX4 TX4 k ∈ sm_all := u_below luX4_14 pw_1166
theorem luX4 : ∀ w ∈ u_ws RX4 TX4 15, w ∈ sm_all := u_all luX4_15
theorem luX5_0 : ∀ k, k < 0 → u_lay RX5 TX5 k ∈ sm_all := fun _ h => absurd h (Nat.not_lt_zero _)
theorem luX5_1 : ∀ k, k < 1 → u_lay RX5 TX5 k ∈ sm_all := u_below luX5_0 pw_1167
theorem luX5_2 : ∀ k, k < 2 → u_lay RX5 TX5 k ∈ sm_all := u_below luX5_1 pw_1168
theorem luX5_3 : ∀ k, k < 3 → u_lay RX5 TX5 k ∈ sm_all := u_below luX5_2 pw_1169
theorem luX5_4 : ∀ k, k < 4 → u_lay RX5 TX5 k ∈ sm_all := u_below luX5_3 pw_1170
theorem luX5 : ∀ w ∈ u_ws RX5 TX5 4, w ∈ sm_all := u_all luX5_4
theorem luX6_0 : ∀ k, k < 0 → u_lay RX6 TX6 k ∈ sm_all := fun _ h => absurd h (Nat.not_lt_zero _)
theorem luX6_1 : ∀ k, k < 1 → u_lay RX6 TX6 k ∈ sm_all := u_below luX6_0 pw_1171
theorem luX6_2 : ∀ k, k < 2 → u_lay RX6 TX6 k ∈ sm_all := u_below luX6_1 pw_1172
theorem luX6_3 : ∀ k, k < 3 → u_lay RX6 TX6 k ∈ sm_all := u_below luX6_2 pw_1173
theorem luX6_4 : ∀ k, k < 4 → u_lay RX6 TX6 k ∈ sm_all := u_below luX6_3 pw_1174
theorem luX6_5 : ∀ k, k < 5 → u_lay RX6 TX6 k ∈ sm_all := u_below luX6_4 pw_1175
theorem luX6_6 : ∀ k, k < 6 → u_lay RX6 TX6 k ∈ sm_all := u_below luX6_5 pw_1176
theorem luX6_7 : ∀ k, k < 7 → u_lay RX6 TX6 k ∈ sm_all := u_below luX6_6 pw_1177
theorem luX6 : ∀ w ∈ u_ws RX6 TX6 7, w ∈ sm_all := u_all luX6_7
theorem luX7_0 : ∀ k, k < 0 → u_lay RX7 TX7 k ∈ sm_all := fun _ h => absurd h (Nat.not_lt_zero _)
theorem luX7_1 : ∀ k, k < 1 → u_lay RX7 TX7 k ∈ sm_all := u_below luX7_0 pw_1178
theorem luX7_2 : ∀ k, k < 2 → u_lay RX7 TX7 k ∈ sm_all := u_below luX7_1 pw_1179
theorem luX7_3 : ∀ k, k < 3 → u_lay RX7 TX7 k ∈ sm_all := u_below luX7_2 pw_1180
theorem luX7_4 : ∀ k, k < 4 → u_lay RX7 TX7 k ∈ sm_all := u_below luX7_3 pw_1181
theorem luX7_5 : ∀ k, k < 5 → u_lay RX7 TX7 k ∈ sm_all := u_below luX7_4 pw_1182
theorem luX7_6 : ∀ k, k < 6 → u_lay RX7 TX7 k ∈ sm_all := u_below luX7_5 pw_1183
theorem luX7_7 : ∀ k, k < 7 → u_lay RX7 TX7 k ∈ sm_all := u_below luX7_6 pw_1184
theorem luX7_8 : ∀ k, k < 8 → u_lay RX7 TX7 k ∈ sm_all := u_below luX7_7 pw_1185
theorem luX7_9 : ∀ k, k < 9 → u_lay RX7 TX7 k ∈ sm_all := u_below luX7_8 pw_1186
theorem luX7_10 : ∀ k, k < 10 → u_lay RX7 TX7 k ∈ sm_all := u_below luX7_9 pw_1187
theorem luX7_11 : ∀ k, k < 11 → u_lay RX7 TX7 k ∈ sm_all := u_below luX7_10 pw_1188
theorem luX7_12 : ∀ k, k < 12 → u_lay RX7 TX7 k ∈ sm_all := u_below luX7_11 pw_1189
theorem luX7_13 : ∀ k, k < 13 → u_lay RX7 TX7 k ∈ sm_all := u_below luX7_12 pw_1190
theorem luX7_14 : ∀ k, k < 14 → u_lay RX7 TX7 k ∈ sm_all := u_below luX7_13 pw_1191
theorem luX7_15 : ∀ k, k < 15 → u_lay RX7 TX7 k ∈ sm_all := u_below luX7_14 pw_1192
theorem luX7_16 : ∀ k, k < 16 → u_lay RX7 TX7 k ∈ sm_all := u_below luX7_15 pw_1193
theorem luX7_17 : ∀ k, k < 17 → u_lay RX7 TX7 k ∈ sm_all := u_below luX7_16 pw_1194
theorem luX7 : ∀ w ∈ u_ws RX7 TX7 17, w ∈ sm_all := u_all luX7_17
theorem luX8_0 : ∀ k, k < 0 → u_lay RX8 TX8 k ∈ sm_all := fun _ h => absurd h (Nat.not_lt_zero _)
theorem luX8_1 : ∀ k, k < 1 → u_lay RX8 TX8 k ∈ sm_all := u_below luX8_0 pw_1195
theorem luX8_2 : ∀ k, k < 2 → u_lay RX8 TX8 k ∈ sm_all := u_below luX8_1 pw_1196
theorem luX8_3 : ∀ k, k < 3 → u_lay RX8 TX8 k ∈ sm_all := u_below luX8_2 pw_1197
theorem luX8_4 : ∀ k, k < 4 → u_lay RX8 TX8 k ∈ sm_all := u_below luX8_3 pw_1198
theorem luX8_5 : ∀ k, k < 5 → u_lay RX8 TX8 k ∈ sm_all := u_below luX8_4 pw_1199
theorem luX8_6 : ∀ k, k < 6 → u_lay RX8 TX8 k ∈ sm_all := u_below luX8_5 pw_1200
theorem luX8_7 : ∀ k, k < 7 → u_lay RX8 TX8 k ∈ sm_all := u_below luX8_6 pw_1201
theorem luX8_8 : ∀ k, k < 8 → u_lay RX8 TX8 k ∈ sm_all := u_below luX8_7 pw_1202
theorem luX8_9 : ∀ k, k < 9 → u_lay RX8 TX8 k ∈ sm_all := u_below luX8_8 pw_1203
theorem luX8_10 : ∀ k, k < 10 → u_lay RX8 TX8 k ∈ sm_all := u_below luX8_9 pw_1204
theorem luX8_11 : ∀ k, k < 11 → u_lay RX8 TX8 k ∈ sm_all := u_below luX8_10 pw_1205
theorem luX8_12 : ∀ k, k < 12 → u_lay RX8 TX8 k ∈ sm_all := u_below luX8_11 pw_1206
theorem luX8_13 : ∀ k, k < 13 → u_lay RX8 TX8 k ∈ sm_all := u_below luX8_12 pw_1207
theorem luX8_14 : ∀ k, k < 14 → u_lay RX8 TX8 k ∈ sm_all := u_below luX8_13 pw_1208
theorem luX8_15 : ∀ k, k < 15 → u_lay RX8 TX8 k ∈ sm_all := u_below luX8_14 pw_1209
theorem luX8_16 : ∀ k, k < 16 → u_lay RX8 TX8 k ∈ sm_all := u_below luX8_15 pw_1210
theorem luX8_17 : ∀ k, k < 17 → u_lay RX8 TX8 k ∈ sm_all := u_below luX8_16 pw_1211
theorem luX8_18 : ∀ k, k < 18 → u_lay RX8 TX8 k ∈ sm_all := u_below luX8_17 pw_1212
theorem luX8_19 : ∀ k, k < 19 → u_lay RX8 TX8 k ∈ sm_all := u_below luX8_18 pw_1213
theorem luX8_20 : ∀ k, k < 20 → u_lay RX8 TX8 k ∈ sm_all := u_below luX8_19 pw_1214
theorem luX8_21 : ∀ k, k < 21 → u_lay RX8 TX8 k ∈ sm_all := u_below luX8_20 pw_1215
theorem luX8_22 : ∀ k, k < 22 → u_lay RX8 TX8 k ∈ sm_all := u_below luX8_21 pw_1216
theorem luX8_23 : ∀ k, k < 23 → u_lay RX8 TX8 k ∈ sm_all := u_below luX8_22 pw_1217
theorem luX8_24 : ∀ k, k < 24 → u_lay RX8 TX8 k ∈ sm_all := u_below luX8_23 pw_1218
theorem luX8_25 : ∀ k, k < 25 → u_lay RX8 TX8 k ∈ sm_all := u_below luX8_24 pw_1219
theorem luX8_26 : ∀ k, k < 26 → u_lay RX8 TX8 k ∈ sm_all := u_below luX8_25 pw_1220
theorem luX8_27 : ∀ k, k < 27 → u_lay RX8 TX8 k ∈ sm_all := u_below luX8_26 pw_1221
theorem luX8_28 : ∀ k, k < 28 → u_lay RX8 TX8 k ∈ sm_all := u_below luX8_27 pw_1222
theorem luX8_29 : ∀ k, k < 29 → u_lay RX8 TX8 k ∈ sm_all := u_below luX8_28 pw_1223
theorem luX8_30 : ∀ k, k < 30 → u_lay RX8 TX8 k ∈ sm_all := u_below luX8_29 pw_1224
theorem luX8_31 : ∀ k, k < 31 → u_lay RX8 TX8 k ∈ sm_all := u_below luX8_30 pw_1225
theorem luX8_32 : ∀ k, k < 32 → u_lay RX8 TX8 k ∈ sm_all := u_below luX8_31 pw_1226
theorem luX8_33 : ∀ k, k < 33 → u_lay RX8 TX8 k ∈ sm_all := u_below luX8_32 pw_1227
theorem luX8_34 : ∀ k, k < 34 → u_lay RX8 TX8 k ∈ sm_all := u_below luX8_33 pw_1228
theorem luX8_35 : ∀ k, k < 35 → u_lay RX8 TX8 k ∈ sm_all := u_below luX8_34 pw_1229
theorem luX8_36 : ∀ k, k < 36 → u_lay RX8 TX8 k ∈ sm_all := u_below luX8_35 pw_1230
theorem luX8_37 : ∀ k, k < 37 → u_lay RX8 TX8 k ∈ sm_all := u_below luX8_36 pw_1231
theorem luX8_38 : ∀ k, k < 38 → u_lay RX8 TX8 k ∈ sm_all := u_below luX8_37 pw_1232
theorem luX8_39 : ∀ k, k < 39 → u_lay RX8 TX8 k ∈ sm_all := u_below luX8_38 pw_1233
theorem luX8_40 : ∀ k, k < 40 → u_lay RX8 TX8 k ∈ sm_all := u_below luX8_39 pw_1234
theorem luX8_41 : ∀ k, k < 41 → u_lay RX8 TX8 k ∈ sm_all := u_below luX8_40 pw_1235
theorem luX8_42 : ∀ k, k < 42 → u_lay RX8 TX8 k ∈ sm_all := u_below luX8_41 pw_1236
theorem luX8_43 : ∀ k, k < 43 → u_lay RX8 TX8 k ∈ sm_all := u_below luX8_42 pw_1237
theorem luX8_44 : ∀ k, k < 44 → u_lay RX8 TX8 k ∈ sm_all := u_below luX8_43 pw_1238
theorem luX8_45 : ∀ k, k < 45 → u_lay RX8 TX8 k ∈ sm_all := u_below luX8_44 pw_1239
theorem luX8_46 : ∀ k, k < 46 → u_lay RX8 TX8 k ∈ sm_all := u_below luX8_45 pw_1240
theorem luX8_47 : ∀ k, k < 47 → u_lay RX8 TX8 k ∈ sm_all := u_below luX8_46 pw_1241
theorem luX8_48 : ∀ k, k < 48 → u_lay RX8 TX8 k ∈ sm_all := u_below luX8_47 pw_1242
theorem luX8_49 : ∀ k, k < 49 → u_lay RX8 TX8 k ∈ sm_all := u_below luX8_48 pw_1243
theorem luX8_50 : ∀ k, k < 50 → u_lay RX8 TX8 k ∈ sm_all := u_below luX8_49 pw_1244
theorem luX8_51 : ∀ k, k < 51 → u_lay RX8 TX8 k ∈ sm_all := u_below luX8_50 pw_1245
theorem luX8_52 : ∀ k, k < 52 → u_lay RX8 TX8 k ∈ sm_all := u_below luX8_51 pw_1246
theorem luX8_53 : ∀ k, k < 53 → u_lay RX8 TX8 k ∈ sm_all := u_below luX8_52 pw_1247
theorem luX8_54 : ∀ k, k < 54 → u_lay RX8 TX8 k ∈ sm_all := u_below luX8_53 pw_1248
theorem luX8_55 : ∀ k, k < 55 → u_lay RX8 TX8 k ∈ sm_all := u_below luX8_54 pw_1249
theorem luX8_56 : ∀ k, k < 56 → u_lay RX8 TX8 k ∈ sm_all := u_below luX8_55 pw_1250
theorem luX8_57 : ∀ k, k < 57 → u_lay RX8 TX8 k ∈ sm_all := u_below luX8_56 pw_1251
theorem luX8_58 : ∀ k, k < 58 → u_lay RX8 TX8 k ∈ sm_all := u_below luX8_57 pw_1252
theorem luX8_59 : ∀ k, k < 59 → u_lay RX8 TX8 k ∈ sm_all := u_below luX8_58 pw_1253
theorem luX8_60 : ∀ k, k < 60 → u_lay RX8 TX8 k ∈ sm_all := u_below luX8_59 pw_1254
theorem luX8_61 : ∀ k, k < 61 → u_lay RX8 TX8 k ∈ sm_all := u_below luX8_60 pw_1255
theorem luX8_62 : ∀ k, k < 62 → u_lay RX8 TX8 k ∈ sm_all := u_below luX8_61 pw_1256
theorem luX8_63 : ∀ k, k < 63 → u_lay RX8 TX8 k ∈ sm_all := u_below luX8_62 pw_1257
theorem luX8_64 : ∀ k, k < 64 → u_lay RX8 TX8 k ∈ sm_all := u_below luX8_63 pw_1258
theorem luX8_65 : ∀ k, k < 65 → u_lay RX8 TX8 k ∈ sm_all := u_below luX8_64 pw_1259
theorem luX8_66 : ∀ k, k < 66 → u_lay RX8 TX8 k ∈ sm_all := u_below luX8_65 pw_1260
theorem luX8_67 : ∀ k, k < 67 → u_lay RX8 TX8 k ∈ sm_all := u_below luX8_66 pw_1261
theorem luX8_68 : ∀ k, k < 68 → u_lay RX8 TX8 k ∈ sm_all := u_below luX8_67 pw_1262
theorem luX8_69 : ∀ k, k < 69 → u_lay RX8 TX8 k ∈ sm_all := u_below luX8_68 pw_1263
theorem luX8_70 : ∀ k, k < 70 → u_lay RX8 TX8 k ∈ sm_all := u_below luX8_69 pw_1264
theorem luX8_71 : ∀ k, k < 71 → u_lay RX8 TX8 k ∈ sm_all := u_below luX8_70 pw_1265
theorem luX8_72 : ∀ k, k < 72 → u_lay RX8 TX8 k ∈ sm_all := u_below luX8_71 pw_1266
theorem luX8_73 : ∀ k, k < 73 → u_lay RX8 TX8 k ∈ sm_all := u_below luX8_72 pw_1267
theorem luX8_74 : ∀ k, k < 74 → u_lay RX8 TX8 k ∈ sm_all := u_below luX8_73 pw_1268
theorem luX8_75 : ∀ k, k < 75 → u_lay RX8 TX8 k ∈ sm_all := u_below luX8_74 pw_1269
theorem luX8_76 : ∀ k, k < 76 → u_lay RX8 TX8 k ∈ sm_all := u_below luX8_75 pw_1270
theorem luX8_77 : ∀ k, k < 77 → u_lay RX8 TX8 k ∈ sm_all := u_below luX8_76 pw_1271
theorem luX8_78 : ∀ k, k < 78 → u_lay RX8 TX8 k ∈ sm_all := u_below luX8_77 pw_1272
theorem luX8_79 : ∀ k, k < 79 → u_lay RX8 TX8 k ∈ sm_all := u_below luX8_78 pw_1273
theorem luX8_80 : ∀ k, k < 80 → u_lay RX8 TX8 k ∈ sm_all := u_below luX8_79 pw_1274
theorem luX8_81 : ∀ k, k < 81 → u_lay RX8 TX8 k ∈ sm_all := u_below luX8_80 pw_1275
theorem luX8_82 : ∀ k, k < 82 → u_lay RX8 TX8 k ∈ sm_all := u_below luX8_81 pw_1276
theorem luX8_83 : ∀ k, k < 83 → u_lay RX8 TX8 k ∈ sm_all := u_below luX8_82 pw_1277
theorem luX8_84 : ∀ k, k < 84 → u_lay RX8 TX8 k ∈ sm_all := u_below luX8_83 pw_1278
theorem luX8 : ∀ w ∈ u_ws RX8 TX8 84, w ∈ sm_all := u_all luX8_84
theorem vw_cases {P : Nat → String → u_T → Nat → Prop} (h0 : P 0 RX0 TX0 7) (h1 : P 1 RX1 TX1 11) (h2 : P 2 RX2 TX2 12) (h3 : P 3 RX3 TX3 14) (h4 : P 4 RX4 TX4 15) (h5 : P 5 RX5 TX5 4) (h6 : P 6 RX6 TX6 7) (h7 : P 7 RX7 TX7 17) (h8 : P 8 RX8 TX8 84) : ∀ (ci : Nat) (C : String) (T : u_T) (N : Nat), vwCl[ci]? = some (C, T, N) → P ci C T N
  | 0, _, _, _, h => by cases h; exact h0
  | 1, _, _, _, h => by cases h; exact h1
  | 2, _, _, _, h => by cases h; exact h2
  | 3, _, _, _, h => by cases h; exact h3
  | 4, _, _, _, h => by cases h; exact h4
  | 5, _, _, _, h => by cases h; exact h5
  | 6, _, _, _, h => by cases h; exact h6
  | 7, _, _, _, h => by cases h; exact h7
  | 8, _, _, _, h => by cases h; exact h8
  | n + 9, _, _, _, h => by cases h
theorem pr_clok : sm_clok := vw_cases (P := fun _ C T N => (∀ w ∈ u_ws C T N, w ∈ sm_all) ∧ ∃ ty0 : Nat → FieldType, (∀ k, k < N → parseFieldDescriptor (T k).2.2.1 = some (ty0 k)) ∧ (∀ a, a < N → ∀ b, b < N → a ≠ b → (T a).2.1 ≠ (T b).2.1)) ⟨luX0, tyX0, tyX0_ok, nmX0⟩ ⟨luX1, tyX1, tyX1_ok, nmX1⟩ ⟨luX2, tyX2, tyX2_ok, nmX2⟩ ⟨luX3, tyX3, tyX3_ok, nmX3⟩ ⟨luX4, tyX4, tyX4_ok, nmX4⟩ ⟨luX5, tyX5, tyX5_ok, nmX5⟩ ⟨luX6, tyX6, tyX6_ok, nmX6⟩ ⟨luX7, tyX7, tyX7_ok, nmX7⟩ ⟨luX8, tyX8, tyX8_ok, nmX8⟩
def pr_df : Nat → List Value
  | 0 => [.int 0, .int 0, .null, .null, .null, .null, .null]
  | 1 => [.int 0, .int 0, .int 0, .int 0, .int 0, .int 0, .int 0, .int 0, .null, .null, .null]
  | 2 => [.null, .null, .int 0, .int 0, .int 0, .int 0, .int 0, .int 0, .int 0, .int 0, .int 0, .long 0]
  | 3 => [.int 0, .int 0, .null, .null, .int 0, .int 0, .int 0, .int 0, .int 0, .null, .null, .null, .int 0, .int 0]
  | 4 => [.int 0, .int 0, .int 0, .int 0, .int 0, .int 0, .int 0, .int 0, .null, .null, .null, .null, .null, .null, .null]
  | 5 => [.int 0, .null, .null, .null]
  | 6 => [.int 0, .int 0, .null, .null, .null, .null, .null]
  | 7 => [.null, .int 0, .int 0, .int 0, .null, .null, .null, .null, .null, .int 0, .int 0, .null, .null, .null, .null, .null, .null]
  | 8 => [.null, .int 0, .int 0, .null, .int 0, .int 0, .int 0, .int 0, .int 0, .int 0, .int 0, .int 0, .int 0, .int 0, .int 0, .int 0, .int 0, .int 0, .int 0, .int 0, .null, .null, .null, .null, .null, .null, .null, .null, .null, .null, .null, .null, .null, .null, .null, .null, .null, .null, .null, .null, .null, .int 0, .int 0, .int 0, .int 0, .int 0, .int 0, .null, .null, .int 0, .null, .null, .null, .null, .null, .null, .null, .null, .null, .null, .long 0, .int 0, .int 0, .int 0, .int 0, .int 0, .int 0, .int 0, .int 0, .int 0, .int 0, .int 0, .null, .null, .int 0, .int 0, .null, .null, .int 0, .null, .int 0, .null, .null, .long 0]
  | _ => []
theorem df_of {C : String} {T : u_T} {N ci : Nat} {ty : Nat → FieldType} (h1 : ci < 100) (h2 : ∀ w ∈ u_ws C T N, w ∈ sm_all) (h3 : Cond.instantiable C N ∈ sm_all) (h4 : Cond.initialized C ∈ sm_all) (h5 : (pr_df ci).length = N) (h6 : ∀ (E : Nat → Nat) (ad : List Nat), (pr_df ci).map (sm_tr E ad) = pr_df ci) (h7 : ∀ k, k < N → parseFieldDescriptor (T k).2.2.1 = some (ty k)) (h8 : ∀ j, j < N → defaultValue (ty j) = vp_V (pr_df ci) j) : ci < 100 ∧ (∀ w ∈ u_ws C T N, w ∈ sm_all) ∧ Cond.instantiable C N ∈ sm_all ∧ Cond.initialized C ∈ sm_all ∧ (pr_df ci).length = N ∧ (∀ (E : Nat → Nat) (ad : List Nat), (pr_df ci).map (sm_tr E ad) = pr_df ci) ∧ ∃ ty0 : Nat → FieldType, (∀ k, k < N → parseFieldDescriptor (T k).2.2.1 = some (ty0 k)) ∧ ∀ j, j < N → defaultValue (ty0 j) = vp_V (pr_df ci) j := ⟨h1, h2, h3, h4, h5, h6, ty, h7, h8⟩
theorem pr_cnew : sm_cnew pr_df := vw_cases (P := fun ci C T N => ci < 100 ∧ (∀ w ∈ u_ws C T N, w ∈ sm_all) ∧ Cond.instantiable C N ∈ sm_all ∧ Cond.initialized C ∈ sm_all ∧ (pr_df ci).length = N ∧ (∀ (E : Nat → Nat) (ad : List Nat), (pr_df ci).map (sm_tr E ad) = pr_df ci) ∧ ∃ ty0 : Nat → FieldType, (∀ k, k < N → parseFieldDescriptor (T k).2.2.1 = some (ty0 k)) ∧ ∀ j, j < N → defaultValue (ty0 j) = vp_V (pr_df ci) j) (df_of (ty := tyX0) (by decide) luX0 pw_1279 pw_451 rfl (fun _ _ => rfl) tyX0_ok (by decide +kernel)) (df_of (ty := tyX1) (by decide) luX1 pw_1280 pw_465 rfl (fun _ _ => rfl) tyX1_ok (by decide +kernel)) (df_of (ty := tyX2) (by decide) luX2 pw_1281 pw_486 rfl (fun _ _ => rfl) tyX2_ok (by decide +kernel)) (df_of (ty := tyX3) (by decide) luX3 pw_1282 pw_532 rfl (fun _ _ => rfl) tyX3_ok (by decide +kernel)) (df_of (ty := tyX4) (by decide) luX4 pw_1283 pw_598 rfl (fun _ _ => rfl) tyX4_ok (by decide +kernel)) (df_of (ty := tyX5) (by decide) luX5 pw_1284 pw_607 rfl (fun _ _ => rfl) tyX5_ok (by decide +kernel)) (df_of (ty := tyX6) (by decide) luX6 pw_1285 pw_616 rfl (fun _ _ => rfl) tyX6_ok (by decide +kernel)) (df_of (ty := tyX7) (by decide) luX7 pw_1286 pw_634 rfl (fun _ _ => rfl) tyX7_ok (by decide +kernel)) (df_of (ty := tyX8) (by decide) luX8 pw_1287 pw_787 rfl (fun _ _ => rfl) tyX8_ok (by decide +kernel))
end
