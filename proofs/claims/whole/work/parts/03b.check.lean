theorem lmk_X6_become_0 : lm_chkR cX6_become lmt_X6_become (128 * 0) = true := by decide +kernel
theorem lmo_X6_become : lm_okC cX6_become lmt_X6_become := lm_okC_of 1 (by decide) (lm_n1 lmk_X6_become_0)
theorem lmk_X6_allowed_0 : lm_chkR cX6_allowed lmt_X6_allowed (128 * 0) = true := by decide +kernel
theorem lmo_X6_allowed : lm_okC cX6_allowed lmt_X6_allowed := lm_okC_of 1 (by decide) (lm_n1 lmk_X6_allowed_0)
theorem lmk_X6_askersOf_0 : lm_chkR cX6_askersOf lmt_X6_askersOf (128 * 0) = true := by decide +kernel
theorem lmo_X6_askersOf : lm_okC cX6_askersOf lmt_X6_askersOf := lm_okC_of 1 (by decide) (lm_n1 lmk_X6_askersOf_0)
theorem lmk_X6_gainAmong_0 : lm_chkR cX6_gainAmong lmt_X6_gainAmong (128 * 0) = true := by decide +kernel
theorem lmo_X6_gainAmong : lm_okC cX6_gainAmong lmt_X6_gainAmong := lm_okC_of 1 (by decide) (lm_n1 lmk_X6_gainAmong_0)
theorem lmk_X6_shareAmong_0 : lm_chkR cX6_shareAmong lmt_X6_shareAmong (128 * 0) = true := by decide +kernel
theorem lmo_X6_shareAmong : lm_okC cX6_shareAmong lmt_X6_shareAmong := lm_okC_of 1 (by decide) (lm_n1 lmk_X6_shareAmong_0)
theorem lmk_X6_shareAgainst_0 : lm_chkR cX6_shareAgainst lmt_X6_shareAgainst (128 * 0) = true := by decide +kernel
theorem lmo_X6_shareAgainst : lm_okC cX6_shareAgainst lmt_X6_shareAgainst := lm_okC_of 1 (by decide) (lm_n1 lmk_X6_shareAgainst_0)
theorem lmk_X6_gainIf_0 : lm_chkR cX6_gainIf lmt_X6_gainIf (128 * 0) = true := by decide +kernel
theorem lmo_X6_gainIf : lm_okC cX6_gainIf lmt_X6_gainIf := lm_okC_of 1 (by decide) (lm_n1 lmk_X6_gainIf_0)
theorem lmk_X6_answerBits_0 : lm_chkR cX6_answerBits lmt_X6_answerBits (128 * 0) = true := by decide +kernel
theorem lmo_X6_answerBits : lm_okC cX6_answerBits lmt_X6_answerBits := lm_okC_of 1 (by decide) (lm_n1 lmk_X6_answerBits_0)
theorem lmk_X7_init_0 : lm_chkR cX7_init lmt_X7_init (128 * 0) = true := by decide +kernel
theorem lmo_X7_init : lm_okC cX7_init lmt_X7_init := lm_okC_of 1 (by decide) (lm_n1 lmk_X7_init_0)
theorem lmk_X7_add_0 : lm_chkR cX7_add lmt_X7_add (128 * 0) = true := by decide +kernel
theorem lmo_X7_add : lm_okC cX7_add lmt_X7_add := lm_okC_of 1 (by decide) (lm_n1 lmk_X7_add_0)
theorem lmk_X8_init_0 : lm_chkR cX8_init lmt_X8_init (128 * 0) = true := by decide +kernel
theorem lmo_X8_init : lm_okC cX8_init lmt_X8_init := lm_okC_of 1 (by decide) (lm_n1 lmk_X8_init_0)
theorem lmk_X8_play_0 : lm_chkR cX8_play lmt_X8_play (128 * 0) = true := by decide +kernel
theorem lmo_X8_play : lm_okC cX8_play lmt_X8_play := lm_okC_of 1 (by decide) (lm_n1 lmk_X8_play_0)
theorem lmk_X8_playRound_0 : lm_chkR cX8_playRound lmt_X8_playRound (128 * 0) = true := by decide +kernel
theorem lmo_X8_playRound : lm_okC cX8_playRound lmt_X8_playRound := lm_okC_of 1 (by decide) (lm_n1 lmk_X8_playRound_0)
theorem lmk_X8_isNew_0 : lm_chkR cX8_isNew lmt_X8_isNew (128 * 0) = true := by decide +kernel
theorem lmo_X8_isNew : lm_okC cX8_isNew lmt_X8_isNew := lm_okC_of 1 (by decide) (lm_n1 lmk_X8_isNew_0)
theorem lmk_X9_init_0 : lm_chkR cX9_init lmt_X9_init (128 * 0) = true := by decide +kernel
theorem lmo_X9_init : lm_okC cX9_init lmt_X9_init := lm_okC_of 1 (by decide) (lm_n1 lmk_X9_init_0)
theorem lmk_X9_begin_0 : lm_chkR cX9_begin lmt_X9_begin (128 * 0) = true := by decide +kernel
theorem lmo_X9_begin : lm_okC cX9_begin lmt_X9_begin := lm_okC_of 1 (by decide) (lm_n1 lmk_X9_begin_0)
theorem lmk_X9_step_0 : lm_chkR cX9_step lmt_X9_step (128 * 0) = true := by decide +kernel
theorem lmk_X9_step_1 : lm_chkR cX9_step lmt_X9_step (128 * 1) = true := by decide +kernel
theorem lmo_X9_step : lm_okC cX9_step lmt_X9_step := lm_okC_of 2 (by decide) (lm_nS (lm_n1 lmk_X9_step_0) lmk_X9_step_1)
theorem lmk_X9_gainNow_0 : lm_chkR cX9_gainNow lmt_X9_gainNow (128 * 0) = true := by decide +kernel
theorem lmo_X9_gainNow : lm_okC cX9_gainNow lmt_X9_gainNow := lm_okC_of 1 (by decide) (lm_n1 lmk_X9_gainNow_0)
theorem lmk_X9_allCanGain_0 : lm_chkR cX9_allCanGain lmt_X9_allCanGain (128 * 0) = true := by decide +kernel
theorem lmo_X9_allCanGain : lm_okC cX9_allCanGain lmt_X9_allCanGain := lm_okC_of 1 (by decide) (lm_n1 lmk_X9_allCanGain_0)
theorem lmk_X9_allGain_0 : lm_chkR cX9_allGain lmt_X9_allGain (128 * 0) = true := by decide +kernel
theorem lmo_X9_allGain : lm_okC cX9_allGain lmt_X9_allGain := lm_okC_of 1 (by decide) (lm_n1 lmk_X9_allGain_0)
theorem lmk_X10_init_0 : lm_chkR cX10_init lmt_X10_init (128 * 0) = true := by decide +kernel
theorem lmo_X10_init : lm_okC cX10_init lmt_X10_init := lm_okC_of 1 (by decide) (lm_n1 lmk_X10_init_0)
theorem lmk_X10_live_0 : lm_chkR cX10_live lmt_X10_live (128 * 0) = true := by decide +kernel
theorem lmk_X10_live_1 : lm_chkR cX10_live lmt_X10_live (128 * 1) = true := by decide +kernel
theorem lmo_X10_live : lm_okC cX10_live lmt_X10_live := lm_okC_of 2 (by decide) (lm_nS (lm_n1 lmk_X10_live_0) lmk_X10_live_1)
theorem lmk_X10_draw_0 : lm_chkR cX10_draw lmt_X10_draw (128 * 0) = true := by decide +kernel
theorem lmo_X10_draw : lm_okC cX10_draw lmt_X10_draw := lm_okC_of 1 (by decide) (lm_n1 lmk_X10_draw_0)
theorem lmk_X10_wish_0 : lm_chkR cX10_wish lmt_X10_wish (128 * 0) = true := by decide +kernel
theorem lmo_X10_wish : lm_okC cX10_wish lmt_X10_wish := lm_okC_of 1 (by decide) (lm_n1 lmk_X10_wish_0)
theorem lmk_X10_rolled_0 : lm_chkR cX10_rolled lmt_X10_rolled (128 * 0) = true := by decide +kernel
theorem lmo_X10_rolled : lm_okC cX10_rolled lmt_X10_rolled := lm_okC_of 1 (by decide) (lm_n1 lmk_X10_rolled_0)
theorem lmk_X10_hoped_0 : lm_chkR cX10_hoped lmt_X10_hoped (128 * 0) = true := by decide +kernel
theorem lmo_X10_hoped : lm_okC cX10_hoped lmt_X10_hoped := lm_okC_of 1 (by decide) (lm_n1 lmk_X10_hoped_0)
theorem lmk_X10_envied_0 : lm_chkR cX10_envied lmt_X10_envied (128 * 0) = true := by decide +kernel
theorem lmo_X10_envied : lm_okC cX10_envied lmt_X10_envied := lm_okC_of 1 (by decide) (lm_n1 lmk_X10_envied_0)
theorem lmk_X10_keptUp_0 : lm_chkR cX10_keptUp lmt_X10_keptUp (128 * 0) = true := by decide +kernel
theorem lmo_X10_keptUp : lm_okC cX10_keptUp lmt_X10_keptUp := lm_okC_of 1 (by decide) (lm_n1 lmk_X10_keptUp_0)
theorem lmk_X10_seatGuests_0 : lm_chkR cX10_seatGuests lmt_X10_seatGuests (128 * 0) = true := by decide +kernel
theorem lmo_X10_seatGuests : lm_okC cX10_seatGuests lmt_X10_seatGuests := lm_okC_of 1 (by decide) (lm_n1 lmk_X10_seatGuests_0)
theorem lmk_X10_lotAmong_0 : lm_chkR cX10_lotAmong lmt_X10_lotAmong (128 * 0) = true := by decide +kernel
theorem lmo_X10_lotAmong : lm_okC cX10_lotAmong lmt_X10_lotAmong := lm_okC_of 1 (by decide) (lm_n1 lmk_X10_lotAmong_0)
theorem lmk_X10_writeDown_0 : lm_chkR cX10_writeDown lmt_X10_writeDown (128 * 0) = true := by decide +kernel
theorem lmk_X10_writeDown_1 : lm_chkR cX10_writeDown lmt_X10_writeDown (128 * 1) = true := by decide +kernel
theorem lmo_X10_writeDown : lm_okC cX10_writeDown lmt_X10_writeDown := lm_okC_of 2 (by decide) (lm_nS (lm_n1 lmk_X10_writeDown_0) lmk_X10_writeDown_1)
theorem lmk_X10_askedAlike_0 : lm_chkR cX10_askedAlike lmt_X10_askedAlike (128 * 0) = true := by decide +kernel
theorem lmo_X10_askedAlike : lm_okC cX10_askedAlike lmt_X10_askedAlike := lm_okC_of 1 (by decide) (lm_n1 lmk_X10_askedAlike_0)
theorem lmk_X11_init_0 : lm_chkR cX11_init lmt_X11_init (128 * 0) = true := by decide +kernel
theorem lmk_X11_init_1 : lm_chkR cX11_init lmt_X11_init (128 * 1) = true := by decide +kernel
theorem lmo_X11_init : lm_okC cX11_init lmt_X11_init := lm_okC_of 2 (by decide) (lm_nS (lm_n1 lmk_X11_init_0) lmk_X11_init_1)
theorem lmk_X11_host_0 : lm_chkR cX11_host lmt_X11_host (128 * 0) = true := by decide +kernel
theorem lmo_X11_host : lm_okC cX11_host lmt_X11_host := lm_okC_of 1 (by decide) (lm_n1 lmk_X11_host_0)
theorem lmk_X11_guest_0 : lm_chkR cX11_guest lmt_X11_guest (128 * 0) = true := by decide +kernel
theorem lmo_X11_guest : lm_okC cX11_guest lmt_X11_guest := lm_okC_of 1 (by decide) (lm_n1 lmk_X11_guest_0)
theorem lmk_X11_base_0 : lm_chkR cX11_base lmt_X11_base (128 * 0) = true := by decide +kernel
theorem lmo_X11_base : lm_okC cX11_base lmt_X11_base := lm_okC_of 1 (by decide) (lm_n1 lmk_X11_base_0)
theorem lmk_X11_of_0 : lm_chkR cX11_of lmt_X11_of (128 * 0) = true := by decide +kernel
theorem lmo_X11_of : lm_okC cX11_of lmt_X11_of := lm_okC_of 1 (by decide) (lm_n1 lmk_X11_of_0)
theorem lmk_X11_terms_0 : lm_chkR cX11_terms lmt_X11_terms (128 * 0) = true := by decide +kernel
theorem lmo_X11_terms : lm_okC cX11_terms lmt_X11_terms := lm_okC_of 1 (by decide) (lm_n1 lmk_X11_terms_0)
theorem lmk_X11_feed_0 : lm_chkR cX11_feed lmt_X11_feed (128 * 0) = true := by decide +kernel
theorem lmo_X11_feed : lm_okC cX11_feed lmt_X11_feed := lm_okC_of 1 (by decide) (lm_n1 lmk_X11_feed_0)
theorem lmk_X11_end_0 : lm_chkR cX11_end lmt_X11_end (128 * 0) = true := by decide +kernel
theorem lmo_X11_end : lm_okC cX11_end lmt_X11_end := lm_okC_of 1 (by decide) (lm_n1 lmk_X11_end_0)
theorem lmk_X11_row_0 : lm_chkR cX11_row lmt_X11_row (128 * 0) = true := by decide +kernel
theorem lmo_X11_row : lm_okC cX11_row lmt_X11_row := lm_okC_of 1 (by decide) (lm_n1 lmk_X11_row_0)
theorem lmk_X11_smudged_0 : lm_chkR cX11_smudged lmt_X11_smudged (128 * 0) = true := by decide +kernel
theorem lmo_X11_smudged : lm_okC cX11_smudged lmt_X11_smudged := lm_okC_of 1 (by decide) (lm_n1 lmk_X11_smudged_0)
theorem lmk_X11_law_0 : lm_chkR cX11_law lmt_X11_law (128 * 0) = true := by decide +kernel
theorem lmo_X11_law : lm_okC cX11_law lmt_X11_law := lm_okC_of 1 (by decide) (lm_n1 lmk_X11_law_0)
theorem lmk_X11_fault_0 : lm_chkR cX11_fault lmt_X11_fault (128 * 0) = true := by decide +kernel
theorem lmo_X11_fault : lm_okC cX11_fault lmt_X11_fault := lm_okC_of 1 (by decide) (lm_n1 lmk_X11_fault_0)
theorem lmk_X11_force_0 : lm_chkR cX11_force lmt_X11_force (128 * 0) = true := by decide +kernel
theorem lmo_X11_force : lm_okC cX11_force lmt_X11_force := lm_okC_of 1 (by decide) (lm_n1 lmk_X11_force_0)
theorem lmk_X11_ask_0 : lm_chkR cX11_ask lmt_X11_ask (128 * 0) = true := by decide +kernel
theorem lmo_X11_ask : lm_okC cX11_ask lmt_X11_ask := lm_okC_of 1 (by decide) (lm_n1 lmk_X11_ask_0)
theorem lmk_X11_asked_0 : lm_chkR cX11_asked lmt_X11_asked (128 * 0) = true := by decide +kernel
theorem lmo_X11_asked : lm_okC cX11_asked lmt_X11_asked := lm_okC_of 1 (by decide) (lm_n1 lmk_X11_asked_0)
theorem lmk_X11_goes_0 : lm_chkR cX11_goes lmt_X11_goes (128 * 0) = true := by decide +kernel
theorem lmo_X11_goes : lm_okC cX11_goes lmt_X11_goes := lm_okC_of 1 (by decide) (lm_n1 lmk_X11_goes_0)
theorem lmk_X11_gain_0 : lm_chkR cX11_gain lmt_X11_gain (128 * 0) = true := by decide +kernel
theorem lmo_X11_gain : lm_okC cX11_gain lmt_X11_gain := lm_okC_of 1 (by decide) (lm_n1 lmk_X11_gain_0)
theorem lmk_X11_most_0 : lm_chkR cX11_most lmt_X11_most (128 * 0) = true := by decide +kernel
theorem lmo_X11_most : lm_okC cX11_most lmt_X11_most := lm_okC_of 1 (by decide) (lm_n1 lmk_X11_most_0)
theorem lmk_X11_mostOf_0 : lm_chkR cX11_mostOf lmt_X11_mostOf (128 * 0) = true := by decide +kernel
theorem lmo_X11_mostOf : lm_okC cX11_mostOf lmt_X11_mostOf := lm_okC_of 1 (by decide) (lm_n1 lmk_X11_mostOf_0)
theorem lmk_X11_fair_0 : lm_chkR cX11_fair lmt_X11_fair (128 * 0) = true := by decide +kernel
theorem lmo_X11_fair : lm_okC cX11_fair lmt_X11_fair := lm_okC_of 1 (by decide) (lm_n1 lmk_X11_fair_0)
theorem lmk_X11_steady_0 : lm_chkR cX11_steady lmt_X11_steady (128 * 0) = true := by decide +kernel
theorem lmo_X11_steady : lm_okC cX11_steady lmt_X11_steady := lm_okC_of 1 (by decide) (lm_n1 lmk_X11_steady_0)
theorem lmk_X11_steadyOf_0 : lm_chkR cX11_steadyOf lmt_X11_steadyOf (128 * 0) = true := by decide +kernel
theorem lmo_X11_steadyOf : lm_okC cX11_steadyOf lmt_X11_steadyOf := lm_okC_of 1 (by decide) (lm_n1 lmk_X11_steadyOf_0)
theorem lmk_X11_steadySum_0 : lm_chkR cX11_steadySum lmt_X11_steadySum (128 * 0) = true := by decide +kernel
theorem lmo_X11_steadySum : lm_okC cX11_steadySum lmt_X11_steadySum := lm_okC_of 1 (by decide) (lm_n1 lmk_X11_steadySum_0)
theorem lmk_X11_answers_0 : lm_chkR cX11_answers lmt_X11_answers (128 * 0) = true := by decide +kernel
theorem lmo_X11_answers : lm_okC cX11_answers lmt_X11_answers := lm_okC_of 1 (by decide) (lm_n1 lmk_X11_answers_0)
theorem lmk_X11_rounds_0 : lm_chkR cX11_rounds lmt_X11_rounds (128 * 0) = true := by decide +kernel
theorem lmo_X11_rounds : lm_okC cX11_rounds lmt_X11_rounds := lm_okC_of 1 (by decide) (lm_n1 lmk_X11_rounds_0)
theorem lmk_X11_turned_0 : lm_chkR cX11_turned lmt_X11_turned (128 * 0) = true := by decide +kernel
theorem lmo_X11_turned : lm_okC cX11_turned lmt_X11_turned := lm_okC_of 1 (by decide) (lm_n1 lmk_X11_turned_0)
theorem lmk_X11_breaks_0 : lm_chkR cX11_breaks lmt_X11_breaks (128 * 0) = true := by decide +kernel
theorem lmo_X11_breaks : lm_okC cX11_breaks lmt_X11_breaks := lm_okC_of 1 (by decide) (lm_n1 lmk_X11_breaks_0)
theorem lmk_X11_breaker_0 : lm_chkR cX11_breaker lmt_X11_breaker (128 * 0) = true := by decide +kernel
theorem lmo_X11_breaker : lm_okC cX11_breaker lmt_X11_breaker := lm_okC_of 1 (by decide) (lm_n1 lmk_X11_breaker_0)
theorem lmk_X11_dice_0 : lm_chkR cX11_dice lmt_X11_dice (128 * 0) = true := by decide +kernel
theorem lmo_X11_dice : lm_okC cX11_dice lmt_X11_dice := lm_okC_of 1 (by decide) (lm_n1 lmk_X11_dice_0)
theorem lmk_X11_mean_0 : lm_chkR cX11_mean lmt_X11_mean (128 * 0) = true := by decide +kernel
theorem lmo_X11_mean : lm_okC cX11_mean lmt_X11_mean := lm_okC_of 1 (by decide) (lm_n1 lmk_X11_mean_0)
theorem lmk_X11_restless_0 : lm_chkR cX11_restless lmt_X11_restless (128 * 0) = true := by decide +kernel
theorem lmo_X11_restless : lm_okC cX11_restless lmt_X11_restless := lm_okC_of 1 (by decide) (lm_n1 lmk_X11_restless_0)
theorem lmk_X11_alike_0 : lm_chkR cX11_alike lmt_X11_alike (128 * 0) = true := by decide +kernel
theorem lmo_X11_alike : lm_okC cX11_alike lmt_X11_alike := lm_okC_of 1 (by decide) (lm_n1 lmk_X11_alike_0)
theorem lmk_X11_alikeOf_0 : lm_chkR cX11_alikeOf lmt_X11_alikeOf (128 * 0) = true := by decide +kernel
theorem lmo_X11_alikeOf : lm_okC cX11_alikeOf lmt_X11_alikeOf := lm_okC_of 1 (by decide) (lm_n1 lmk_X11_alikeOf_0)
theorem lmk_X11_manner_0 : lm_chkR cX11_manner lmt_X11_manner (128 * 0) = true := by decide +kernel
theorem lmo_X11_manner : lm_okC cX11_manner lmt_X11_manner := lm_okC_of 1 (by decide) (lm_n1 lmk_X11_manner_0)
theorem lmk_X11_year_0 : lm_chkR cX11_year lmt_X11_year (128 * 0) = true := by decide +kernel
theorem lmo_X11_year : lm_okC cX11_year lmt_X11_year := lm_okC_of 1 (by decide) (lm_n1 lmk_X11_year_0)
theorem lmk_X11_dined_0 : lm_chkR cX11_dined lmt_X11_dined (128 * 0) = true := by decide +kernel
theorem lmo_X11_dined : lm_okC cX11_dined lmt_X11_dined := lm_okC_of 1 (by decide) (lm_n1 lmk_X11_dined_0)
theorem lmk_X11_earned_0 : lm_chkR cX11_earned lmt_X11_earned (128 * 0) = true := by decide +kernel
theorem lmo_X11_earned : lm_okC cX11_earned lmt_X11_earned := lm_okC_of 1 (by decide) (lm_n1 lmk_X11_earned_0)
theorem lmk_X11_settled_0 : lm_chkR cX11_settled lmt_X11_settled (128 * 0) = true := by decide +kernel
theorem lmo_X11_settled : lm_okC cX11_settled lmt_X11_settled := lm_okC_of 1 (by decide) (lm_n1 lmk_X11_settled_0)
theorem lmk_X11_image_0 : lm_chkR cX11_image lmt_X11_image (128 * 0) = true := by decide +kernel
theorem lmo_X11_image : lm_okC cX11_image lmt_X11_image := lm_okC_of 1 (by decide) (lm_n1 lmk_X11_image_0)
theorem lmk_X11_back_0 : lm_chkR cX11_back lmt_X11_back (128 * 0) = true := by decide +kernel
theorem lmo_X11_back : lm_okC cX11_back lmt_X11_back := lm_okC_of 1 (by decide) (lm_n1 lmk_X11_back_0)
theorem lmk_X11_count_0 : lm_chkR cX11_count lmt_X11_count (128 * 0) = true := by decide +kernel
theorem lmk_X11_count_1 : lm_chkR cX11_count lmt_X11_count (128 * 1) = true := by decide +kernel
theorem lmo_X11_count : lm_okC cX11_count lmt_X11_count := lm_okC_of 2 (by decide) (lm_nS (lm_n1 lmk_X11_count_0) lmk_X11_count_1)
theorem lmk_X11_status_0 : lm_chkR cX11_status lmt_X11_status (128 * 0) = true := by decide +kernel
theorem lmo_X11_status : lm_okC cX11_status lmt_X11_status := lm_okC_of 1 (by decide) (lm_n1 lmk_X11_status_0)
theorem lmk_X11_refuse_0 : lm_chkR cX11_refuse lmt_X11_refuse (128 * 0) = true := by decide +kernel
theorem lmo_X11_refuse : lm_okC cX11_refuse lmt_X11_refuse := lm_okC_of 1 (by decide) (lm_n1 lmk_X11_refuse_0)
theorem lmk_X11_grant_0 : lm_chkR cX11_grant lmt_X11_grant (128 * 0) = true := by decide +kernel
theorem lmo_X11_grant : lm_okC cX11_grant lmt_X11_grant := lm_okC_of 1 (by decide) (lm_n1 lmk_X11_grant_0)
theorem lmk_X11_placeOf_0 : lm_chkR cX11_placeOf lmt_X11_placeOf (128 * 0) = true := by decide +kernel
theorem lmo_X11_placeOf : lm_okC cX11_placeOf lmt_X11_placeOf := lm_okC_of 1 (by decide) (lm_n1 lmk_X11_placeOf_0)
theorem lmk_X11_takeRow_0 : lm_chkR cX11_takeRow lmt_X11_takeRow (128 * 0) = true := by decide +kernel
theorem lmo_X11_takeRow : lm_okC cX11_takeRow lmt_X11_takeRow := lm_okC_of 1 (by decide) (lm_n1 lmk_X11_takeRow_0)
