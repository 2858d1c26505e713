theorem lmk_X0_init_0 : lm_chkR cX0_init lmt_X0_init (128 * 0) = true := by decide +kernel
theorem lmo_X0_init : lm_okC cX0_init lmt_X0_init := lm_okC_of 1 (by decide) (lm_n1 lmk_X0_init_0)
theorem lmk_X0_takeDice_0 : lm_chkR cX0_takeDice lmt_X0_takeDice (128 * 0) = true := by decide +kernel
theorem lmo_X0_takeDice : lm_okC cX0_takeDice lmt_X0_takeDice := lm_okC_of 1 (by decide) (lm_n1 lmk_X0_takeDice_0)
theorem lmk_X0_alone_0 : lm_chkR cX0_alone lmt_X0_alone (128 * 0) = true := by decide +kernel
theorem lmo_X0_alone : lm_okC cX0_alone lmt_X0_alone := lm_okC_of 1 (by decide) (lm_n1 lmk_X0_alone_0)
theorem lmk_X0_byTenth_0 : lm_chkR cX0_byTenth lmt_X0_byTenth (128 * 0) = true := by decide +kernel
theorem lmk_X0_byTenth_1 : lm_chkR cX0_byTenth lmt_X0_byTenth (128 * 1) = true := by decide +kernel
theorem lmo_X0_byTenth : lm_okC cX0_byTenth lmt_X0_byTenth := lm_okC_of 2 (by decide) (lm_nS (lm_n1 lmk_X0_byTenth_0) lmk_X0_byTenth_1)
theorem lmk_X0_addOther_0 : lm_chkR cX0_addOther lmt_X0_addOther (128 * 0) = true := by decide +kernel
theorem lmo_X0_addOther : lm_okC cX0_addOther lmt_X0_addOther := lm_okC_of 1 (by decide) (lm_n1 lmk_X0_addOther_0)
theorem lmk_X0_byDice_0 : lm_chkR cX0_byDice lmt_X0_byDice (128 * 0) = true := by decide +kernel
theorem lmo_X0_byDice : lm_okC cX0_byDice lmt_X0_byDice := lm_okC_of 1 (by decide) (lm_n1 lmk_X0_byDice_0)
theorem lmk_X0_bestAlone_0 : lm_chkR cX0_bestAlone lmt_X0_bestAlone (128 * 0) = true := by decide +kernel
theorem lmo_X0_bestAlone : lm_okC cX0_bestAlone lmt_X0_bestAlone := lm_okC_of 1 (by decide) (lm_n1 lmk_X0_bestAlone_0)
theorem lmk_X0_weighAlike_0 : lm_chkR cX0_weighAlike lmt_X0_weighAlike (128 * 0) = true := by decide +kernel
theorem lmo_X0_weighAlike : lm_okC cX0_weighAlike lmt_X0_weighAlike := lm_okC_of 1 (by decide) (lm_n1 lmk_X0_weighAlike_0)
theorem lmk_X0_bringsAll_0 : lm_chkR cX0_bringsAll lmt_X0_bringsAll (128 * 0) = true := by decide +kernel
theorem lmo_X0_bringsAll : lm_okC cX0_bringsAll lmt_X0_bringsAll := lm_okC_of 1 (by decide) (lm_n1 lmk_X0_bringsAll_0)
theorem lmk_X0_findBest_0 : lm_chkR cX0_findBest lmt_X0_findBest (128 * 0) = true := by decide +kernel
theorem lmo_X0_findBest : lm_okC cX0_findBest lmt_X0_findBest := lm_okC_of 1 (by decide) (lm_n1 lmk_X0_findBest_0)
theorem lmk_X0_withAbove_0 : lm_chkR cX0_withAbove lmt_X0_withAbove (128 * 0) = true := by decide +kernel
theorem lmo_X0_withAbove : lm_okC cX0_withAbove lmt_X0_withAbove := lm_okC_of 1 (by decide) (lm_n1 lmk_X0_withAbove_0)
theorem lmk_X0_alikeSum_0 : lm_chkR cX0_alikeSum lmt_X0_alikeSum (128 * 0) = true := by decide +kernel
theorem lmo_X0_alikeSum : lm_okC cX0_alikeSum lmt_X0_alikeSum := lm_okC_of 1 (by decide) (lm_n1 lmk_X0_alikeSum_0)
theorem lmk_X0_alikeRows_0 : lm_chkR cX0_alikeRows lmt_X0_alikeRows (128 * 0) = true := by decide +kernel
theorem lmo_X0_alikeRows : lm_okC cX0_alikeRows lmt_X0_alikeRows := lm_okC_of 1 (by decide) (lm_n1 lmk_X0_alikeRows_0)
theorem lmk_X0_firstAlike_0 : lm_chkR cX0_firstAlike lmt_X0_firstAlike (128 * 0) = true := by decide +kernel
theorem lmo_X0_firstAlike : lm_okC cX0_firstAlike lmt_X0_firstAlike := lm_okC_of 1 (by decide) (lm_n1 lmk_X0_firstAlike_0)
theorem lmk_X1_init_0 : lm_chkR cX1_init lmt_X1_init (128 * 0) = true := by decide +kernel
theorem lmo_X1_init : lm_okC cX1_init lmt_X1_init := lm_okC_of 1 (by decide) (lm_n1 lmk_X1_init_0)
theorem lmk_X1_hear_0 : lm_chkR cX1_hear lmt_X1_hear (128 * 0) = true := by decide +kernel
theorem lmk_X1_hear_1 : lm_chkR cX1_hear lmt_X1_hear (128 * 1) = true := by decide +kernel
theorem lmo_X1_hear : lm_okC cX1_hear lmt_X1_hear := lm_okC_of 2 (by decide) (lm_nS (lm_n1 lmk_X1_hear_0) lmk_X1_hear_1)
theorem lmk_X1_isSo_0 : lm_chkR cX1_isSo lmt_X1_isSo (128 * 0) = true := by decide +kernel
theorem lmo_X1_isSo : lm_okC cX1_isSo lmt_X1_isSo := lm_okC_of 1 (by decide) (lm_n1 lmk_X1_isSo_0)
theorem lmk_X1_push_0 : lm_chkR cX1_push lmt_X1_push (128 * 0) = true := by decide +kernel
theorem lmo_X1_push : lm_okC cX1_push lmt_X1_push := lm_okC_of 1 (by decide) (lm_n1 lmk_X1_push_0)
theorem lmk_X1_pop_0 : lm_chkR cX1_pop lmt_X1_pop (128 * 0) = true := by decide +kernel
theorem lmo_X1_pop : lm_okC cX1_pop lmt_X1_pop := lm_okC_of 1 (by decide) (lm_n1 lmk_X1_pop_0)
theorem lmk_X1_close_0 : lm_chkR cX1_close lmt_X1_close (128 * 0) = true := by decide +kernel
theorem lmo_X1_close : lm_okC cX1_close lmt_X1_close := lm_okC_of 1 (by decide) (lm_n1 lmk_X1_close_0)
theorem lmk_X1_take_0 : lm_chkR cX1_take lmt_X1_take (128 * 0) = true := by decide +kernel
theorem lmo_X1_take : lm_okC cX1_take lmt_X1_take := lm_okC_of 1 (by decide) (lm_n1 lmk_X1_take_0)
theorem lmk_X1_joined_0 : lm_chkR cX1_joined lmt_X1_joined (128 * 0) = true := by decide +kernel
theorem lmk_X1_joined_1 : lm_chkR cX1_joined lmt_X1_joined (128 * 1) = true := by decide +kernel
theorem lmo_X1_joined : lm_okC cX1_joined lmt_X1_joined := lm_okC_of 2 (by decide) (lm_nS (lm_n1 lmk_X1_joined_0) lmk_X1_joined_1)
theorem lmk_X1_within_0 : lm_chkR cX1_within lmt_X1_within (128 * 0) = true := by decide +kernel
theorem lmo_X1_within : lm_okC cX1_within lmt_X1_within := lm_okC_of 1 (by decide) (lm_n1 lmk_X1_within_0)
theorem lmk_X2_init_0 : lm_chkR cX2_init lmt_X2_init (128 * 0) = true := by decide +kernel
theorem lmo_X2_init : lm_okC cX2_init lmt_X2_init := lm_okC_of 1 (by decide) (lm_n1 lmk_X2_init_0)
theorem lmk_X3_init_0 : lm_chkR cX3_init lmt_X3_init (128 * 0) = true := by decide +kernel
theorem lmo_X3_init : lm_okC cX3_init lmt_X3_init := lm_okC_of 1 (by decide) (lm_n1 lmk_X3_init_0)
theorem lmk_X3_read_0 : lm_chkR cX3_read lmt_X3_read (128 * 0) = true := by decide +kernel
theorem lmk_X3_read_1 : lm_chkR cX3_read lmt_X3_read (128 * 1) = true := by decide +kernel
theorem lmo_X3_read : lm_okC cX3_read lmt_X3_read := lm_okC_of 2 (by decide) (lm_nS (lm_n1 lmk_X3_read_0) lmk_X3_read_1)
theorem lmk_X3_cut_0 : lm_chkR cX3_cut lmt_X3_cut (128 * 0) = true := by decide +kernel
theorem lmk_X3_cut_1 : lm_chkR cX3_cut lmt_X3_cut (128 * 1) = true := by decide +kernel
theorem lmo_X3_cut : lm_okC cX3_cut lmt_X3_cut := lm_okC_of 2 (by decide) (lm_nS (lm_n1 lmk_X3_cut_0) lmk_X3_cut_1)
theorem lmk_X3_isLetter_0 : lm_chkR cX3_isLetter lmt_X3_isLetter (128 * 0) = true := by decide +kernel
theorem lmo_X3_isLetter : lm_okC cX3_isLetter lmt_X3_isLetter := lm_okC_of 1 (by decide) (lm_n1 lmk_X3_isLetter_0)
theorem lmk_X3_isDigit_0 : lm_chkR cX3_isDigit lmt_X3_isDigit (128 * 0) = true := by decide +kernel
theorem lmo_X3_isDigit : lm_okC cX3_isDigit lmt_X3_isDigit := lm_okC_of 1 (by decide) (lm_n1 lmk_X3_isDigit_0)
theorem lmk_X3_numberIn_0 : lm_chkR cX3_numberIn lmt_X3_numberIn (128 * 0) = true := by decide +kernel
theorem lmo_X3_numberIn : lm_okC cX3_numberIn lmt_X3_numberIn := lm_okC_of 1 (by decide) (lm_n1 lmk_X3_numberIn_0)
theorem lmk_X3_wordKind_0 : lm_chkR cX3_wordKind lmt_X3_wordKind (128 * 0) = true := by decide +kernel
theorem lmo_X3_wordKind : lm_okC cX3_wordKind lmt_X3_wordKind := lm_okC_of 1 (by decide) (lm_n1 lmk_X3_wordKind_0)
theorem lmk_X3_wordOf_0 : lm_chkR cX3_wordOf lmt_X3_wordOf (128 * 0) = true := by decide +kernel
theorem lmo_X3_wordOf : lm_okC cX3_wordOf lmt_X3_wordOf := lm_okC_of 1 (by decide) (lm_n1 lmk_X3_wordOf_0)
theorem lmk_X3_spells_0 : lm_chkR cX3_spells lmt_X3_spells (128 * 0) = true := by decide +kernel
theorem lmo_X3_spells : lm_okC cX3_spells lmt_X3_spells := lm_okC_of 1 (by decide) (lm_n1 lmk_X3_spells_0)
theorem lmk_X3_kindHere_0 : lm_chkR cX3_kindHere lmt_X3_kindHere (128 * 0) = true := by decide +kernel
theorem lmo_X3_kindHere : lm_okC cX3_kindHere lmt_X3_kindHere := lm_okC_of 1 (by decide) (lm_n1 lmk_X3_kindHere_0)
theorem lmk_X3_failHere_0 : lm_chkR cX3_failHere lmt_X3_failHere (128 * 0) = true := by decide +kernel
theorem lmo_X3_failHere : lm_okC cX3_failHere lmt_X3_failHere := lm_okC_of 1 (by decide) (lm_n1 lmk_X3_failHere_0)
theorem lmk_X3_emit_0 : lm_chkR cX3_emit lmt_X3_emit (128 * 0) = true := by decide +kernel
theorem lmo_X3_emit : lm_okC cX3_emit lmt_X3_emit := lm_okC_of 1 (by decide) (lm_n1 lmk_X3_emit_0)
theorem lmk_X3_goOnHere_0 : lm_chkR cX3_goOnHere lmt_X3_goOnHere (128 * 0) = true := by decide +kernel
theorem lmo_X3_goOnHere : lm_okC cX3_goOnHere lmt_X3_goOnHere := lm_okC_of 1 (by decide) (lm_n1 lmk_X3_goOnHere_0)
theorem lmk_X3_readClause_0 : lm_chkR cX3_readClause lmt_X3_readClause (128 * 0) = true := by decide +kernel
theorem lmk_X3_readClause_1 : lm_chkR cX3_readClause lmt_X3_readClause (128 * 1) = true := by decide +kernel
theorem lmo_X3_readClause : lm_okC cX3_readClause lmt_X3_readClause := lm_okC_of 2 (by decide) (lm_nS (lm_n1 lmk_X3_readClause_0) lmk_X3_readClause_1)
theorem lmk_X3_readTest_0 : lm_chkR cX3_readTest lmt_X3_readTest (128 * 0) = true := by decide +kernel
theorem lmo_X3_readTest : lm_okC cX3_readTest lmt_X3_readTest := lm_okC_of 1 (by decide) (lm_n1 lmk_X3_readTest_0)
theorem lmk_X3_readBoth_0 : lm_chkR cX3_readBoth lmt_X3_readBoth (128 * 0) = true := by decide +kernel
theorem lmo_X3_readBoth : lm_okC cX3_readBoth lmt_X3_readBoth := lm_okC_of 1 (by decide) (lm_n1 lmk_X3_readBoth_0)
theorem lmk_X3_readPlain_0 : lm_chkR cX3_readPlain lmt_X3_readPlain (128 * 0) = true := by decide +kernel
theorem lmo_X3_readPlain : lm_okC cX3_readPlain lmt_X3_readPlain := lm_okC_of 1 (by decide) (lm_n1 lmk_X3_readPlain_0)
theorem lmk_X3_readInBrackets_0 : lm_chkR cX3_readInBrackets lmt_X3_readInBrackets (128 * 0) = true := by decide +kernel
theorem lmo_X3_readInBrackets : lm_okC cX3_readInBrackets lmt_X3_readInBrackets := lm_okC_of 1 (by decide) (lm_n1 lmk_X3_readInBrackets_0)
theorem lmk_X3_readComparison_0 : lm_chkR cX3_readComparison lmt_X3_readComparison (128 * 0) = true := by decide +kernel
theorem lmo_X3_readComparison : lm_okC cX3_readComparison lmt_X3_readComparison := lm_okC_of 1 (by decide) (lm_n1 lmk_X3_readComparison_0)
theorem lmk_X3_comparison_0 : lm_chkR cX3_comparison lmt_X3_comparison (128 * 0) = true := by decide +kernel
theorem lmo_X3_comparison : lm_okC cX3_comparison lmt_X3_comparison := lm_okC_of 1 (by decide) (lm_n1 lmk_X3_comparison_0)
theorem lmk_X3_readSign_0 : lm_chkR cX3_readSign lmt_X3_readSign (128 * 0) = true := by decide +kernel
theorem lmo_X3_readSign : lm_okC cX3_readSign lmt_X3_readSign := lm_okC_of 1 (by decide) (lm_n1 lmk_X3_readSign_0)
theorem lmk_X3_readSum_0 : lm_chkR cX3_readSum lmt_X3_readSum (128 * 0) = true := by decide +kernel
theorem lmo_X3_readSum : lm_okC cX3_readSum lmt_X3_readSum := lm_okC_of 1 (by decide) (lm_n1 lmk_X3_readSum_0)
theorem lmk_X3_readTerm_0 : lm_chkR cX3_readTerm lmt_X3_readTerm (128 * 0) = true := by decide +kernel
theorem lmo_X3_readTerm : lm_okC cX3_readTerm lmt_X3_readTerm := lm_okC_of 1 (by decide) (lm_n1 lmk_X3_readTerm_0)
theorem lmk_X3_readPart_0 : lm_chkR cX3_readPart lmt_X3_readPart (128 * 0) = true := by decide +kernel
theorem lmk_X3_readPart_1 : lm_chkR cX3_readPart lmt_X3_readPart (128 * 1) = true := by decide +kernel
theorem lmo_X3_readPart : lm_okC cX3_readPart lmt_X3_readPart := lm_okC_of 2 (by decide) (lm_nS (lm_n1 lmk_X3_readPart_0) lmk_X3_readPart_1)
theorem lmk_X4_init_0 : lm_chkR cX4_init lmt_X4_init (128 * 0) = true := by decide +kernel
theorem lmo_X4_init : lm_okC cX4_init lmt_X4_init := lm_okC_of 1 (by decide) (lm_n1 lmk_X4_init_0)
theorem lmk_X4_hasHost_0 : lm_chkR cX4_hasHost lmt_X4_hasHost (128 * 0) = true := by decide +kernel
theorem lmo_X4_hasHost : lm_okC cX4_hasHost lmt_X4_hasHost := lm_okC_of 1 (by decide) (lm_n1 lmk_X4_hasHost_0)
theorem lmk_X4_hasGuest_0 : lm_chkR cX4_hasGuest lmt_X4_hasGuest (128 * 0) = true := by decide +kernel
theorem lmo_X4_hasGuest : lm_okC cX4_hasGuest lmt_X4_hasGuest := lm_okC_of 1 (by decide) (lm_n1 lmk_X4_hasGuest_0)
theorem lmk_X4_hasPair_0 : lm_chkR cX4_hasPair lmt_X4_hasPair (128 * 0) = true := by decide +kernel
theorem lmo_X4_hasPair : lm_okC cX4_hasPair lmt_X4_hasPair := lm_okC_of 1 (by decide) (lm_n1 lmk_X4_hasPair_0)
theorem lmk_X4_tenthsOf_0 : lm_chkR cX4_tenthsOf lmt_X4_tenthsOf (128 * 0) = true := by decide +kernel
theorem lmo_X4_tenthsOf : lm_okC cX4_tenthsOf lmt_X4_tenthsOf := lm_okC_of 1 (by decide) (lm_n1 lmk_X4_tenthsOf_0)
theorem lmk_X4_become_0 : lm_chkR cX4_become lmt_X4_become (128 * 0) = true := by decide +kernel
theorem lmk_X4_become_1 : lm_chkR cX4_become lmt_X4_become (128 * 1) = true := by decide +kernel
theorem lmo_X4_become : lm_okC cX4_become lmt_X4_become := lm_okC_of 2 (by decide) (lm_nS (lm_n1 lmk_X4_become_0) lmk_X4_become_1)
theorem lmk_X5_init_0 : lm_chkR cX5_init lmt_X5_init (128 * 0) = true := by decide +kernel
theorem lmo_X5_init : lm_okC cX5_init lmt_X5_init := lm_okC_of 1 (by decide) (lm_n1 lmk_X5_init_0)
theorem lmk_X5_look_0 : lm_chkR cX5_look lmt_X5_look (128 * 0) = true := by decide +kernel
theorem lmk_X5_look_1 : lm_chkR cX5_look lmt_X5_look (128 * 1) = true := by decide +kernel
theorem lmo_X5_look : lm_okC cX5_look lmt_X5_look := lm_okC_of 2 (by decide) (lm_nS (lm_n1 lmk_X5_look_0) lmk_X5_look_1)
theorem lmk_X5_askedBy_0 : lm_chkR cX5_askedBy lmt_X5_askedBy (128 * 0) = true := by decide +kernel
theorem lmo_X5_askedBy : lm_okC cX5_askedBy lmt_X5_askedBy := lm_okC_of 1 (by decide) (lm_n1 lmk_X5_askedBy_0)
theorem lmk_X5_listGains_0 : lm_chkR cX5_listGains lmt_X5_listGains (128 * 0) = true := by decide +kernel
theorem lmk_X5_listGains_1 : lm_chkR cX5_listGains lmt_X5_listGains (128 * 1) = true := by decide +kernel
theorem lmo_X5_listGains : lm_okC cX5_listGains lmt_X5_listGains := lm_okC_of 2 (by decide) (lm_nS (lm_n1 lmk_X5_listGains_0) lmk_X5_listGains_1)
theorem lmk_X5_weigh_0 : lm_chkR cX5_weigh lmt_X5_weigh (128 * 0) = true := by decide +kernel
theorem lmk_X5_weigh_1 : lm_chkR cX5_weigh lmt_X5_weigh (128 * 1) = true := by decide +kernel
theorem lmo_X5_weigh : lm_okC cX5_weigh lmt_X5_weigh := lm_okC_of 2 (by decide) (lm_nS (lm_n1 lmk_X5_weigh_0) lmk_X5_weigh_1)
theorem lmk_X5_isBest_0 : lm_chkR cX5_isBest lmt_X5_isBest (128 * 0) = true := by decide +kernel
theorem lmo_X5_isBest : lm_okC cX5_isBest lmt_X5_isBest := lm_okC_of 1 (by decide) (lm_n1 lmk_X5_isBest_0)
theorem lmk_X5_countMost_0 : lm_chkR cX5_countMost lmt_X5_countMost (128 * 0) = true := by decide +kernel
theorem lmo_X5_countMost : lm_okC cX5_countMost lmt_X5_countMost := lm_okC_of 1 (by decide) (lm_n1 lmk_X5_countMost_0)
theorem lmk_X6_init_0 : lm_chkR cX6_init lmt_X6_init (128 * 0) = true := by decide +kernel
theorem lmo_X6_init : lm_okC cX6_init lmt_X6_init := lm_okC_of 1 (by decide) (lm_n1 lmk_X6_init_0)
theorem lmk_X6_fill_0 : lm_chkR cX6_fill lmt_X6_fill (128 * 0) = true := by decide +kernel
theorem lmk_X6_fill_1 : lm_chkR cX6_fill lmt_X6_fill (128 * 1) = true := by decide +kernel
theorem lmk_X6_fill_2 : lm_chkR cX6_fill lmt_X6_fill (128 * 2) = true := by decide +kernel
theorem lmo_X6_fill : lm_okC cX6_fill lmt_X6_fill := lm_okC_of 3 (by decide) (lm_nS (lm_nS (lm_n1 lmk_X6_fill_0) lmk_X6_fill_1) lmk_X6_fill_2)
theorem lmk_X6_listChoices_0 : lm_chkR cX6_listChoices lmt_X6_listChoices (128 * 0) = true := by decide +kernel
theorem lmo_X6_listChoices : lm_okC cX6_listChoices lmt_X6_listChoices := lm_okC_of 1 (by decide) (lm_n1 lmk_X6_listChoices_0)
theorem lmk_X6_isLike_0 : lm_chkR cX6_isLike lmt_X6_isLike (128 * 0) = true := by decide +kernel
theorem lmo_X6_isLike : lm_okC cX6_isLike lmt_X6_isLike := lm_okC_of 1 (by decide) (lm_n1 lmk_X6_isLike_0)
