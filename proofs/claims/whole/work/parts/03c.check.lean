theorem lmk_X11_fillTable_0 : lm_chkR cX11_fillTable lmt_X11_fillTable (128 * 0) = true := by decide +kernel
theorem lmo_X11_fillTable : lm_okC cX11_fillTable lmt_X11_fillTable := lm_okC_of 1 (by decide) (lm_n1 lmk_X11_fillTable_0)
theorem lmk_X11_takeTold_0 : lm_chkR cX11_takeTold lmt_X11_takeTold (128 * 0) = true := by decide +kernel
theorem lmo_X11_takeTold : lm_okC cX11_takeTold lmt_X11_takeTold := lm_okC_of 1 (by decide) (lm_n1 lmk_X11_takeTold_0)
theorem lmk_X11_surveyAll_0 : lm_chkR cX11_surveyAll lmt_X11_surveyAll (128 * 0) = true := by decide +kernel
theorem lmo_X11_surveyAll : lm_okC cX11_surveyAll lmt_X11_surveyAll := lm_okC_of 1 (by decide) (lm_n1 lmk_X11_surveyAll_0)
theorem lmk_X11_isTooFar_0 : lm_chkR cX11_isTooFar lmt_X11_isTooFar (128 * 0) = true := by decide +kernel
theorem lmo_X11_isTooFar : lm_okC cX11_isTooFar lmt_X11_isTooFar := lm_okC_of 1 (by decide) (lm_n1 lmk_X11_isTooFar_0)
theorem lmk_X11_pair_0 : lm_chkR cX11_pair lmt_X11_pair (128 * 0) = true := by decide +kernel
theorem lmo_X11_pair : lm_okC cX11_pair lmt_X11_pair := lm_okC_of 1 (by decide) (lm_n1 lmk_X11_pair_0)
theorem lmk_X11_cell_0 : lm_chkR cX11_cell lmt_X11_cell (128 * 0) = true := by decide +kernel
theorem lmo_X11_cell : lm_okC cX11_cell lmt_X11_cell := lm_okC_of 1 (by decide) (lm_n1 lmk_X11_cell_0)
theorem lmk_X11_shown_0 : lm_chkR cX11_shown lmt_X11_shown (128 * 0) = true := by decide +kernel
theorem lmo_X11_shown : lm_okC cX11_shown lmt_X11_shown := lm_okC_of 1 (by decide) (lm_n1 lmk_X11_shown_0)
theorem lmk_X11_lowestIn_0 : lm_chkR cX11_lowestIn lmt_X11_lowestIn (128 * 0) = true := by decide +kernel
theorem lmo_X11_lowestIn : lm_okC cX11_lowestIn lmt_X11_lowestIn := lm_okC_of 1 (by decide) (lm_n1 lmk_X11_lowestIn_0)
theorem lmk_X11_packed_0 : lm_chkR cX11_packed lmt_X11_packed (128 * 0) = true := by decide +kernel
theorem lmo_X11_packed : lm_okC cX11_packed lmt_X11_packed := lm_okC_of 1 (by decide) (lm_n1 lmk_X11_packed_0)
theorem lmk_X12_lies_0 : lm_chkR cX12_lies lmt_X12_lies (128 * 0) = true := by decide +kernel
theorem lmo_X12_lies : lm_okC cX12_lies lmt_X12_lies := lm_okC_of 1 (by decide) (lm_n1 lmk_X12_lies_0)
theorem lmk_X12_refuses_0 : lm_chkR cX12_refuses lmt_X12_refuses (128 * 0) = true := by decide +kernel
theorem lmo_X12_refuses : lm_okC cX12_refuses lmt_X12_refuses := lm_okC_of 1 (by decide) (lm_n1 lmk_X12_refuses_0)
theorem lmk_X12_refusesNothing_0 : lm_chkR cX12_refusesNothing lmt_X12_refusesNothing (128 * 0) = true := by decide +kernel
theorem lmo_X12_refusesNothing : lm_okC cX12_refusesNothing lmt_X12_refusesNothing := lm_okC_of 1 (by decide) (lm_n1 lmk_X12_refusesNothing_0)
theorem lmk_X12_good_0 : lm_chkR cX12_good lmt_X12_good (128 * 0) = true := by decide +kernel
theorem lmo_X12_good : lm_okC cX12_good lmt_X12_good := lm_okC_of 1 (by decide) (lm_n1 lmk_X12_good_0)
theorem lmk_X12_isIn_0 : lm_chkR cX12_isIn lmt_X12_isIn (128 * 0) = true := by decide +kernel
theorem lmo_X12_isIn : lm_okC cX12_isIn lmt_X12_isIn := lm_okC_of 1 (by decide) (lm_n1 lmk_X12_isIn_0)
theorem lmk_X12_init_0 : lm_chkR cX12_init lmt_X12_init (128 * 0) = true := by decide +kernel
theorem lmk_X12_init_1 : lm_chkR cX12_init lmt_X12_init (128 * 1) = true := by decide +kernel
theorem lmk_X12_init_2 : lm_chkR cX12_init lmt_X12_init (128 * 2) = true := by decide +kernel
theorem lmk_X12_init_3 : lm_chkR cX12_init lmt_X12_init (128 * 3) = true := by decide +kernel
theorem lmk_X12_init_4 : lm_chkR cX12_init lmt_X12_init (128 * 4) = true := by decide +kernel
theorem lmo_X12_init : lm_okC cX12_init lmt_X12_init := lm_okC_of 5 (by decide) (lm_nS (lm_nS (lm_nS (lm_nS (lm_n1 lmk_X12_init_0) lmk_X12_init_1) lmk_X12_init_2) lmk_X12_init_3) lmk_X12_init_4)
theorem lmk_X12_image_0 : lm_chkR cX12_image lmt_X12_image (128 * 0) = true := by decide +kernel
theorem lmo_X12_image : lm_okC cX12_image lmt_X12_image := lm_okC_of 1 (by decide) (lm_n1 lmk_X12_image_0)
theorem lmk_X12_back_0 : lm_chkR cX12_back lmt_X12_back (128 * 0) = true := by decide +kernel
theorem lmo_X12_back : lm_okC cX12_back lmt_X12_back := lm_okC_of 1 (by decide) (lm_n1 lmk_X12_back_0)
theorem lmk_X12_hosts_0 : lm_chkR cX12_hosts lmt_X12_hosts (128 * 0) = true := by decide +kernel
theorem lmo_X12_hosts : lm_okC cX12_hosts lmt_X12_hosts := lm_okC_of 1 (by decide) (lm_n1 lmk_X12_hosts_0)
theorem lmk_X12_guests_0 : lm_chkR cX12_guests lmt_X12_guests (128 * 0) = true := by decide +kernel
theorem lmo_X12_guests : lm_okC cX12_guests lmt_X12_guests := lm_okC_of 1 (by decide) (lm_n1 lmk_X12_guests_0)
theorem lmk_X12_isHost_0 : lm_chkR cX12_isHost lmt_X12_isHost (128 * 0) = true := by decide +kernel
theorem lmo_X12_isHost : lm_okC cX12_isHost lmt_X12_isHost := lm_okC_of 1 (by decide) (lm_n1 lmk_X12_isHost_0)
theorem lmk_X12_isGuest_0 : lm_chkR cX12_isGuest lmt_X12_isGuest (128 * 0) = true := by decide +kernel
theorem lmo_X12_isGuest : lm_okC cX12_isGuest lmt_X12_isGuest := lm_okC_of 1 (by decide) (lm_n1 lmk_X12_isGuest_0)
theorem lmk_X12_host_0 : lm_chkR cX12_host lmt_X12_host (128 * 0) = true := by decide +kernel
theorem lmo_X12_host : lm_okC cX12_host lmt_X12_host := lm_okC_of 1 (by decide) (lm_n1 lmk_X12_host_0)
theorem lmk_X12_guest_0 : lm_chkR cX12_guest lmt_X12_guest (128 * 0) = true := by decide +kernel
theorem lmo_X12_guest : lm_okC cX12_guest lmt_X12_guest := lm_okC_of 1 (by decide) (lm_n1 lmk_X12_guest_0)
theorem lmk_X12_base_0 : lm_chkR cX12_base lmt_X12_base (128 * 0) = true := by decide +kernel
theorem lmo_X12_base : lm_okC cX12_base lmt_X12_base := lm_okC_of 1 (by decide) (lm_n1 lmk_X12_base_0)
theorem lmk_X12_terms_0 : lm_chkR cX12_terms lmt_X12_terms (128 * 0) = true := by decide +kernel
theorem lmo_X12_terms : lm_okC cX12_terms lmt_X12_terms := lm_okC_of 1 (by decide) (lm_n1 lmk_X12_terms_0)
theorem lmk_X12_ask_0 : lm_chkR cX12_ask lmt_X12_ask (128 * 0) = true := by decide +kernel
theorem lmo_X12_ask : lm_okC cX12_ask lmt_X12_ask := lm_okC_of 1 (by decide) (lm_n1 lmk_X12_ask_0)
theorem lmk_X12_manner_0 : lm_chkR cX12_manner lmt_X12_manner (128 * 0) = true := by decide +kernel
theorem lmo_X12_manner : lm_okC cX12_manner lmt_X12_manner := lm_okC_of 1 (by decide) (lm_n1 lmk_X12_manner_0)
theorem lmk_X12_dice_0 : lm_chkR cX12_dice lmt_X12_dice (128 * 0) = true := by decide +kernel
theorem lmk_X12_dice_1 : lm_chkR cX12_dice lmt_X12_dice (128 * 1) = true := by decide +kernel
theorem lmo_X12_dice : lm_okC cX12_dice lmt_X12_dice := lm_okC_of 2 (by decide) (lm_nS (lm_n1 lmk_X12_dice_0) lmk_X12_dice_1)
theorem lmk_X12_row_0 : lm_chkR cX12_row lmt_X12_row (128 * 0) = true := by decide +kernel
theorem lmk_X12_row_1 : lm_chkR cX12_row lmt_X12_row (128 * 1) = true := by decide +kernel
theorem lmo_X12_row : lm_okC cX12_row lmt_X12_row := lm_okC_of 2 (by decide) (lm_nS (lm_n1 lmk_X12_row_0) lmk_X12_row_1)
theorem lmk_X12_smudged_0 : lm_chkR cX12_smudged lmt_X12_smudged (128 * 0) = true := by decide +kernel
theorem lmo_X12_smudged : lm_okC cX12_smudged lmt_X12_smudged := lm_okC_of 1 (by decide) (lm_n1 lmk_X12_smudged_0)
theorem lmk_X12_feed_0 : lm_chkR cX12_feed lmt_X12_feed (128 * 0) = true := by decide +kernel
theorem lmo_X12_feed : lm_okC cX12_feed lmt_X12_feed := lm_okC_of 1 (by decide) (lm_n1 lmk_X12_feed_0)
theorem lmk_X12_end_0 : lm_chkR cX12_end lmt_X12_end (128 * 0) = true := by decide +kernel
theorem lmo_X12_end : lm_okC cX12_end lmt_X12_end := lm_okC_of 1 (by decide) (lm_n1 lmk_X12_end_0)
theorem lmk_X12_isSmall_0 : lm_chkR cX12_isSmall lmt_X12_isSmall (128 * 0) = true := by decide +kernel
theorem lmo_X12_isSmall : lm_okC cX12_isSmall lmt_X12_isSmall := lm_okC_of 1 (by decide) (lm_n1 lmk_X12_isSmall_0)
theorem lmk_X12_isDigit_0 : lm_chkR cX12_isDigit lmt_X12_isDigit (128 * 0) = true := by decide +kernel
theorem lmo_X12_isDigit : lm_okC cX12_isDigit lmt_X12_isDigit := lm_okC_of 1 (by decide) (lm_n1 lmk_X12_isDigit_0)
theorem lmk_X12_wordOf_0 : lm_chkR cX12_wordOf lmt_X12_wordOf (128 * 0) = true := by decide +kernel
theorem lmo_X12_wordOf : lm_okC cX12_wordOf lmt_X12_wordOf := lm_okC_of 1 (by decide) (lm_n1 lmk_X12_wordOf_0)
theorem lmk_X12_splits_0 : lm_chkR cX12_splits lmt_X12_splits (128 * 0) = true := by decide +kernel
theorem lmk_X12_splits_1 : lm_chkR cX12_splits lmt_X12_splits (128 * 1) = true := by decide +kernel
theorem lmk_X12_splits_2 : lm_chkR cX12_splits lmt_X12_splits (128 * 2) = true := by decide +kernel
theorem lmo_X12_splits : lm_okC cX12_splits lmt_X12_splits := lm_okC_of 3 (by decide) (lm_nS (lm_nS (lm_n1 lmk_X12_splits_0) lmk_X12_splits_1) lmk_X12_splits_2)
theorem lmk_X12_fine_0 : lm_chkR cX12_fine lmt_X12_fine (128 * 0) = true := by decide +kernel
theorem lmo_X12_fine : lm_okC cX12_fine lmt_X12_fine := lm_okC_of 1 (by decide) (lm_n1 lmk_X12_fine_0)
theorem lmk_X12_faults_0 : lm_chkR cX12_faults lmt_X12_faults (128 * 0) = true := by decide +kernel
theorem lmo_X12_faults : lm_okC cX12_faults lmt_X12_faults := lm_okC_of 1 (by decide) (lm_n1 lmk_X12_faults_0)
theorem lmk_X12_takes0_0 : lm_chkR cX12_takes0 lmt_X12_takes0 (128 * 0) = true := by decide +kernel
theorem lmo_X12_takes0 : lm_okC cX12_takes0 lmt_X12_takes0 := lm_okC_of 1 (by decide) (lm_n1 lmk_X12_takes0_0)
theorem lmk_X12_must_0 : lm_chkR cX12_must lmt_X12_must (128 * 0) = true := by decide +kernel
theorem lmo_X12_must : lm_okC cX12_must lmt_X12_must := lm_okC_of 1 (by decide) (lm_n1 lmk_X12_must_0)
theorem lmk_X12_leaf_0 : lm_chkR cX12_leaf lmt_X12_leaf (128 * 0) = true := by decide +kernel
theorem lmo_X12_leaf : lm_okC cX12_leaf lmt_X12_leaf := lm_okC_of 1 (by decide) (lm_n1 lmk_X12_leaf_0)
theorem lmk_X12_sign_0 : lm_chkR cX12_sign lmt_X12_sign (128 * 0) = true := by decide +kernel
theorem lmo_X12_sign : lm_okC cX12_sign lmt_X12_sign := lm_okC_of 1 (by decide) (lm_n1 lmk_X12_sign_0)
theorem lmk_X12_readClause_0 : lm_chkR cX12_readClause lmt_X12_readClause (128 * 0) = true := by decide +kernel
theorem lmo_X12_readClause : lm_okC cX12_readClause lmt_X12_readClause := lm_okC_of 1 (by decide) (lm_n1 lmk_X12_readClause_0)
theorem lmk_X12_readTest_0 : lm_chkR cX12_readTest lmt_X12_readTest (128 * 0) = true := by decide +kernel
theorem lmo_X12_readTest : lm_okC cX12_readTest lmt_X12_readTest := lm_okC_of 1 (by decide) (lm_n1 lmk_X12_readTest_0)
theorem lmk_X12_readBoth_0 : lm_chkR cX12_readBoth lmt_X12_readBoth (128 * 0) = true := by decide +kernel
theorem lmo_X12_readBoth : lm_okC cX12_readBoth lmt_X12_readBoth := lm_okC_of 1 (by decide) (lm_n1 lmk_X12_readBoth_0)
theorem lmk_X12_readPlain_0 : lm_chkR cX12_readPlain lmt_X12_readPlain (128 * 0) = true := by decide +kernel
theorem lmk_X12_readPlain_1 : lm_chkR cX12_readPlain lmt_X12_readPlain (128 * 1) = true := by decide +kernel
theorem lmo_X12_readPlain : lm_okC cX12_readPlain lmt_X12_readPlain := lm_okC_of 2 (by decide) (lm_nS (lm_n1 lmk_X12_readPlain_0) lmk_X12_readPlain_1)
theorem lmk_X12_readSum_0 : lm_chkR cX12_readSum lmt_X12_readSum (128 * 0) = true := by decide +kernel
theorem lmo_X12_readSum : lm_okC cX12_readSum lmt_X12_readSum := lm_okC_of 1 (by decide) (lm_n1 lmk_X12_readSum_0)
theorem lmk_X12_readTerm_0 : lm_chkR cX12_readTerm lmt_X12_readTerm (128 * 0) = true := by decide +kernel
theorem lmo_X12_readTerm : lm_okC cX12_readTerm lmt_X12_readTerm := lm_okC_of 1 (by decide) (lm_n1 lmk_X12_readTerm_0)
theorem lmk_X12_readPart_0 : lm_chkR cX12_readPart lmt_X12_readPart (128 * 0) = true := by decide +kernel
theorem lmo_X12_readPart : lm_okC cX12_readPart lmt_X12_readPart := lm_okC_of 1 (by decide) (lm_n1 lmk_X12_readPart_0)
theorem lmk_X12_reads_0 : lm_chkR cX12_reads lmt_X12_reads (128 * 0) = true := by decide +kernel
theorem lmo_X12_reads : lm_okC cX12_reads lmt_X12_reads := lm_okC_of 1 (by decide) (lm_n1 lmk_X12_reads_0)
theorem lmk_X12_law_0 : lm_chkR cX12_law lmt_X12_law (128 * 0) = true := by decide +kernel
theorem lmk_X12_law_1 : lm_chkR cX12_law lmt_X12_law (128 * 1) = true := by decide +kernel
theorem lmo_X12_law : lm_okC cX12_law lmt_X12_law := lm_okC_of 2 (by decide) (lm_nS (lm_n1 lmk_X12_law_0) lmk_X12_law_1)
theorem lmk_X12_fault_0 : lm_chkR cX12_fault lmt_X12_fault (128 * 0) = true := by decide +kernel
theorem lmo_X12_fault : lm_okC cX12_fault lmt_X12_fault := lm_okC_of 1 (by decide) (lm_n1 lmk_X12_fault_0)
theorem lmk_X12_force_0 : lm_chkR cX12_force lmt_X12_force (128 * 0) = true := by decide +kernel
theorem lmo_X12_force : lm_okC cX12_force lmt_X12_force := lm_okC_of 1 (by decide) (lm_n1 lmk_X12_force_0)
theorem lmk_X12_codeAt_0 : lm_chkR cX12_codeAt lmt_X12_codeAt (128 * 0) = true := by decide +kernel
theorem lmo_X12_codeAt : lm_okC cX12_codeAt lmt_X12_codeAt := lm_okC_of 1 (by decide) (lm_n1 lmk_X12_codeAt_0)
theorem lmk_X12_passes0_0 : lm_chkR cX12_passes0 lmt_X12_passes0 (128 * 0) = true := by decide +kernel
theorem lmo_X12_passes0 : lm_okC cX12_passes0 lmt_X12_passes0 := lm_okC_of 1 (by decide) (lm_n1 lmk_X12_passes0_0)
theorem lmk_X12_bounded_0 : lm_chkR cX12_bounded lmt_X12_bounded (128 * 0) = true := by decide +kernel
theorem lmo_X12_bounded : lm_okC cX12_bounded lmt_X12_bounded := lm_okC_of 1 (by decide) (lm_n1 lmk_X12_bounded_0)
theorem lmk_X12_sumOf_0 : lm_chkR cX12_sumOf lmt_X12_sumOf (128 * 0) = true := by decide +kernel
theorem lmo_X12_sumOf : lm_okC cX12_sumOf lmt_X12_sumOf := lm_okC_of 1 (by decide) (lm_n1 lmk_X12_sumOf_0)
theorem lmk_X12_termOf_0 : lm_chkR cX12_termOf lmt_X12_termOf (128 * 0) = true := by decide +kernel
theorem lmk_X12_termOf_1 : lm_chkR cX12_termOf lmt_X12_termOf (128 * 1) = true := by decide +kernel
theorem lmo_X12_termOf : lm_okC cX12_termOf lmt_X12_termOf := lm_okC_of 2 (by decide) (lm_nS (lm_n1 lmk_X12_termOf_0) lmk_X12_termOf_1)
theorem lmk_X12_partOf_0 : lm_chkR cX12_partOf lmt_X12_partOf (128 * 0) = true := by decide +kernel
theorem lmo_X12_partOf : lm_okC cX12_partOf lmt_X12_partOf := lm_okC_of 1 (by decide) (lm_n1 lmk_X12_partOf_0)
theorem lmk_X12_testOf_0 : lm_chkR cX12_testOf lmt_X12_testOf (128 * 0) = true := by decide +kernel
theorem lmo_X12_testOf : lm_okC cX12_testOf lmt_X12_testOf := lm_okC_of 1 (by decide) (lm_n1 lmk_X12_testOf_0)
theorem lmk_X12_bothOf_0 : lm_chkR cX12_bothOf lmt_X12_bothOf (128 * 0) = true := by decide +kernel
theorem lmo_X12_bothOf : lm_okC cX12_bothOf lmt_X12_bothOf := lm_okC_of 1 (by decide) (lm_n1 lmk_X12_bothOf_0)
theorem lmk_X12_plainOf_0 : lm_chkR cX12_plainOf lmt_X12_plainOf (128 * 0) = true := by decide +kernel
theorem lmo_X12_plainOf : lm_okC cX12_plainOf lmt_X12_plainOf := lm_okC_of 1 (by decide) (lm_n1 lmk_X12_plainOf_0)
theorem lmk_X12_positiveOf_0 : lm_chkR cX12_positiveOf lmt_X12_positiveOf (128 * 0) = true := by decide +kernel
theorem lmo_X12_positiveOf : lm_okC cX12_positiveOf lmt_X12_positiveOf := lm_okC_of 1 (by decide) (lm_n1 lmk_X12_positiveOf_0)
theorem lmk_X12_asksOf_0 : lm_chkR cX12_asksOf lmt_X12_asksOf (128 * 0) = true := by decide +kernel
theorem lmk_X12_asksOf_1 : lm_chkR cX12_asksOf lmt_X12_asksOf (128 * 1) = true := by decide +kernel
theorem lmk_X12_asksOf_2 : lm_chkR cX12_asksOf lmt_X12_asksOf (128 * 2) = true := by decide +kernel
theorem lmo_X12_asksOf : lm_okC cX12_asksOf lmt_X12_asksOf := lm_okC_of 3 (by decide) (lm_nS (lm_nS (lm_n1 lmk_X12_asksOf_0) lmk_X12_asksOf_1) lmk_X12_asksOf_2)
theorem lmk_X12_laysWorth_0 : lm_chkR cX12_laysWorth lmt_X12_laysWorth (128 * 0) = true := by decide +kernel
theorem lmo_X12_laysWorth : lm_okC cX12_laysWorth lmt_X12_laysWorth := lm_okC_of 1 (by decide) (lm_n1 lmk_X12_laysWorth_0)
theorem lmk_X12_looks_0 : lm_chkR cX12_looks lmt_X12_looks (128 * 0) = true := by decide +kernel
theorem lmo_X12_looks : lm_okC cX12_looks lmt_X12_looks := lm_okC_of 1 (by decide) (lm_n1 lmk_X12_looks_0)
theorem lmk_X12_of_0 : lm_chkR cX12_of lmt_X12_of (128 * 0) = true := by decide +kernel
theorem lmo_X12_of : lm_okC cX12_of lmt_X12_of := lm_okC_of 1 (by decide) (lm_n1 lmk_X12_of_0)
theorem lmk_X12_can_0 : lm_chkR cX12_can lmt_X12_can (128 * 0) = true := by decide +kernel
theorem lmo_X12_can : lm_okC cX12_can lmt_X12_can := lm_okC_of 1 (by decide) (lm_n1 lmk_X12_can_0)
theorem lmk_X12_nobodyIf_0 : lm_chkR cX12_nobodyIf lmt_X12_nobodyIf (128 * 0) = true := by decide +kernel
theorem lmo_X12_nobodyIf : lm_okC cX12_nobodyIf lmt_X12_nobodyIf := lm_okC_of 1 (by decide) (lm_n1 lmk_X12_nobodyIf_0)
