theorem lmk_X12_laysTold_0 : lm_chkR cX12_laysTold lmt_X12_laysTold (128 * 0) = true := by decide +kernel
theorem lmo_X12_laysTold : lm_okC cX12_laysTold lmt_X12_laysTold := lm_okC_of 1 (by decide) (lm_n1 lmk_X12_laysTold_0)
theorem lmk_X12_askers_0 : lm_chkR cX12_askers lmt_X12_askers (128 * 0) = true := by decide +kernel
theorem lmo_X12_askers : lm_okC cX12_askers lmt_X12_askers := lm_okC_of 1 (by decide) (lm_n1 lmk_X12_askers_0)
theorem lmk_X12_gainOf_0 : lm_chkR cX12_gainOf lmt_X12_gainOf (128 * 0) = true := by decide +kernel
theorem lmk_X12_gainOf_1 : lm_chkR cX12_gainOf lmt_X12_gainOf (128 * 1) = true := by decide +kernel
theorem lmo_X12_gainOf : lm_okC cX12_gainOf lmt_X12_gainOf := lm_okC_of 2 (by decide) (lm_nS (lm_n1 lmk_X12_gainOf_0) lmk_X12_gainOf_1)
theorem lmk_X12_sumOfGains_0 : lm_chkR cX12_sumOfGains lmt_X12_sumOfGains (128 * 0) = true := by decide +kernel
theorem lmo_X12_sumOfGains : lm_okC cX12_sumOfGains lmt_X12_sumOfGains := lm_okC_of 1 (by decide) (lm_n1 lmk_X12_sumOfGains_0)
theorem lmk_X12_asked_0 : lm_chkR cX12_asked lmt_X12_asked (128 * 0) = true := by decide +kernel
theorem lmo_X12_asked : lm_okC cX12_asked lmt_X12_asked := lm_okC_of 1 (by decide) (lm_n1 lmk_X12_asked_0)
theorem lmk_X12_goes_0 : lm_chkR cX12_goes lmt_X12_goes (128 * 0) = true := by decide +kernel
theorem lmo_X12_goes : lm_okC cX12_goes lmt_X12_goes := lm_okC_of 1 (by decide) (lm_n1 lmk_X12_goes_0)
theorem lmk_X12_gain_0 : lm_chkR cX12_gain lmt_X12_gain (128 * 0) = true := by decide +kernel
theorem lmo_X12_gain : lm_okC cX12_gain lmt_X12_gain := lm_okC_of 1 (by decide) (lm_n1 lmk_X12_gain_0)
theorem lmk_X12_askings_0 : lm_chkR cX12_askings lmt_X12_askings (128 * 0) = true := by decide +kernel
theorem lmo_X12_askings : lm_okC cX12_askings lmt_X12_askings := lm_okC_of 1 (by decide) (lm_n1 lmk_X12_askings_0)
theorem lmk_X12_laysAsking_0 : lm_chkR cX12_laysAsking lmt_X12_laysAsking (128 * 0) = true := by decide +kernel
theorem lmo_X12_laysAsking : lm_okC cX12_laysAsking lmt_X12_laysAsking := lm_okC_of 1 (by decide) (lm_n1 lmk_X12_laysAsking_0)
theorem lmk_X12_numberOf_0 : lm_chkR cX12_numberOf lmt_X12_numberOf (128 * 0) = true := by decide +kernel
theorem lmo_X12_numberOf : lm_okC cX12_numberOf lmt_X12_numberOf := lm_okC_of 1 (by decide) (lm_n1 lmk_X12_numberOf_0)
theorem lmk_X12_isSteady_0 : lm_chkR cX12_isSteady lmt_X12_isSteady (128 * 0) = true := by decide +kernel
theorem lmo_X12_isSteady : lm_okC cX12_isSteady lmt_X12_isSteady := lm_okC_of 1 (by decide) (lm_n1 lmk_X12_isSteady_0)
theorem lmk_X12_goesThrough_0 : lm_chkR cX12_goesThrough lmt_X12_goesThrough (128 * 0) = true := by decide +kernel
theorem lmk_X12_goesThrough_1 : lm_chkR cX12_goesThrough lmt_X12_goesThrough (128 * 1) = true := by decide +kernel
theorem lmk_X12_goesThrough_2 : lm_chkR cX12_goesThrough lmt_X12_goesThrough (128 * 2) = true := by decide +kernel
theorem lmo_X12_goesThrough : lm_okC cX12_goesThrough lmt_X12_goesThrough := lm_okC_of 3 (by decide) (lm_nS (lm_nS (lm_n1 lmk_X12_goesThrough_0) lmk_X12_goesThrough_1) lmk_X12_goesThrough_2)
theorem lmk_X12_whom_0 : lm_chkR cX12_whom lmt_X12_whom (128 * 0) = true := by decide +kernel
theorem lmo_X12_whom : lm_okC cX12_whom lmt_X12_whom := lm_okC_of 1 (by decide) (lm_n1 lmk_X12_whom_0)
theorem lmk_X12_most_0 : lm_chkR cX12_most lmt_X12_most (128 * 0) = true := by decide +kernel
theorem lmo_X12_most : lm_okC cX12_most lmt_X12_most := lm_okC_of 1 (by decide) (lm_n1 lmk_X12_most_0)
theorem lmk_X12_mostOf_0 : lm_chkR cX12_mostOf lmt_X12_mostOf (128 * 0) = true := by decide +kernel
theorem lmo_X12_mostOf : lm_okC cX12_mostOf lmt_X12_mostOf := lm_okC_of 1 (by decide) (lm_n1 lmk_X12_mostOf_0)
theorem lmk_X12_fair_0 : lm_chkR cX12_fair lmt_X12_fair (128 * 0) = true := by decide +kernel
theorem lmo_X12_fair : lm_okC cX12_fair lmt_X12_fair := lm_okC_of 1 (by decide) (lm_n1 lmk_X12_fair_0)
theorem lmk_X12_steady_0 : lm_chkR cX12_steady lmt_X12_steady (128 * 0) = true := by decide +kernel
theorem lmo_X12_steady : lm_okC cX12_steady lmt_X12_steady := lm_okC_of 1 (by decide) (lm_n1 lmk_X12_steady_0)
theorem lmk_X12_steadyOf_0 : lm_chkR cX12_steadyOf lmt_X12_steadyOf (128 * 0) = true := by decide +kernel
theorem lmo_X12_steadyOf : lm_okC cX12_steadyOf lmt_X12_steadyOf := lm_okC_of 1 (by decide) (lm_n1 lmk_X12_steadyOf_0)
theorem lmk_X12_steadySum_0 : lm_chkR cX12_steadySum lmt_X12_steadySum (128 * 0) = true := by decide +kernel
theorem lmo_X12_steadySum : lm_okC cX12_steadySum lmt_X12_steadySum := lm_okC_of 1 (by decide) (lm_n1 lmk_X12_steadySum_0)
theorem lmk_X12_bestOf_0 : lm_chkR cX12_bestOf lmt_X12_bestOf (128 * 0) = true := by decide +kernel
theorem lmo_X12_bestOf : lm_okC cX12_bestOf lmt_X12_bestOf := lm_okC_of 1 (by decide) (lm_n1 lmk_X12_bestOf_0)
theorem lmk_X12_lowest_0 : lm_chkR cX12_lowest lmt_X12_lowest (128 * 0) = true := by decide +kernel
theorem lmo_X12_lowest : lm_okC cX12_lowest lmt_X12_lowest := lm_okC_of 1 (by decide) (lm_n1 lmk_X12_lowest_0)
theorem lmk_X12_answers_0 : lm_chkR cX12_answers lmt_X12_answers (128 * 0) = true := by decide +kernel
theorem lmo_X12_answers : lm_okC cX12_answers lmt_X12_answers := lm_okC_of 1 (by decide) (lm_n1 lmk_X12_answers_0)
theorem lmk_X12_turn_0 : lm_chkR cX12_turn lmt_X12_turn (128 * 0) = true := by decide +kernel
theorem lmk_X12_turn_1 : lm_chkR cX12_turn lmt_X12_turn (128 * 1) = true := by decide +kernel
theorem lmo_X12_turn : lm_okC cX12_turn lmt_X12_turn := lm_okC_of 2 (by decide) (lm_nS (lm_n1 lmk_X12_turn_0) lmk_X12_turn_1)
theorem lmk_X12_rounds_0 : lm_chkR cX12_rounds lmt_X12_rounds (128 * 0) = true := by decide +kernel
theorem lmo_X12_rounds : lm_okC cX12_rounds lmt_X12_rounds := lm_okC_of 1 (by decide) (lm_n1 lmk_X12_rounds_0)
theorem lmk_X12_turned_0 : lm_chkR cX12_turned lmt_X12_turned (128 * 0) = true := by decide +kernel
theorem lmo_X12_turned : lm_okC cX12_turned lmt_X12_turned := lm_okC_of 1 (by decide) (lm_n1 lmk_X12_turned_0)
theorem lmk_X12_breaksTold_0 : lm_chkR cX12_breaksTold lmt_X12_breaksTold (128 * 0) = true := by decide +kernel
theorem lmk_X12_breaksTold_1 : lm_chkR cX12_breaksTold lmt_X12_breaksTold (128 * 1) = true := by decide +kernel
theorem lmo_X12_breaksTold : lm_okC cX12_breaksTold lmt_X12_breaksTold := lm_okC_of 2 (by decide) (lm_nS (lm_n1 lmk_X12_breaksTold_0) lmk_X12_breaksTold_1)
theorem lmk_X12_breaks_0 : lm_chkR cX12_breaks lmt_X12_breaks (128 * 0) = true := by decide +kernel
theorem lmo_X12_breaks : lm_okC cX12_breaks lmt_X12_breaks := lm_okC_of 1 (by decide) (lm_n1 lmk_X12_breaks_0)
theorem lmk_X12_breaker_0 : lm_chkR cX12_breaker lmt_X12_breaker (128 * 0) = true := by decide +kernel
theorem lmo_X12_breaker : lm_okC cX12_breaker lmt_X12_breaker := lm_okC_of 1 (by decide) (lm_n1 lmk_X12_breaker_0)
theorem lmk_X12_ten_0 : lm_chkR cX12_ten lmt_X12_ten (128 * 0) = true := by decide +kernel
theorem lmo_X12_ten : lm_okC cX12_ten lmt_X12_ten := lm_okC_of 1 (by decide) (lm_n1 lmk_X12_ten_0)
theorem lmk_X12_asking_0 : lm_chkR cX12_asking lmt_X12_asking (128 * 0) = true := by decide +kernel
theorem lmk_X12_asking_1 : lm_chkR cX12_asking lmt_X12_asking (128 * 1) = true := by decide +kernel
theorem lmk_X12_asking_2 : lm_chkR cX12_asking lmt_X12_asking (128 * 2) = true := by decide +kernel
theorem lmo_X12_asking : lm_okC cX12_asking lmt_X12_asking := lm_okC_of 3 (by decide) (lm_nS (lm_nS (lm_n1 lmk_X12_asking_0) lmk_X12_asking_1) lmk_X12_asking_2)
theorem lmk_X12_meanOf_0 : lm_chkR cX12_meanOf lmt_X12_meanOf (128 * 0) = true := by decide +kernel
theorem lmo_X12_meanOf : lm_okC cX12_meanOf lmt_X12_meanOf := lm_okC_of 1 (by decide) (lm_n1 lmk_X12_meanOf_0)
theorem lmk_X12_laysDice_0 : lm_chkR cX12_laysDice lmt_X12_laysDice (128 * 0) = true := by decide +kernel
theorem lmo_X12_laysDice : lm_okC cX12_laysDice lmt_X12_laysDice := lm_okC_of 1 (by decide) (lm_n1 lmk_X12_laysDice_0)
theorem lmk_X12_sumOfMeans_0 : lm_chkR cX12_sumOfMeans lmt_X12_sumOfMeans (128 * 0) = true := by decide +kernel
theorem lmo_X12_sumOfMeans : lm_okC cX12_sumOfMeans lmt_X12_sumOfMeans := lm_okC_of 1 (by decide) (lm_n1 lmk_X12_sumOfMeans_0)
theorem lmk_X12_mean_0 : lm_chkR cX12_mean lmt_X12_mean (128 * 0) = true := by decide +kernel
theorem lmo_X12_mean : lm_okC cX12_mean lmt_X12_mean := lm_okC_of 1 (by decide) (lm_n1 lmk_X12_mean_0)
theorem lmk_X12_restless_0 : lm_chkR cX12_restless lmt_X12_restless (128 * 0) = true := by decide +kernel
theorem lmo_X12_restless : lm_okC cX12_restless lmt_X12_restless := lm_okC_of 1 (by decide) (lm_n1 lmk_X12_restless_0)
theorem lmk_X12_likes_0 : lm_chkR cX12_likes lmt_X12_likes (128 * 0) = true := by decide +kernel
theorem lmk_X12_likes_1 : lm_chkR cX12_likes lmt_X12_likes (128 * 1) = true := by decide +kernel
theorem lmo_X12_likes : lm_okC cX12_likes lmt_X12_likes := lm_okC_of 2 (by decide) (lm_nS (lm_n1 lmk_X12_likes_0) lmk_X12_likes_1)
theorem lmk_X12_nextLike_0 : lm_chkR cX12_nextLike lmt_X12_nextLike (128 * 0) = true := by decide +kernel
theorem lmo_X12_nextLike : lm_okC cX12_nextLike lmt_X12_nextLike := lm_okC_of 1 (by decide) (lm_n1 lmk_X12_nextLike_0)
theorem lmk_X12_likesOnce_0 : lm_chkR cX12_likesOnce lmt_X12_likesOnce (128 * 0) = true := by decide +kernel
theorem lmo_X12_likesOnce : lm_okC cX12_likesOnce lmt_X12_likesOnce := lm_okC_of 1 (by decide) (lm_n1 lmk_X12_likesOnce_0)
theorem lmk_X12_alike_0 : lm_chkR cX12_alike lmt_X12_alike (128 * 0) = true := by decide +kernel
theorem lmo_X12_alike : lm_okC cX12_alike lmt_X12_alike := lm_okC_of 1 (by decide) (lm_n1 lmk_X12_alike_0)
theorem lmk_X12_alikeOf_0 : lm_chkR cX12_alikeOf lmt_X12_alikeOf (128 * 0) = true := by decide +kernel
theorem lmo_X12_alikeOf : lm_okC cX12_alikeOf lmt_X12_alikeOf := lm_okC_of 1 (by decide) (lm_n1 lmk_X12_alikeOf_0)
theorem lmk_X12_draws_0 : lm_chkR cX12_draws lmt_X12_draws (128 * 0) = true := by decide +kernel
theorem lmo_X12_draws : lm_okC cX12_draws lmt_X12_draws := lm_okC_of 1 (by decide) (lm_n1 lmk_X12_draws_0)
theorem lmk_X12_wishOf_0 : lm_chkR cX12_wishOf lmt_X12_wishOf (128 * 0) = true := by decide +kernel
theorem lmk_X12_wishOf_1 : lm_chkR cX12_wishOf lmt_X12_wishOf (128 * 1) = true := by decide +kernel
theorem lmk_X12_wishOf_2 : lm_chkR cX12_wishOf lmt_X12_wishOf (128 * 2) = true := by decide +kernel
theorem lmk_X12_wishOf_3 : lm_chkR cX12_wishOf lmt_X12_wishOf (128 * 3) = true := by decide +kernel
theorem lmo_X12_wishOf : lm_okC cX12_wishOf lmt_X12_wishOf := lm_okC_of 4 (by decide) (lm_nS (lm_nS (lm_nS (lm_n1 lmk_X12_wishOf_0) lmk_X12_wishOf_1) lmk_X12_wishOf_2) lmk_X12_wishOf_3)
theorem lmk_X12_dines_0 : lm_chkR cX12_dines lmt_X12_dines (128 * 0) = true := by decide +kernel
theorem lmk_X12_dines_1 : lm_chkR cX12_dines lmt_X12_dines (128 * 1) = true := by decide +kernel
theorem lmk_X12_dines_2 : lm_chkR cX12_dines lmt_X12_dines (128 * 2) = true := by decide +kernel
theorem lmk_X12_dines_3 : lm_chkR cX12_dines lmt_X12_dines (128 * 3) = true := by decide +kernel
theorem lmo_X12_dines : lm_okC cX12_dines lmt_X12_dines := lm_okC_of 4 (by decide) (lm_nS (lm_nS (lm_nS (lm_n1 lmk_X12_dines_0) lmk_X12_dines_1) lmk_X12_dines_2) lmk_X12_dines_3)
theorem lmk_X12_isAskedBut_0 : lm_chkR cX12_isAskedBut lmt_X12_isAskedBut (128 * 0) = true := by decide +kernel
theorem lmo_X12_isAskedBut : lm_okC cX12_isAskedBut lmt_X12_isAskedBut := lm_okC_of 1 (by decide) (lm_n1 lmk_X12_isAskedBut_0)
theorem lmk_X12_year_0 : lm_chkR cX12_year lmt_X12_year (128 * 0) = true := by decide +kernel
theorem lmo_X12_year : lm_okC cX12_year lmt_X12_year := lm_okC_of 1 (by decide) (lm_n1 lmk_X12_year_0)
theorem lmk_X12_dined_0 : lm_chkR cX12_dined lmt_X12_dined (128 * 0) = true := by decide +kernel
theorem lmo_X12_dined : lm_okC cX12_dined lmt_X12_dined := lm_okC_of 1 (by decide) (lm_n1 lmk_X12_dined_0)
theorem lmk_X12_earned_0 : lm_chkR cX12_earned lmt_X12_earned (128 * 0) = true := by decide +kernel
theorem lmo_X12_earned : lm_okC cX12_earned lmt_X12_earned := lm_okC_of 1 (by decide) (lm_n1 lmk_X12_earned_0)
theorem lmk_X12_settled_0 : lm_chkR cX12_settled lmt_X12_settled (128 * 0) = true := by decide +kernel
theorem lmo_X12_settled : lm_okC cX12_settled lmt_X12_settled := lm_okC_of 1 (by decide) (lm_n1 lmk_X12_settled_0)
theorem lmk_X12_count_0 : lm_chkR cX12_count lmt_X12_count (128 * 0) = true := by decide +kernel
theorem lmo_X12_count : lm_okC cX12_count lmt_X12_count := lm_okC_of 1 (by decide) (lm_n1 lmk_X12_count_0)
theorem lmk_X12_status_0 : lm_chkR cX12_status lmt_X12_status (128 * 0) = true := by decide +kernel
theorem lmo_X12_status : lm_okC cX12_status lmt_X12_status := lm_okC_of 1 (by decide) (lm_n1 lmk_X12_status_0)
theorem lmk_J6_bitCount_0f7a4_0 : lm_chkR cJ6_bitCount_0f7a4 lmt_J6_bitCount_0f7a4 (128 * 0) = true := by decide +kernel
theorem lmo_J6_bitCount_0f7a4 : lm_okC cJ6_bitCount_0f7a4 lmt_J6_bitCount_0f7a4 := lm_okC_of 1 (by decide) (lm_n1 lmk_J6_bitCount_0f7a4_0)
theorem lmk_J0_length_8abf5_0 : lm_chkR cJ0_length_8abf5 lmt_J0_length_8abf5 (128 * 0) = true := by decide +kernel
theorem lmo_J0_length_8abf5 : lm_okC cJ0_length_8abf5 lmt_J0_length_8abf5 := lm_okC_of 1 (by decide) (lm_n1 lmk_J0_length_8abf5_0)
theorem lmk_J0_charAt_5068e_0 : lm_chkR cJ0_charAt_5068e lmt_J0_charAt_5068e (128 * 0) = true := by decide +kernel
theorem lmo_J0_charAt_5068e : lm_okC cJ0_charAt_5068e lmt_J0_charAt_5068e := lm_okC_of 1 (by decide) (lm_n1 lmk_J0_charAt_5068e_0)
theorem lmk_J0_coder_7d493_0 : lm_chkR cJ0_coder_7d493 lmt_J0_coder_7d493 (128 * 0) = true := by decide +kernel
theorem lmo_J0_coder_7d493 : lm_okC cJ0_coder_7d493 lmt_J0_coder_7d493 := lm_okC_of 1 (by decide) (lm_n1 lmk_J0_coder_7d493_0)
theorem lmk_J0_isLatin1_aae02_0 : lm_chkR cJ0_isLatin1_aae02 lmt_J0_isLatin1_aae02 (128 * 0) = true := by decide +kernel
theorem lmo_J0_isLatin1_aae02 : lm_okC cJ0_isLatin1_aae02 lmt_J0_isLatin1_aae02 := lm_okC_of 1 (by decide) (lm_n1 lmk_J0_isLatin1_aae02_0)
theorem lmk_J0_checkIndex_df160_0 : lm_chkR cJ0_checkIndex_df160 lmt_J0_checkIndex_df160 (128 * 0) = true := by decide +kernel
theorem lmo_J0_checkIndex_df160 : lm_okC cJ0_checkIndex_df160 lmt_J0_checkIndex_df160 := lm_okC_of 1 (by decide) (lm_n1 lmk_J0_checkIndex_df160_0)
theorem lmk_J1_charAt_3b067_0 : lm_chkR cJ1_charAt_3b067 lmt_J1_charAt_3b067 (128 * 0) = true := by decide +kernel
theorem lmo_J1_charAt_3b067 : lm_okC cJ1_charAt_3b067 lmt_J1_charAt_3b067 := lm_okC_of 1 (by decide) (lm_n1 lmk_J1_charAt_3b067_0)
theorem lmk_J7_fill_d0a16_0 : lm_chkR cJ7_fill_d0a16 lmt_J7_fill_d0a16 (128 * 0) = true := by decide +kernel
theorem lmo_J7_fill_d0a16 : lm_okC cJ7_fill_d0a16 lmt_J7_fill_d0a16 := lm_okC_of 1 (by decide) (lm_n1 lmk_J7_fill_d0a16_0)
theorem lmk_J7_fill_53178_0 : lm_chkR cJ7_fill_53178 lmt_J7_fill_53178 (128 * 0) = true := by decide +kernel
theorem lmo_J7_fill_53178 : lm_okC cJ7_fill_53178 lmt_J7_fill_53178 := lm_okC_of 1 (by decide) (lm_n1 lmk_J7_fill_53178_0)
theorem lmk_J7_copyOf_59c91_0 : lm_chkR cJ7_copyOf_59c91 lmt_J7_copyOf_59c91 (128 * 0) = true := by decide +kernel
theorem lmo_J7_copyOf_59c91 : lm_okC cJ7_copyOf_59c91 lmt_J7_copyOf_59c91 := lm_okC_of 1 (by decide) (lm_n1 lmk_J7_copyOf_59c91_0)
theorem lmk_J3_checkIndex_8e157_0 : lm_chkR cJ3_checkIndex_8e157 lmt_J3_checkIndex_8e157 (128 * 0) = true := by decide +kernel
theorem lmo_J3_checkIndex_8e157 : lm_okC cJ3_checkIndex_8e157 lmt_J3_checkIndex_8e157 := lm_okC_of 1 (by decide) (lm_n1 lmk_J3_checkIndex_8e157_0)
theorem lmk_X5_countFair_0 : lm_chkR cX5_countFair lmt_X5_countFair (128 * 0) = true := by decide +kernel
theorem lmo_X5_countFair : lm_okC cX5_countFair lmt_X5_countFair := lm_okC_of 1 (by decide) (lm_n1 lmk_X5_countFair_0)
theorem lmk_X5_keepSteady_0 : lm_chkR cX5_keepSteady lmt_X5_keepSteady (128 * 0) = true := by decide +kernel
theorem lmo_X5_keepSteady : lm_okC cX5_keepSteady lmt_X5_keepSteady := lm_okC_of 1 (by decide) (lm_n1 lmk_X5_keepSteady_0)
