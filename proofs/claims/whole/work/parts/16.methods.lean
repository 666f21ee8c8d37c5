/-! tables of methods, by number -/
theorem ta_0 : tbA 0 = some tb_0 := rfl
theorem mt_0 : mtA 0 = some (0, yX0_chooseHomes, cX0_chooseHomes, 3, none, 3, false) := rfl
theorem ta_1 : tbA 1 = some tb_1 := rfl
theorem mt_1 : mtA 1 = some (0, yX0_tryCell, cX0_tryCell, 7, none, 5, false) := rfl
theorem ta_2 : tbA 2 = some tb_2 := rfl
theorem mt_2 : mtA 2 = some (0, yX0_lacking, cX0_lacking, 4, (some .int), 2, false) := rfl
theorem ta_3 : tbA 3 = some tb_3 := rfl
theorem mt_3 : mtA 3 = some (0, yX0_judge, cX0_judge, 4, none, 2, false) := rfl
theorem ta_4 : tbA 4 = some tb_4 := rfl
theorem mt_4 : mtA 4 = some (1, yX1_chooseHomes, cX1_chooseHomes, 4, none, 3, false) := rfl
theorem ta_5 : tbA 5 = some tb_5 := rfl
theorem mt_5 : mtA 5 = some (1, yX1_begin, cX1_begin, 3, none, 2, false) := rfl
theorem ta_6 : tbA 6 = some tb_6 := rfl
theorem mt_6 : mtA 6 = some (1, yX1_joinTwo, cX1_joinTwo, 3, none, 1, false) := rfl
theorem ta_7 : tbA 7 = some tb_7 := rfl
theorem mt_7 : mtA 7 = some (1, yX1_widestBut, cX1_widestBut, 4, (some .int), 2, false) := rfl
theorem ta_8 : tbA 8 = some tb_8 := rfl
theorem mt_8 : mtA 8 = some (1, yX1_width, cX1_width, 2, (some .int), 2, false) := rfl
theorem ta_9 : tbA 9 = some tb_9 := rfl
theorem mt_9 : mtA 9 = some (1, yX1_merge, cX1_merge, 5, none, 3, false) := rfl
theorem ta_10 : tbA 10 = some tb_10 := rfl
theorem mt_10 : mtA 10 = some (1, yX1_isAhead, cX1_isAhead, 6, (some .boolean), 4, false) := rfl
theorem ta_11 : tbA 11 = some tb_11 := rfl
theorem mt_11 : mtA 11 = some (1, yX1_exchange, cX1_exchange, 3, none, 2, true) := rfl
theorem ta_12 : tbA 12 = some tb_12 := rfl
theorem mt_12 : mtA 12 = some (1, yX1_bundleOf, cX1_bundleOf, 3, (some .int), 2, false) := rfl
theorem ta_13 : tbA 13 = some tb_13 := rfl
theorem mt_13 : mtA 13 = some (2, yX2_reset, cX2_reset, 1, none, 1, false) := rfl
theorem ta_14 : tbA 14 = some tb_14 := rfl
theorem mt_14 : mtA 14 = some (2, yX2_copyFrom, cX2_copyFrom, 2, none, 2, false) := rfl
theorem ta_15 : tbA 15 = some tb_15 := rfl
theorem mt_15 : mtA 15 = some (2, yX2_append, cX2_append, 3, none, 3, false) := rfl
theorem ta_16 : tbA 16 = some tb_16 := rfl
theorem mt_16 : mtA 16 = some (2, yX2_removeAt, cX2_removeAt, 3, none, 2, false) := rfl
theorem ta_17 : tbA 17 = some tb_17 := rfl
theorem mt_17 : mtA 17 = some (2, yX2_sumOf, cX2_sumOf, 2, (some .int), 2, false) := rfl
theorem ta_18 : tbA 18 = some tb_18 := rfl
theorem mt_18 : mtA 18 = some (2, yX2_weakest, cX2_weakest, 1, (some .int), 1, false) := rfl
theorem ta_19 : tbA 19 = some tb_19 := rfl
theorem mt_19 : mtA 19 = some (2, yX2_leastSum, cX2_leastSum, 1, (some .int), 1, false) := rfl
theorem ta_20 : tbA 20 = some tb_20 := rfl
theorem mt_20 : mtA 20 = some (2, yX2_leastSumOfCharges, cX2_leastSumOfCharges, 1, (some .int), 1, false) := rfl
theorem ta_21 : tbA 21 = some tb_21 := rfl
theorem mt_21 : mtA 21 = some (2, yX2_spread, cX2_spread, 2, (some .int), 1, false) := rfl
theorem ta_22 : tbA 22 = some tb_22 := rfl
theorem mt_22 : mtA 22 = some (2, yX2_leastSumExchanged, cX2_leastSumExchanged, 3, (some .int), 3, false) := rfl
theorem ta_23 : tbA 23 = some tb_23 := rfl
theorem mt_23 : mtA 23 = some (2, yX2_rankByCharge, cX2_rankByCharge, 4, (some .int), 2, false) := rfl
theorem ta_24 : tbA 24 = some tb_24 := rfl
theorem mt_24 : mtA 24 = some (2, yX2_bitsOf, cX2_bitsOf, 4, (some .int), 2, false) := rfl
theorem ta_25 : tbA 25 = some tb_25 := rfl
theorem mt_25 : mtA 25 = some (2, yX2_strongestOf, cX2_strongestOf, 4, (some .int), 2, false) := rfl
theorem ta_26 : tbA 26 = some tb_26 := rfl
theorem mt_26 : mtA 26 = some (2, yX2_aboveFloor, cX2_aboveFloor, 4, (some .int), 2, false) := rfl
theorem ta_27 : tbA 27 = some tb_27 := rfl
theorem mt_27 : mtA 27 = some (2, yX2_emptyGroups, cX2_emptyGroups, 3, (some .int), 1, false) := rfl
theorem ta_28 : tbA 28 = some tb_28 := rfl
theorem mt_28 : mtA 28 = some (2, yX2_bledCells, cX2_bledCells, 3, (some .int), 1, false) := rfl
theorem ta_29 : tbA 29 = some tb_29 := rfl
theorem mt_29 : mtA 29 = some (2, yX2_greatestCharge, cX2_greatestCharge, 3, (some .int), 1, false) := rfl
theorem ta_30 : tbA 30 = some tb_30 := rfl
theorem mt_30 : mtA 30 = some (2, yX2_runTicks, cX2_runTicks, 3, (some .int), 2, false) := rfl
theorem ta_31 : tbA 31 = some tb_31 := rfl
theorem mt_31 : mtA 31 = some (2, yX2_tickLoses, cX2_tickLoses, 4, (some .boolean), 1, false) := rfl
theorem ta_32 : tbA 32 = some tb_32 := rfl
theorem mt_32 : mtA 32 = some (2, yX2_strongestLoses, cX2_strongestLoses, 3, (some .boolean), 2, false) := rfl
theorem ta_33 : tbA 33 = some tb_33 := rfl
theorem mt_33 : mtA 33 = some (3, yX3_renew, cX3_renew, 3, none, 3, false) := rfl
theorem ta_34 : tbA 34 = some tb_34 := rfl
theorem mt_34 : mtA 34 = some (3, yX3_putAt, cX3_putAt, 3, (some .int), 3, false) := rfl
theorem ta_35 : tbA 35 = some tb_35 := rfl
theorem mt_35 : mtA 35 = some (3, yX3_wholePairs, cX3_wholePairs, 4, (some .int), 4, false) := rfl
theorem ta_36 : tbA 36 = some tb_36 := rfl
theorem mt_36 : mtA 36 = some (3, yX3_faultAs, cX3_faultAs, 2, (some .int), 2, false) := rfl
theorem ta_37 : tbA 37 = some tb_37 := rfl
theorem mt_37 : mtA 37 = some (4, yX4_byteAt, cX4_byteAt, 2, (some .int), 2, false) := rfl
theorem ta_38 : tbA 38 = some tb_38 := rfl
theorem mt_38 : mtA 38 = some (4, yX4_spells, cX4_spells, 5, (some .boolean), 4, false) := rfl
theorem ta_39 : tbA 39 = some tb_39 := rfl
theorem mt_39 : mtA 39 = some (5, yX5_readAll, cX5_readAll, 3, none, 1, false) := rfl
theorem ta_40 : tbA 40 = some tb_40 := rfl
theorem mt_40 : mtA 40 = some (5, yX5_readLine, cX5_readLine, 2, (some .boolean), 1, false) := rfl
theorem ta_41 : tbA 41 = some tb_41 := rfl
theorem mt_41 : mtA 41 = some (5, yX5_lineNamed, cX5_lineNamed, 2, (some .int), 1, false) := rfl
theorem ta_42 : tbA 42 = some tb_42 := rfl
theorem mt_42 : mtA 42 = some (5, yX5_nameOf, cX5_nameOf, 1, (some (.object "java/lang/String")), 1, true) := rfl
theorem ta_43 : tbA 43 = some tb_43 := rfl
theorem mt_43 : mtA 43 = some (5, yX5_readSetting, cX5_readSetting, 2, (some .boolean), 2, false) := rfl
theorem ta_44 : tbA 44 = some tb_44 := rfl
theorem mt_44 : mtA 44 = some (5, yX5_lowestOf, cX5_lowestOf, 1, (some .int), 1, true) := rfl
theorem ta_45 : tbA 45 = some tb_45 := rfl
theorem mt_45 : mtA 45 = some (5, yX5_highestOf, cX5_highestOf, 1, (some .int), 1, true) := rfl
theorem ta_46 : tbA 46 = some tb_46 := rfl
theorem mt_46 : mtA 46 = some (5, yX5_putSetting, cX5_putSetting, 2, none, 2, false) := rfl
theorem ta_47 : tbA 47 = some tb_47 := rfl
theorem mt_47 : mtA 47 = some (5, yX5_readCells, cX5_readCells, 2, (some .boolean), 1, false) := rfl
theorem ta_48 : tbA 48 = some tb_48 := rfl
theorem mt_48 : mtA 48 = some (5, yX5_nextToken, cX5_nextToken, 2, (some .boolean), 1, false) := rfl
theorem ta_49 : tbA 49 = some tb_49 := rfl
theorem mt_49 : mtA 49 = some (5, yX5_passRun, cX5_passRun, 3, none, 3, false) := rfl
theorem ta_50 : tbA 50 = some tb_50 := rfl
theorem mt_50 : mtA 50 = some (5, yX5_takeValue, cX5_takeValue, 2, (some .boolean), 1, false) := rfl
theorem ta_51 : tbA 51 = some tb_51 := rfl
theorem mt_51 : mtA 51 = some (5, yX5_fail, cX5_fail, 2, (some .boolean), 2, false) := rfl
theorem ta_52 : tbA 52 = some tb_52 := rfl
theorem mt_52 : mtA 52 = some (6, yX6_choose, cX6_choose, 3, none, 3, false) := rfl
theorem ta_53 : tbA 53 = some tb_53 := rfl
theorem mt_53 : mtA 53 = some (6, yX6_byTurns, cX6_byTurns, 3, none, 2, false) := rfl
theorem ta_54 : tbA 54 = some tb_54 := rfl
theorem mt_54 : mtA 54 = some (6, yX6_byWeakest, cX6_byWeakest, 4, none, 2, false) := rfl
theorem ta_55 : tbA 55 = some tb_55 := rfl
theorem mt_55 : mtA 55 = some (6, yX6_leastSum, cX6_leastSum, 2, (some .int), 2, false) := rfl
theorem ta_56 : tbA 56 = some tb_56 := rfl
theorem mt_56 : mtA 56 = some (6, yX6_spread, cX6_spread, 3, (some .int), 2, false) := rfl
theorem ta_57 : tbA 57 = some tb_57 := rfl
theorem mt_57 : mtA 57 = some (6, yX6_strangers, cX6_strangers, 4, (some .int), 2, false) := rfl
theorem ta_58 : tbA 58 = some tb_58 := rfl
theorem mt_58 : mtA 58 = some (7, yX7_feed, cX7_feed, 2, (some .int), 2, false) := rfl
theorem ta_59 : tbA 59 = some tb_59 := rfl
theorem mt_59 : mtA 59 = some (7, yX7_end, cX7_end, 3, (some .int), 2, false) := rfl
theorem ta_60 : tbA 60 = some tb_60 := rfl
theorem mt_60 : mtA 60 = some (7, yX7_text, cX7_text, 1, (some .int), 1, false) := rfl
theorem ta_61 : tbA 61 = some tb_61 := rfl
theorem mt_61 : mtA 61 = some (7, yX7_fault, cX7_fault, 1, (some .int), 1, false) := rfl
theorem ta_62 : tbA 62 = some tb_62 := rfl
theorem mt_62 : mtA 62 = some (7, yX7_rule, cX7_rule, 2, (some .int), 2, false) := rfl
theorem ta_63 : tbA 63 = some tb_63 := rfl
theorem mt_63 : mtA 63 = some (7, yX7_cell, cX7_cell, 3, (some .int), 3, false) := rfl
theorem ta_64 : tbA 64 = some tb_64 := rfl
theorem mt_64 : mtA 64 = some (7, yX7_group, cX7_group, 3, (some .int), 3, false) := rfl
theorem ta_65 : tbA 65 = some tb_65 := rfl
theorem mt_65 : mtA 65 = some (7, yX7_take, cX7_take, 2, (some .int), 2, false) := rfl
theorem ta_66 : tbA 66 = some tb_66 := rfl
theorem mt_66 : mtA 66 = some (7, yX7_would, cX7_would, 3, (some .int), 3, false) := rfl
theorem ta_67 : tbA 67 = some tb_67 := rfl
theorem mt_67 : mtA 67 = some (7, yX7_where, cX7_where, 3, (some .int), 3, false) := rfl
theorem ta_68 : tbA 68 = some tb_68 := rfl
theorem mt_68 : mtA 68 = some (7, yX7_bound, cX7_bound, 3, (some .int), 2, false) := rfl
theorem ta_69 : tbA 69 = some tb_69 := rfl
theorem mt_69 : mtA 69 = some (7, yX7_joined, cX7_joined, 2, (some .int), 2, false) := rfl
theorem ta_70 : tbA 70 = some tb_70 := rfl
theorem mt_70 : mtA 70 = some (7, yX7_move, cX7_move, 4, (some .int), 3, false) := rfl
theorem ta_71 : tbA 71 = some tb_71 := rfl
theorem mt_71 : mtA 71 = some (7, yX7_swap, cX7_swap, 4, (some .int), 3, false) := rfl
theorem ta_72 : tbA 72 = some tb_72 := rfl
theorem mt_72 : mtA 72 = some (7, yX7_better, cX7_better, 6, (some .int), 1, false) := rfl
theorem ta_73 : tbA 73 = some tb_73 := rfl
theorem mt_73 : mtA 73 = some (7, yX7_add, cX7_add, 2, (some .int), 2, false) := rfl
theorem ta_74 : tbA 74 = some tb_74 := rfl
theorem mt_74 : mtA 74 = some (7, yX7_drop, cX7_drop, 2, (some .int), 2, false) := rfl
theorem ta_75 : tbA 75 = some tb_75 := rfl
theorem mt_75 : mtA 75 = some (7, yX7_set, cX7_set, 4, (some .int), 3, false) := rfl
theorem ta_76 : tbA 76 = some tb_76 := rfl
theorem mt_76 : mtA 76 = some (7, yX7_rate, cX7_rate, 4, (some .int), 3, false) := rfl
theorem ta_77 : tbA 77 = some tb_77 := rfl
theorem mt_77 : mtA 77 = some (7, yX7_groups, cX7_groups, 3, (some .int), 2, false) := rfl
theorem ta_78 : tbA 78 = some tb_78 := rfl
theorem mt_78 : mtA 78 = some (7, yX7_bleed, cX7_bleed, 2, (some .int), 2, false) := rfl
theorem ta_79 : tbA 79 = some tb_79 := rfl
theorem mt_79 : mtA 79 = some (7, yX7_plan, cX7_plan, 3, (some .int), 2, false) := rfl
theorem ta_80 : tbA 80 = some tb_80 := rfl
theorem mt_80 : mtA 80 = some (7, yX7_fill, cX7_fill, 2, (some .int), 1, false) := rfl
theorem ta_81 : tbA 81 = some tb_81 := rfl
theorem mt_81 : mtA 81 = some (7, yX7_draw, cX7_draw, 7, (some .int), 3, false) := rfl
theorem ta_82 : tbA 82 = some tb_82 := rfl
theorem mt_82 : mtA 82 = some (7, yX7_keep, cX7_keep, 3, (some .int), 2, false) := rfl
theorem ta_83 : tbA 83 = some tb_83 := rfl
theorem mt_83 : mtA 83 = some (7, yX7_back, cX7_back, 2, (some .int), 2, false) := rfl
theorem ta_84 : tbA 84 = some tb_84 := rfl
theorem mt_84 : mtA 84 = some (7, yX7_sheet, cX7_sheet, 4, (some .int), 4, false) := rfl
theorem ta_85 : tbA 85 = some tb_85 := rfl
theorem mt_85 : mtA 85 = some (7, yX7_lay, cX7_lay, 5, (some .int), 4, false) := rfl
theorem ta_86 : tbA 86 = some tb_86 := rfl
theorem mt_86 : mtA 86 = some (7, yX7_read, cX7_read, 8, (some .int), 5, false) := rfl
theorem ta_87 : tbA 87 = some tb_87 := rfl
theorem mt_87 : mtA 87 = some (7, yX7_torn, cX7_torn, 1, (some .int), 1, false) := rfl
theorem ta_88 : tbA 88 = some tb_88 := rfl
theorem mt_88 : mtA 88 = some (7, yX7_count, cX7_count, 2, (some .int), 2, false) := rfl
theorem ta_89 : tbA 89 = some tb_89 := rfl
theorem mt_89 : mtA 89 = some (7, yX7_within, cX7_within, 3, (some .boolean), 3, true) := rfl
theorem ta_90 : tbA 90 = some tb_90 := rfl
theorem mt_90 : mtA 90 = some (7, yX7_isCell, cX7_isCell, 2, (some .boolean), 2, false) := rfl
theorem ta_91 : tbA 91 = some tb_91 := rfl
theorem mt_91 : mtA 91 = some (7, yX7_isGroup, cX7_isGroup, 2, (some .boolean), 2, false) := rfl
theorem ta_92 : tbA 92 = some tb_92 := rfl
theorem mt_92 : mtA 92 = some (7, yX7_isWay, cX7_isWay, 1, (some .boolean), 1, true) := rfl
theorem ta_93 : tbA 93 = some tb_93 := rfl
theorem mt_93 : mtA 93 = some (7, yX7_wayIsOpen, cX7_wayIsOpen, 2, (some .boolean), 2, false) := rfl
theorem ta_94 : tbA 94 = some tb_94 := rfl
theorem mt_94 : mtA 94 = some (7, yX7_isImage, cX7_isImage, 1, (some .boolean), 1, true) := rfl
theorem ta_95 : tbA 95 = some tb_95 := rfl
theorem mt_95 : mtA 95 = some (7, yX7_isSheet, cX7_isSheet, 1, (some .boolean), 1, true) := rfl
theorem ta_96 : tbA 96 = some tb_96 := rfl
theorem mt_96 : mtA 96 = some (7, yX7_isLane, cX7_isLane, 1, (some .boolean), 1, true) := rfl
theorem ta_97 : tbA 97 = some tb_97 := rfl
theorem mt_97 : mtA 97 = some (7, yX7_regroup, cX7_regroup, 2, none, 2, false) := rfl
theorem ta_98 : tbA 98 = some tb_98 := rfl
theorem mt_98 : mtA 98 = some (7, yX7_waysThatReach, cX7_waysThatReach, 4, (some .int), 2, false) := rfl
theorem ta_99 : tbA 99 = some tb_99 := rfl
theorem mt_99 : mtA 99 = some (7, yX7_forgetImages, cX7_forgetImages, 2, none, 1, false) := rfl
theorem ta_100 : tbA 100 = some tb_100 := rfl
theorem mt_100 : mtA 100 = some (7, yX7_keptImages, cX7_keptImages, 3, (some .int), 1, false) := rfl
theorem ta_101 : tbA 101 = some tb_101 := rfl
theorem mt_101 : mtA 101 = some (7, yX7_total, cX7_total, 4, (some .int), 2, true) := rfl
theorem ta_102 : tbA 102 = some tb_102 := rfl
theorem mt_102 : mtA 102 = some (7, yX7_sumUp, cX7_sumUp, 5, none, 4, true) := rfl
theorem ta_103 : tbA 103 = some tb_103 := rfl
theorem mt_103 : mtA 103 = some (7, yX7_firstLeast, cX7_firstLeast, 4, (some .int), 2, true) := rfl
theorem ta_104 : tbA 104 = some tb_104 := rfl
theorem mt_104 : mtA 104 = some (7, yX7_greatest, cX7_greatest, 4, (some .int), 2, true) := rfl
theorem ta_105 : tbA 105 = some tb_105 := rfl
theorem mt_105 : mtA 105 = some (8, yX8_init, cX8_init, 2, none, 1, false) := rfl
theorem ta_106 : tbA 106 = some tb_106 := rfl
theorem mt_106 : mtA 106 = some (8, yX8_in, cX8_in, 6, (some .boolean), 3, true) := rfl
theorem ta_107 : tbA 107 = some tb_107 := rfl
theorem mt_107 : mtA 107 = some (8, yX8_flag, cX8_flag, 1, (some .int), 1, true) := rfl
theorem ta_108 : tbA 108 = some tb_108 := rfl
theorem mt_108 : mtA 108 = some (8, yX8_firstDraft, cX8_firstDraft, 2, none, 1, false) := rfl
theorem ta_109 : tbA 109 = some tb_109 := rfl
theorem mt_109 : mtA 109 = some (8, yX8_feed, cX8_feed, 2, (some .int), 2, false) := rfl
theorem ta_110 : tbA 110 = some tb_110 := rfl
theorem mt_110 : mtA 110 = some (8, yX8_end, cX8_end, 3, (some .int), 2, false) := rfl
theorem ta_111 : tbA 111 = some tb_111 := rfl
theorem mt_111 : mtA 111 = some (8, yX8_requires, cX8_requires, 3, none, 3, false) := rfl
theorem ta_112 : tbA 112 = some tb_112 := rfl
theorem mt_112 : mtA 112 = some (8, yX8_byteAt, cX8_byteAt, 2, (some .int), 2, false) := rfl
theorem ta_113 : tbA 113 = some tb_113 := rfl
theorem mt_113 : mtA 113 = some (8, yX8_is, cX8_is, 6, (some .boolean), 6, false) := rfl
theorem ta_114 : tbA 114 = some tb_114 := rfl
theorem mt_114 : mtA 114 = some (8, yX8_lineNow, cX8_lineNow, 1, (some .int), 1, false) := rfl
theorem ta_115 : tbA 115 = some tb_115 := rfl
theorem mt_115 : mtA 115 = some (8, yX8_reads, cX8_reads, 2, none, 1, false) := rfl
theorem ta_116 : tbA 116 = some tb_116 := rfl
theorem mt_116 : mtA 116 = some (8, yX8_leastOf, cX8_leastOf, 1, (some .int), 1, true) := rfl
theorem ta_117 : tbA 117 = some tb_117 := rfl
theorem mt_117 : mtA 117 = some (8, yX8_mostOf, cX8_mostOf, 1, (some .int), 1, true) := rfl
theorem ta_118 : tbA 118 = some tb_118 := rfl
theorem mt_118 : mtA 118 = some (8, yX8_readNumber, cX8_readNumber, 4, (some .int), 3, false) := rfl
theorem ta_119 : tbA 119 = some tb_119 := rfl
theorem mt_119 : mtA 119 = some (8, yX8_readCell, cX8_readCell, 2, none, 1, false) := rfl
theorem ta_120 : tbA 120 = some tb_120 := rfl
theorem mt_120 : mtA 120 = some (8, yX8_readLine, cX8_readLine, 2, none, 1, false) := rfl
theorem ta_121 : tbA 121 = some tb_121 := rfl
theorem mt_121 : mtA 121 = some (8, yX8_text, cX8_text, 2, (some .int), 1, false) := rfl
theorem ta_122 : tbA 122 = some tb_122 := rfl
theorem mt_122 : mtA 122 = some (8, yX8_fault, cX8_fault, 1, (some .int), 1, false) := rfl
theorem ta_123 : tbA 123 = some tb_123 := rfl
theorem mt_123 : mtA 123 = some (8, yX8_isCell, cX8_isCell, 2, (some .boolean), 2, false) := rfl
theorem ta_124 : tbA 124 = some tb_124 := rfl
theorem mt_124 : mtA 124 = some (8, yX8_isGroup, cX8_isGroup, 2, (some .boolean), 2, false) := rfl
theorem ta_125 : tbA 125 = some tb_125 := rfl
theorem mt_125 : mtA 125 = some (8, yX8_sumNow, cX8_sumNow, 3, none, 2, false) := rfl
theorem ta_126 : tbA 126 = some tb_126 := rfl
theorem mt_126 : mtA 126 = some (8, yX8_sumFound, cX8_sumFound, 2, none, 1, false) := rfl
theorem ta_127 : tbA 127 = some tb_127 := rfl
theorem mt_127 : mtA 127 = some (8, yX8_weakest, cX8_weakest, 3, (some .int), 1, false) := rfl
theorem ta_128 : tbA 128 = some tb_128 := rfl
theorem mt_128 : mtA 128 = some (8, yX8_least, cX8_least, 1, (some .int), 1, false) := rfl
theorem ta_129 : tbA 129 = some tb_129 := rfl
theorem mt_129 : mtA 129 = some (8, yX8_greatest, cX8_greatest, 3, (some .int), 1, false) := rfl
theorem ta_130 : tbA 130 = some tb_130 := rfl
theorem mt_130 : mtA 130 = some (8, yX8_spreadNow, cX8_spreadNow, 1, (some .int), 1, false) := rfl
theorem ta_131 : tbA 131 = some tb_131 := rfl
theorem mt_131 : mtA 131 = some (8, yX8_all, cX8_all, 4, (some .int), 2, false) := rfl
theorem ta_132 : tbA 132 = some tb_132 := rfl
theorem mt_132 : mtA 132 = some (8, yX8_weakestNow, cX8_weakestNow, 1, (some .int), 1, false) := rfl
theorem ta_133 : tbA 133 = some tb_133 := rfl
theorem mt_133 : mtA 133 = some (8, yX8_leastNow, cX8_leastNow, 2, (some .int), 2, false) := rfl
theorem ta_134 : tbA 134 = some tb_134 := rfl
theorem mt_134 : mtA 134 = some (8, yX8_rule, cX8_rule, 2, (some .int), 2, false) := rfl
theorem ta_135 : tbA 135 = some tb_135 := rfl
theorem mt_135 : mtA 135 = some (8, yX8_rankOf, cX8_rankOf, 4, (some .int), 2, false) := rfl
theorem ta_136 : tbA 136 = some tb_136 := rfl
theorem mt_136 : mtA 136 = some (8, yX8_cell, cX8_cell, 3, (some .int), 3, false) := rfl
theorem ta_137 : tbA 137 = some tb_137 := rfl
theorem mt_137 : mtA 137 = some (8, yX8_strongest, cX8_strongest, 4, (some .int), 2, false) := rfl
theorem ta_138 : tbA 138 = some tb_138 := rfl
theorem mt_138 : mtA 138 = some (8, yX8_cellsOf, cX8_cellsOf, 5, (some .int), 3, false) := rfl
theorem ta_139 : tbA 139 = some tb_139 := rfl
theorem mt_139 : mtA 139 = some (8, yX8_aboveFloor, cX8_aboveFloor, 4, (some .int), 2, false) := rfl
theorem ta_140 : tbA 140 = some tb_140 := rfl
theorem mt_140 : mtA 140 = some (8, yX8_sumOf, cX8_sumOf, 2, (some .int), 2, false) := rfl
theorem ta_141 : tbA 141 = some tb_141 := rfl
theorem mt_141 : mtA 141 = some (8, yX8_group, cX8_group, 3, (some .int), 3, false) := rfl
theorem ta_142 : tbA 142 = some tb_142 := rfl
theorem mt_142 : mtA 142 = some (8, yX8_findTurns, cX8_findTurns, 2, none, 1, false) := rfl
theorem ta_143 : tbA 143 = some tb_143 := rfl
theorem mt_143 : mtA 143 = some (8, yX8_findWeakest, cX8_findWeakest, 4, none, 1, false) := rfl
theorem ta_144 : tbA 144 = some tb_144 := rfl
theorem mt_144 : mtA 144 = some (8, yX8_holds, cX8_holds, 4, (some .int), 2, false) := rfl
theorem ta_145 : tbA 145 = some tb_145 := rfl
theorem mt_145 : mtA 145 = some (8, yX8_isAhead, cX8_isAhead, 5, (some .boolean), 3, false) := rfl
theorem ta_146 : tbA 146 = some tb_146 := rfl
theorem mt_146 : mtA 146 = some (8, yX8_differenceOf, cX8_differenceOf, 2, (some .int), 2, false) := rfl
theorem ta_147 : tbA 147 = some tb_147 := rfl
theorem mt_147 : mtA 147 = some (8, yX8_widest, cX8_widest, 4, (some .int), 2, false) := rfl
theorem ta_148 : tbA 148 = some tb_148 := rfl
theorem mt_148 : mtA 148 = some (8, yX8_order, cX8_order, 6, none, 2, false) := rfl
theorem ta_149 : tbA 149 = some tb_149 := rfl
theorem mt_149 : mtA 149 = some (8, yX8_join, cX8_join, 6, none, 3, false) := rfl
theorem ta_150 : tbA 150 = some tb_150 := rfl
theorem mt_150 : mtA 150 = some (8, yX8_findDifferences, cX8_findDifferences, 4, none, 1, false) := rfl
theorem ta_151 : tbA 151 = some tb_151 := rfl
theorem mt_151 : mtA 151 = some (8, yX8_steps, cX8_steps, 4, (some .boolean), 1, false) := rfl
theorem ta_152 : tbA 152 = some tb_152 := rfl
theorem mt_152 : mtA 152 = some (8, yX8_findBest, cX8_findBest, 5, none, 1, false) := rfl
theorem ta_153 : tbA 153 = some tb_153 := rfl
theorem mt_153 : mtA 153 = some (8, yX8_find, cX8_find, 2, none, 2, false) := rfl
theorem ta_154 : tbA 154 = some tb_154 := rfl
theorem mt_154 : mtA 154 = some (8, yX8_takeFound, cX8_takeFound, 2, none, 1, false) := rfl
theorem ta_155 : tbA 155 = some tb_155 := rfl
theorem mt_155 : mtA 155 = some (8, yX8_byTurns, cX8_byTurns, 1, none, 1, false) := rfl
theorem ta_156 : tbA 156 = some tb_156 := rfl
theorem mt_156 : mtA 156 = some (8, yX8_isWay, cX8_isWay, 2, (some .boolean), 2, false) := rfl
theorem ta_157 : tbA 157 = some tb_157 := rfl
theorem mt_157 : mtA 157 = some (8, yX8_isTooMuch, cX8_isTooMuch, 2, (some .boolean), 2, false) := rfl
theorem ta_158 : tbA 158 = some tb_158 := rfl
theorem mt_158 : mtA 158 = some (8, yX8_take, cX8_take, 2, (some .int), 2, false) := rfl
theorem ta_159 : tbA 159 = some tb_159 := rfl
theorem mt_159 : mtA 159 = some (8, yX8_moved, cX8_moved, 3, (some .int), 1, false) := rfl
theorem ta_160 : tbA 160 = some tb_160 := rfl
theorem mt_160 : mtA 160 = some (8, yX8_would, cX8_would, 3, (some .int), 3, false) := rfl
theorem ta_161 : tbA 161 = some tb_161 := rfl
theorem mt_161 : mtA 161 = some (8, yX8_where, cX8_where, 3, (some .int), 3, false) := rfl
theorem ta_162 : tbA 162 = some tb_162 := rfl
theorem mt_162 : mtA 162 = some (8, yX8_boundNow, cX8_boundNow, 1, (some .int), 1, false) := rfl
theorem ta_163 : tbA 163 = some tb_163 := rfl
theorem mt_163 : mtA 163 = some (8, yX8_reaching, cX8_reaching, 3, (some .int), 1, false) := rfl
theorem ta_164 : tbA 164 = some tb_164 := rfl
theorem mt_164 : mtA 164 = some (8, yX8_bound, cX8_bound, 2, (some .int), 2, false) := rfl
theorem ta_165 : tbA 165 = some tb_165 := rfl
theorem mt_165 : mtA 165 = some (8, yX8_joined, cX8_joined, 2, (some .int), 2, false) := rfl
theorem ta_166 : tbA 166 = some tb_166 := rfl
theorem mt_166 : mtA 166 = some (8, yX8_move, cX8_move, 4, (some .int), 3, false) := rfl
theorem ta_167 : tbA 167 = some tb_167 := rfl
theorem mt_167 : mtA 167 = some (8, yX8_exchange, cX8_exchange, 4, none, 3, false) := rfl
theorem ta_168 : tbA 168 = some tb_168 := rfl
theorem mt_168 : mtA 168 = some (8, yX8_swap, cX8_swap, 3, (some .int), 3, false) := rfl
theorem ta_169 : tbA 169 = some tb_169 := rfl
theorem mt_169 : mtA 169 = some (8, yX8_better, cX8_better, 5, (some .int), 1, false) := rfl
theorem ta_170 : tbA 170 = some tb_170 := rfl
theorem mt_170 : mtA 170 = some (8, yX8_comes, cX8_comes, 4, none, 2, false) := rfl
theorem ta_171 : tbA 171 = some tb_171 := rfl
theorem mt_171 : mtA 171 = some (8, yX8_add, cX8_add, 2, (some .int), 2, false) := rfl
theorem ta_172 : tbA 172 = some tb_172 := rfl
theorem mt_172 : mtA 172 = some (8, yX8_drop, cX8_drop, 3, (some .int), 2, false) := rfl
theorem ta_173 : tbA 173 = some tb_173 := rfl
theorem mt_173 : mtA 173 = some (8, yX8_set, cX8_set, 4, (some .int), 3, false) := rfl
theorem ta_174 : tbA 174 = some tb_174 := rfl
theorem mt_174 : mtA 174 = some (8, yX8_rate, cX8_rate, 4, (some .int), 3, false) := rfl
theorem ta_175 : tbA 175 = some tb_175 := rfl
theorem mt_175 : mtA 175 = some (8, yX8_groups, cX8_groups, 3, (some .int), 2, false) := rfl
theorem ta_176 : tbA 176 = some tb_176 := rfl
theorem mt_176 : mtA 176 = some (8, yX8_ticks, cX8_ticks, 6, (some .boolean), 1, false) := rfl
theorem ta_177 : tbA 177 = some tb_177 := rfl
theorem mt_177 : mtA 177 = some (8, yX8_ticksOn, cX8_ticksOn, 3, (some .int), 2, false) := rfl
theorem ta_178 : tbA 178 = some tb_178 := rfl
theorem mt_178 : mtA 178 = some (8, yX8_bleed, cX8_bleed, 2, (some .int), 2, false) := rfl
theorem ta_179 : tbA 179 = some tb_179 := rfl
theorem mt_179 : mtA 179 = some (8, yX8_plan, cX8_plan, 6, (some .int), 2, false) := rfl
theorem ta_180 : tbA 180 = some tb_180 := rfl
theorem mt_180 : mtA 180 = some (8, yX8_fill, cX8_fill, 3, (some .int), 1, false) := rfl
theorem ta_181 : tbA 181 = some tb_181 := rfl
theorem mt_181 : mtA 181 = some (8, yX8_draw, cX8_draw, 5, (some .int), 3, false) := rfl
theorem ta_182 : tbA 182 = some tb_182 := rfl
theorem mt_182 : mtA 182 = some (8, yX8_keepBefore, cX8_keepBefore, 2, none, 1, false) := rfl
theorem ta_183 : tbA 183 = some tb_183 := rfl
theorem mt_183 : mtA 183 = some (8, yX8_backBefore, cX8_backBefore, 2, none, 1, false) := rfl
theorem ta_184 : tbA 184 = some tb_184 := rfl
theorem mt_184 : mtA 184 = some (8, yX8_keep, cX8_keep, 4, (some .int), 2, false) := rfl
theorem ta_185 : tbA 185 = some tb_185 := rfl
theorem mt_185 : mtA 185 = some (8, yX8_back, cX8_back, 3, (some .int), 2, false) := rfl
theorem ta_186 : tbA 186 = some tb_186 := rfl
theorem mt_186 : mtA 186 = some (8, yX8_isSheet, cX8_isSheet, 2, (some .boolean), 2, true) := rfl
theorem ta_187 : tbA 187 = some tb_187 := rfl
theorem mt_187 : mtA 187 = some (8, yX8_sheet, cX8_sheet, 5, (some .int), 4, false) := rfl
theorem ta_188 : tbA 188 = some tb_188 := rfl
theorem mt_188 : mtA 188 = some (8, yX8_lay, cX8_lay, 4, (some .int), 4, false) := rfl
theorem ta_189 : tbA 189 = some tb_189 := rfl
theorem mt_189 : mtA 189 = some (8, yX8_read, cX8_read, 11, (some .int), 5, false) := rfl
theorem ta_190 : tbA 190 = some tb_190 := rfl
theorem mt_190 : mtA 190 = some (8, yX8_torn, cX8_torn, 1, (some .int), 1, false) := rfl
theorem ta_191 : tbA 191 = some tb_191 := rfl
theorem mt_191 : mtA 191 = some (8, yX8_emptyGroups, cX8_emptyGroups, 3, (some .int), 1, false) := rfl
theorem ta_192 : tbA 192 = some tb_192 := rfl
theorem mt_192 : mtA 192 = some (8, yX8_bledCells, cX8_bledCells, 3, (some .int), 1, false) := rfl
theorem ta_193 : tbA 193 = some tb_193 := rfl
theorem mt_193 : mtA 193 = some (8, yX8_greatestCharge, cX8_greatestCharge, 3, (some .int), 1, false) := rfl
theorem ta_194 : tbA 194 = some tb_194 := rfl
theorem mt_194 : mtA 194 = some (8, yX8_count, cX8_count, 2, (some .int), 2, false) := rfl
theorem ta_195 : tbA 195 = some tb_195 := rfl
theorem mt_195 : mtA 195 = some (10, yJ6_bitCount_0f7a4, cJ6_bitCount_0f7a4, 1, (some .int), 1, true) := rfl
theorem ta_196 : tbA 196 = some tb_196 := rfl
theorem mt_196 : mtA 196 = some (9, yJ7_fill_53178, cJ7_fill_53178, 4, none, 2, true) := rfl
section WPV
variable {D y : Nat} {tb : List EN} {pc nx : Nat} {L : LVs} {S : List AV} {M : Mem} {post : Option AV → Mem → Prop}
theorem w_getIv {a b c i0 : Nat} {z v : Int} (k : Int) (t : tbA y = some tb) (h : lkp tb pc = some (pc, .getfield i0, nx, a, b, z)) (hk : (b : Int) = k) (hc : fldA c a b = some none) (hv : M c k = v) (g : Wp D y (nx, L, .inl v :: S, M) post) : Wp D y (pc, L, .inr (.inr c) :: S, M) post := w_getI k t h hk hc (by rw [hv]; exact g)
theorem w_ialoadv {a b c n : Nat} {z i v : Int} (t : tbA y = some tb) (h : lkp tb pc = some (pc, .iaload, nx, a, b, z)) (hc : arrN 0 c = some n) (h0 : 0 ≤ i) (h1 : i < n) (h2 : n < 2147483648) (hv : M c i = v) (g : Wp D y (nx, L, .inl v :: S, M) post) : Wp D y (pc, L, .inl i :: .inr (.inr c) :: S, M) post := w_iaload t h hc h0 h1 h2 (by rw [hv]; exact g)
theorem w_baloadv {a b c n k : Nat} {z i v : Int} (t : tbA y = some tb) (h : lkp tb pc = some (pc, .baload, nx, a, b, z)) (hc : arrB c = some (k, n)) (h0 : 0 ≤ i) (h1 : i < n) (h2 : n < 2147483648) (hv : M c i = v) (g : Wp D y (nx, L, .inl v :: S, M) post) : Wp D y (pc, L, .inl i :: .inr (.inr c) :: S, M) post := w_baload t h hc h0 h1 h2 (by rw [hv]; exact g)
end WPV
