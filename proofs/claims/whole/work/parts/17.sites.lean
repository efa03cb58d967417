set_option maxRecDepth 20000 in
theorem lRX6_64 : Cond.methodLink RX6 64 yX1_open ∈ mv_T := mv_mem 248 rfl rfl
set_option maxRecDepth 20000 in
theorem lRX1_19 : Cond.methodLink RX1 19 yJ9_min_7cf53 ∈ mv_T := mv_mem 252 rfl rfl
set_option maxRecDepth 20000 in
theorem lRX1_25 : Cond.methodLink RX1 25 yJ9_max_7cf53 ∈ mv_T := mv_mem 255 rfl rfl
set_option maxRecDepth 20000 in
theorem lRX6_68 : Cond.methodLink RX6 68 yX1_put ∈ mv_T := mv_mem 258 rfl rfl
set_option maxRecDepth 20000 in
theorem lRX1_28 : Cond.methodLink RX1 28 yX1_has ∈ mv_T := mv_mem 262 rfl rfl
set_option maxRecDepth 20000 in
theorem lRL_13 : Cond.methodLink RL 13 yX6_sheet ∈ mv_T := mv_mem 297 rfl rfl
set_option maxRecDepth 20000 in
theorem lRL_18 : Cond.methodLink RL 18 yX6_cell ∈ mv_T := mv_mem 301 rfl rfl
set_option maxRecDepth 20000 in
theorem lRX6_72 : Cond.methodLink RX6 72 yX1_has ∈ mv_T := mv_mem 305 rfl rfl
set_option maxRecDepth 20000 in
theorem lRL_23 : Cond.methodLink RL 23 yX6_cellOf ∈ mv_T := mv_mem 306 rfl rfl
set_option maxRecDepth 20000 in
theorem lRX6_76 : Cond.methodLink RX6 76 yX1_at ∈ mv_T := mv_mem 310 rfl rfl
set_option maxRecDepth 20000 in
theorem lRL_28 : Cond.methodLink RL 28 yX6_take ∈ mv_T := mv_mem 315 rfl rfl
set_option maxRecDepth 20000 in
theorem lRX6_81 : Cond.methodLink RX6 81 yX6_freeLattice ∈ mv_T := mv_mem 319 rfl rfl
set_option maxRecDepth 20000 in
theorem lRX6_85 : Cond.methodLink RX6 85 yX1_firstUnlikeLine ∈ mv_T := mv_mem 323 rfl rfl
set_option maxRecDepth 20000 in
theorem lRX1_38 : Cond.methodLink RX1 38 yX1_at ∈ mv_T := mv_mem 327 rfl rfl
set_option maxRecDepth 20000 in
theorem lRX6_89 : Cond.methodLink RX6 89 yX1_firstFlatCorner ∈ mv_T := mv_mem 328 rfl rfl
set_option maxRecDepth 20000 in
theorem lRX1_65 : Cond.methodLink RX1 65 yX1_expand ∈ mv_T := mv_mem 332 rfl rfl
set_option maxRecDepth 20000 in
theorem lRX6_95 : Cond.methodLink RX6 95 yX1_copy ∈ mv_T := mv_mem 336 rfl rfl
set_option maxRecDepth 20000 in
theorem lRX6_99 : Cond.methodLink RX6 99 yX6_keepIfSmall ∈ mv_T := mv_mem 343 rfl rfl
set_option maxRecDepth 20000 in
theorem lRX6_209 : Cond.methodLink RX6 209 yX1_isSmall ∈ mv_T := mv_mem 347 rfl rfl
set_option maxRecDepth 20000 in
theorem lRX6_213 : Cond.methodLink RX6 213 yX3_settle ∈ mv_T := mv_mem 353 rfl rfl
set_option maxRecDepth 20000 in
theorem lRX3_33 : Cond.methodLink RX3 33 yX1_determinant ∈ mv_T := mv_mem 357 rfl rfl
set_option maxRecDepth 20000 in
theorem lRX3_29 : Cond.methodLink RX3 29 yX1_lines ∈ mv_T := mv_mem 361 rfl rfl
set_option maxRecDepth 20000 in
theorem lRX3_37 : Cond.methodLink RX3 37 yX1_open ∈ mv_T := mv_mem 365 rfl rfl
set_option maxRecDepth 20000 in
theorem lRX3_41 : Cond.methodLink RX3 41 yX1_cofactor ∈ mv_T := mv_mem 366 rfl rfl
set_option maxRecDepth 20000 in
theorem lRX3_45 : Cond.methodLink RX3 45 yX1_put ∈ mv_T := mv_mem 370 rfl rfl
set_option maxRecDepth 20000 in
theorem lRX3_49 : Cond.methodLink RX3 49 yX1_isEvenAcross ∈ mv_T := mv_mem 371 rfl rfl
set_option maxRecDepth 20000 in
theorem lRX3_55 : Cond.methodLink RX3 55 yX3_setStepFacts ∈ mv_T := mv_mem 377 rfl rfl
set_option maxRecDepth 20000 in
theorem lRL_33 : Cond.methodLink RL 33 yX6_table ∈ mv_T := mv_mem 381 rfl rfl
set_option maxRecDepth 20000 in
theorem lRX6_103 : Cond.methodLink RX6 103 yX6_latticeAt ∈ mv_T := mv_mem 385 rfl rfl
set_option maxRecDepth 20000 in
theorem lRL_38 : Cond.methodLink RL 38 yX6_about ∈ mv_T := mv_mem 389 rfl rfl
set_option maxRecDepth 20000 in
theorem lRX6_113 : Cond.methodLink RX6 113 yX6_factOf ∈ mv_T := mv_mem 394 rfl rfl
set_option maxRecDepth 20000 in
theorem lRX6_149 : Cond.methodLink RX6 149 yX6_countWays ∈ mv_T := mv_mem 399 rfl rfl
set_option maxRecDepth 20000 in
theorem lRX6_235 : Cond.methodLink RX6 235 yX1_greatestAcross ∈ mv_T := mv_mem 403 rfl rfl
set_option maxRecDepth 20000 in
theorem lRX1_63 : Cond.methodLink RX1 63 yJ9_max_f86c9 ∈ mv_T := mv_mem 407 rfl rfl
set_option maxRecDepth 20000 in
theorem lRX6_118 : Cond.methodLink RX6 118 yX5_gatherUpTo ∈ mv_T := mv_mem 410 rfl rfl
set_option maxRecDepth 20000 in
theorem lRX5_56 : Cond.methodLink RX5 56 yX5_aimAt ∈ mv_T := mv_mem 414 rfl rfl
set_option maxRecDepth 20000 in
theorem lRX5_60 : Cond.methodLink RX5 60 yX5_begin ∈ mv_T := mv_mem 418 rfl rfl
set_option maxRecDepth 20000 in
theorem lRX5_116 : Cond.methodLink RX5 116 yX1_copy ∈ mv_T := mv_mem 422 rfl rfl
set_option maxRecDepth 20000 in
theorem lRX5_104 : Cond.methodLink RX5 104 yX3_ways ∈ mv_T := mv_mem 423 rfl rfl
set_option maxRecDepth 20000 in
theorem lRX5_120 : Cond.methodLink RX5 120 yX0_open ∈ mv_T := mv_mem 427 rfl rfl
set_option maxRecDepth 20000 in
theorem lRX0_28 : Cond.methodLink RX0 28 yJ9_min_7cf53 ∈ mv_T := mv_mem 431 rfl rfl
set_option maxRecDepth 20000 in
theorem lRX0_34 : Cond.methodLink RX0 34 yJ9_max_7cf53 ∈ mv_T := mv_mem 432 rfl rfl
set_option maxRecDepth 20000 in
theorem lRX5_127 : Cond.methodLink RX5 127 yX1_at ∈ mv_T := mv_mem 433 rfl rfl
set_option maxRecDepth 20000 in
theorem lRX5_74 : Cond.methodLink RX5 74 yX5_floorOf ∈ mv_T := mv_mem 434 rfl rfl
set_option maxRecDepth 20000 in
theorem lRX5_176 : Cond.methodLink RX5 176 yJ9_floorDiv_f86c9 ∈ mv_T := mv_mem 437 rfl rfl
set_option maxRecDepth 20000 in
theorem lRX5_134 : Cond.methodLink RX5 134 yX5_rootOf ∈ mv_T := mv_mem 440 rfl rfl
set_option maxRecDepth 20000 in
theorem lRX5_138 : Cond.methodLink RX5 138 yX5_ceilingOf ∈ mv_T := mv_mem 444 rfl rfl
set_option maxRecDepth 20000 in
theorem lRX5_141 : Cond.methodLink RX5 141 yX0_setRange ∈ mv_T := mv_mem 447 rfl rfl
set_option maxRecDepth 20000 in
theorem lRX0_37 : Cond.methodLink RX0 37 yJ9_max_f86c9 ∈ mv_T := mv_mem 451 rfl rfl
set_option maxRecDepth 20000 in
theorem lRX5_64 : Cond.methodLink RX5 64 yX0_boxCount ∈ mv_T := mv_mem 452 rfl rfl
set_option maxRecDepth 20000 in
theorem lRX5_147 : Cond.methodLink RX5 147 yX0_widest ∈ mv_T := mv_mem 458 rfl rfl
set_option maxRecDepth 20000 in
theorem lRX5_150 : Cond.methodLink RX5 150 yX0_lowest ∈ mv_T := mv_mem 462 rfl rfl
set_option maxRecDepth 20000 in
theorem lRX5_153 : Cond.methodLink RX5 153 yX5_setNumber ∈ mv_T := mv_mem 466 rfl rfl
set_option maxRecDepth 20000 in
theorem lRX5_70 : Cond.methodLink RX5 70 yX0_span ∈ mv_T := mv_mem 470 rfl rfl
set_option maxRecDepth 20000 in
theorem lRX5_78 : Cond.methodLink RX5 78 yX5_prepare ∈ mv_T := mv_mem 474 rfl rfl
set_option maxRecDepth 20000 in
theorem lRX5_112 : Cond.methodLink RX5 112 yX1_lineBy ∈ mv_T := mv_mem 478 rfl rfl
set_option maxRecDepth 20000 in
theorem lRX5_157 : Cond.methodLink RX5 157 yX1_lines ∈ mv_T := mv_mem 482 rfl rfl
set_option maxRecDepth 20000 in
theorem lRX5_81 : Cond.methodLink RX5 81 yX5_noteUpTo ∈ mv_T := mv_mem 483 rfl rfl
set_option maxRecDepth 20000 in
theorem lRX5_166 : Cond.methodLink RX5 166 yX5_sizeFor ∈ mv_T := mv_mem 487 rfl rfl
set_option maxRecDepth 20000 in
theorem lRX5_169 : Cond.methodLink RX5 169 yX0_note ∈ mv_T := mv_mem 491 rfl rfl
set_option maxRecDepth 20000 in
theorem lRX5_85 : Cond.methodLink RX5 85 yX5_advance ∈ mv_T := mv_mem 495 rfl rfl
set_option maxRecDepth 20000 in
theorem lRX5_160 : Cond.methodLink RX5 160 yJ9_min_7cf53 ∈ mv_T := mv_mem 499 rfl rfl
set_option maxRecDepth 20000 in
theorem lRX5_89 : Cond.methodLink RX5 89 yX0_sort ∈ mv_T := mv_mem 500 rfl rfl
set_option maxRecDepth 20000 in
theorem lRX0_52 : Cond.methodLink RX0 52 yX0_sink ∈ mv_T := mv_mem 504 rfl rfl
set_option maxRecDepth 20000 in
theorem lRX5_92 : Cond.methodLink RX5 92 yX0_count ∈ mv_T := mv_mem 508 rfl rfl
set_option maxRecDepth 20000 in
theorem lRX6_238 : Cond.methodLink RX6 238 yX2_count ∈ mv_T := mv_mem 513 rfl rfl
set_option maxRecDepth 20000 in
theorem lRX2_59 : Cond.methodLink RX2 59 yX1_copy ∈ mv_T := mv_mem 517 rfl rfl
set_option maxRecDepth 20000 in
theorem lRX2_63 : Cond.methodLink RX2 63 yX1_lines ∈ mv_T := mv_mem 518 rfl rfl
set_option maxRecDepth 20000 in
theorem lRX2_67 : Cond.methodLink RX2 67 yX1_at ∈ mv_T := mv_mem 519 rfl rfl
set_option maxRecDepth 20000 in
theorem lRX2_71 : Cond.methodLink RX2 71 yX0_firstAbove ∈ mv_T := mv_mem 520 rfl rfl
set_option maxRecDepth 20000 in
theorem lRX0_48 : Cond.methodLink RX0 48 yX0_sizeAt ∈ mv_T := mv_mem 524 rfl rfl
set_option maxRecDepth 20000 in
theorem lRX2_77 : Cond.methodLink RX2 77 yX0_count ∈ mv_T := mv_mem 528 rfl rfl
set_option maxRecDepth 20000 in
theorem lRX2_80 : Cond.methodLink RX2 80 yX0_numberAt ∈ mv_T := mv_mem 529 rfl rfl
set_option maxRecDepth 20000 in
theorem lRX0_42 : Cond.methodLink RX0 42 yX0_has ∈ mv_T := mv_mem 533 rfl rfl
set_option maxRecDepth 20000 in
theorem lRX2_84 : Cond.methodLink RX2 84 yX2_choose ∈ mv_T := mv_mem 538 rfl rfl
set_option maxRecDepth 20000 in
theorem lRX2_102 : Cond.methodLink RX2 102 yX2_meetsAsWanted ∈ mv_T := mv_mem 543 rfl rfl
set_option maxRecDepth 20000 in
theorem lRX2_106 : Cond.methodLink RX2 106 yX2_hold ∈ mv_T := mv_mem 547 rfl rfl
set_option maxRecDepth 20000 in
theorem lRX2_94 : Cond.methodLink RX2 94 yX2_numberOf ∈ mv_T := mv_mem 551 rfl rfl
set_option maxRecDepth 20000 in
theorem lRX2_110 : Cond.methodLink RX2 110 yX1_lineBy ∈ mv_T := mv_mem 555 rfl rfl
set_option maxRecDepth 20000 in
theorem lRX6_218 : Cond.methodLink RX6 218 yX6_learnSteps ∈ mv_T := mv_mem 557 rfl rfl
set_option maxRecDepth 20000 in
theorem lRX6_222 : Cond.methodLink RX6 222 yX1_leastAcross ∈ mv_T := mv_mem 561 rfl rfl
set_option maxRecDepth 20000 in
theorem lRX1_60 : Cond.methodLink RX1 60 yJ9_min_f86c9 ∈ mv_T := mv_mem 565 rfl rfl
set_option maxRecDepth 20000 in
theorem lRX6_227 : Cond.methodLink RX6 227 yX3_setStepFacts ∈ mv_T := mv_mem 568 rfl rfl
set_option maxRecDepth 20000 in
theorem lRX6_135 : Cond.methodLink RX6 135 yX0_sizeAt ∈ mv_T := mv_mem 569 rfl rfl
set_option maxRecDepth 20000 in
theorem lRX6_126 : Cond.methodLink RX6 126 yX0_firstAbove ∈ mv_T := mv_mem 570 rfl rfl
set_option maxRecDepth 20000 in
theorem lRX6_231 : Cond.methodLink RX6 231 yX4_isFull ∈ mv_T := mv_mem 571 rfl rfl
set_option maxRecDepth 20000 in
theorem lRX4_29 : Cond.methodLink RX4 29 yX0_ways ∈ mv_T := mv_mem 575 rfl rfl
set_option maxRecDepth 20000 in
theorem lRX4_35 : Cond.methodLink RX4 35 yX4_setFresh ∈ mv_T := mv_mem 579 rfl rfl
set_option maxRecDepth 20000 in
theorem lRX4_42 : Cond.methodLink RX4 42 yX0_numberAt ∈ mv_T := mv_mem 583 rfl rfl
set_option maxRecDepth 20000 in
theorem lRX4_48 : Cond.methodLink RX4 48 yJ9_floorMod_f86c9 ∈ mv_T := mv_mem 585 rfl rfl
set_option maxRecDepth 20000 in
theorem lRX4_39 : Cond.methodLink RX4 39 yX4_keepFreshIfNew ∈ mv_T := mv_mem 588 rfl rfl
set_option maxRecDepth 20000 in
theorem lRX4_54 : Cond.methodLink RX4 54 yX4_strikeOut ∈ mv_T := mv_mem 592 rfl rfl
set_option maxRecDepth 20000 in
theorem lRL_43 : Cond.methodLink RL 43 yX6_rows ∈ mv_T := mv_mem 597 rfl rfl
set_option maxRecDepth 20000 in
theorem lRX6_122 : Cond.methodLink RX6 122 yX6_showSpare ∈ mv_T := mv_mem 602 rfl rfl
set_option maxRecDepth 20000 in
theorem lRL_47 : Cond.methodLink RL 47 yX6_theta ∈ mv_T := mv_mem 606 rfl rfl
set_option maxRecDepth 20000 in
theorem lRL_51 : Cond.methodLink RL 51 yX6_row ∈ mv_T := mv_mem 610 rfl rfl
set_option maxRecDepth 20000 in
theorem lRX6_130 : Cond.methodLink RX6 130 yX0_has ∈ mv_T := mv_mem 614 rfl rfl
set_option maxRecDepth 20000 in
theorem lRX6_131 : Cond.methodLink RX6 131 yX0_numberAt ∈ mv_T := mv_mem 615 rfl rfl
set_option maxRecDepth 20000 in
theorem lRL_55 : Cond.methodLink RL 55 yX6_size ∈ mv_T := mv_mem 616 rfl rfl
set_option maxRecDepth 20000 in
theorem lRL_60 : Cond.methodLink RL 60 yX6_reduce ∈ mv_T := mv_mem 620 rfl rfl
set_option maxRecDepth 20000 in
theorem lRX6_139 : Cond.methodLink RX6 139 yX3_ways ∈ mv_T := mv_mem 624 rfl rfl
set_option maxRecDepth 20000 in
theorem lRX6_142 : Cond.methodLink RX6 142 yX6_shortenAll ∈ mv_T := mv_mem 625 rfl rfl
set_option maxRecDepth 20000 in
theorem lRX6_241 : Cond.methodLink RX6 241 yX6_shortenFirst ∈ mv_T := mv_mem 628 rfl rfl
set_option maxRecDepth 20000 in
theorem lRX6_156 : Cond.methodLink RX6 156 yX1_lines ∈ mv_T := mv_mem 631 rfl rfl
set_option maxRecDepth 20000 in
theorem lRX6_245 : Cond.methodLink RX6 245 yX6_nearestTowardsZero ∈ mv_T := mv_mem 632 rfl rfl
set_option maxRecDepth 20000 in
theorem lRX6_177 : Cond.methodLink RX6 177 yJ9_abs_067f4 ∈ mv_T := mv_mem 636 rfl rfl
set_option maxRecDepth 20000 in
theorem lRX6_251 : Cond.methodLink RX6 251 yX1_takeLineAway ∈ mv_T := mv_mem 639 rfl rfl
set_option maxRecDepth 20000 in
theorem lRX1_42 : Cond.methodLink RX1 42 yX1_put ∈ mv_T := mv_mem 643 rfl rfl
set_option maxRecDepth 20000 in
theorem lRX6_254 : Cond.methodLink RX6 254 yX1_takePlaceAway ∈ mv_T := mv_mem 644 rfl rfl
set_option maxRecDepth 20000 in
theorem lRX6_146 : Cond.methodLink RX6 146 yX6_sortBySizes ∈ mv_T := mv_mem 648 rfl rfl
set_option maxRecDepth 20000 in
theorem lRX6_257 : Cond.methodLink RX6 257 yX1_swapLines ∈ mv_T := mv_mem 651 rfl rfl
set_option maxRecDepth 20000 in
theorem lRX6_261 : Cond.methodLink RX6 261 yX1_swapPlaces ∈ mv_T := mv_mem 655 rfl rfl
set_option maxRecDepth 20000 in
theorem lRL_65 : Cond.methodLink RL 65 yX6_same ∈ mv_T := mv_mem 659 rfl rfl
set_option maxRecDepth 20000 in
theorem lRX6_153 : Cond.methodLink RX6 153 yX2_tellWay ∈ mv_T := mv_mem 663 rfl rfl
set_option maxRecDepth 20000 in
theorem lRX2_90 : Cond.methodLink RX2 90 yX1_open ∈ mv_T := mv_mem 667 rfl rfl
set_option maxRecDepth 20000 in
theorem lRX2_97 : Cond.methodLink RX2 97 yX1_put ∈ mv_T := mv_mem 668 rfl rfl
set_option maxRecDepth 20000 in
theorem lRL_69 : Cond.methodLink RL 69 yX6_way ∈ mv_T := mv_mem 669 rfl rfl
set_option maxRecDepth 20000 in
theorem lRL_73 : Cond.methodLink RL 73 yX6_wayWorth ∈ mv_T := mv_mem 673 rfl rfl
set_option maxRecDepth 20000 in
theorem lRX6_159 : Cond.methodLink RX6 159 yX1_determinant ∈ mv_T := mv_mem 677 rfl rfl
set_option maxRecDepth 20000 in
theorem lRL_78 : Cond.methodLink RL 78 yX6_dual ∈ mv_T := mv_mem 678 rfl rfl
set_option maxRecDepth 20000 in
theorem lRL_82 : Cond.methodLink RL 82 yX6_sum ∈ mv_T := mv_mem 682 rfl rfl
set_option maxRecDepth 20000 in
theorem lRX6_166 : Cond.methodLink RX6 166 yX1_lay ∈ mv_T := mv_mem 686 rfl rfl
set_option maxRecDepth 20000 in
theorem lRL_86 : Cond.methodLink RL 86 yX6_scale ∈ mv_T := mv_mem 690 rfl rfl
set_option maxRecDepth 20000 in
theorem lRX6_170 : Cond.methodLink RX6 170 yX1_multiply ∈ mv_T := mv_mem 694 rfl rfl
set_option maxRecDepth 20000 in
theorem lRL_90 : Cond.methodLink RL 90 yX6_within ∈ mv_T := mv_mem 698 rfl rfl
set_option maxRecDepth 20000 in
theorem lRX6_174 : Cond.methodLink RX6 174 yX1_openMeetings ∈ mv_T := mv_mem 702 rfl rfl
set_option maxRecDepth 20000 in
theorem lRX1_46 : Cond.methodLink RX1 46 yX1_open ∈ mv_T := mv_mem 706 rfl rfl
set_option maxRecDepth 20000 in
theorem lRX1_50 : Cond.methodLink RX1 50 yX1_meeting ∈ mv_T := mv_mem 707 rfl rfl
set_option maxRecDepth 20000 in
theorem lRL_94 : Cond.methodLink RL 94 yX6_index ∈ mv_T := mv_mem 711 rfl rfl
set_option maxRecDepth 20000 in
theorem lRL_98 : Cond.methodLink RL 98 yX6_denser ∈ mv_T := mv_mem 715 rfl rfl
set_option maxRecDepth 20000 in
theorem lRX6_183 : Cond.methodLink RX6 183 yX6_power ∈ mv_T := mv_mem 719 rfl rfl
set_option maxRecDepth 20000 in
theorem lRX6_191 : Cond.methodLink RX6 191 yX6_compareFractions ∈ mv_T := mv_mem 722 rfl rfl
set_option maxRecDepth 20000 in
theorem lRX6_264 : Cond.methodLink RX6 264 yJ13_compare_74951 ∈ mv_T := mv_mem 725 rfl rfl
set_option maxRecDepth 20000 in
theorem lRL_102 : Cond.methodLink RL 102 yX6_nearest ∈ mv_T := mv_mem 728 rfl rfl
set_option maxRecDepth 20000 in
theorem lRX6_195 : Cond.methodLink RX6 195 yX5_aimAt ∈ mv_T := mv_mem 732 rfl rfl
set_option maxRecDepth 20000 in
theorem lRX6_199 : Cond.methodLink RX6 199 yX5_aimIsNear ∈ mv_T := mv_mem 733 rfl rfl
set_option maxRecDepth 20000 in
theorem lRX6_203 : Cond.methodLink RX6 203 yX5_gatherNearest ∈ mv_T := mv_mem 739 rfl rfl
set_option maxRecDepth 20000 in
theorem lRX5_96 : Cond.methodLink RX5 96 yX5_sizeOfRounding ∈ mv_T := mv_mem 743 rfl rfl
set_option maxRecDepth 20000 in
theorem lRX5_100 : Cond.methodLink RX5 100 yX5_offer ∈ mv_T := mv_mem 747 rfl rfl
set_option maxRecDepth 20000 in
theorem lRX5_173 : Cond.methodLink RX5 173 yX0_forgetRows ∈ mv_T := mv_mem 751 rfl rfl
set_option maxRecDepth 20000 in
theorem lRL_107 : Cond.methodLink RL 107 yX6_told ∈ mv_T := mv_mem 755 rfl rfl
set_option maxRecDepth 20000 in
theorem lRX6_206 : Cond.methodLink RX6 206 yX0_count ∈ mv_T := mv_mem 759 rfl rfl
set_option maxRecDepth 20000 in
theorem lRL_17 : Cond.methodLink RL 17 yX7_sheet ∈ mv_T := mv_mem 846 rfl rfl
set_option maxRecDepth 20000 in
theorem lRX7_79 : Cond.methodLink RX7 79 yX7_isIn ∈ mv_T := mv_mem 851 rfl rfl
set_option maxRecDepth 20000 in
theorem lRL_22 : Cond.methodLink RL 22 yX7_cell ∈ mv_T := mv_mem 854 rfl rfl
set_option maxRecDepth 20000 in
theorem lRL_27 : Cond.methodLink RL 27 yX7_cellOf ∈ mv_T := mv_mem 860 rfl rfl
set_option maxRecDepth 20000 in
theorem lRL_32 : Cond.methodLink RL 32 yX7_take ∈ mv_T := mv_mem 865 rfl rfl
set_option maxRecDepth 20000 in
theorem lRX7_89 : Cond.methodLink RX7 89 yX7_determinant ∈ mv_T := mv_mem 869 rfl rfl
set_option maxRecDepth 20000 in
theorem lRX7_85 : Cond.methodLink RX7 85 yX7_minor ∈ mv_T := mv_mem 874 rfl rfl
set_option maxRecDepth 20000 in
theorem lRX7_100 : Cond.methodLink RX7 100 yX7_comes ∈ mv_T := mv_mem 878 rfl rfl
set_option maxRecDepth 20000 in
theorem lRL_37 : Cond.methodLink RL 37 yX7_table ∈ mv_T := mv_mem 882 rfl rfl
set_option maxRecDepth 20000 in
theorem lRX7_104 : Cond.methodLink RX7 104 yX7_isLattice ∈ mv_T := mv_mem 886 rfl rfl
set_option maxRecDepth 20000 in
theorem lRL_97 : Cond.methodLink RL 97 yX7_index ∈ mv_T := mv_mem 890 rfl rfl
set_option maxRecDepth 20000 in
theorem lRL_46 : Cond.methodLink RL 46 yX7_rows ∈ mv_T := mv_mem 894 rfl rfl
set_option maxRecDepth 20000 in
theorem lRX7_164 : Cond.methodLink RX7 164 yX7_find ∈ mv_T := mv_mem 899 rfl rfl
set_option maxRecDepth 20000 in
theorem lRX7_123 : Cond.methodLink RX7 123 yX7_worth ∈ mv_T := mv_mem 903 rfl rfl
set_option maxRecDepth 20000 in
theorem lRX7_127 : Cond.methodLink RX7 127 yX7_co ∈ mv_T := mv_mem 907 rfl rfl
set_option maxRecDepth 20000 in
theorem lRX7_131 : Cond.methodLink RX7 131 yX7_part ∈ mv_T := mv_mem 911 rfl rfl
set_option maxRecDepth 20000 in
theorem lRX7_135 : Cond.methodLink RX7 135 yX7_root ∈ mv_T := mv_mem 917 rfl rfl
set_option maxRecDepth 20000 in
theorem lRX7_139 : Cond.methodLink RX7 139 yX7_isTooLarge ∈ mv_T := mv_mem 921 rfl rfl
set_option maxRecDepth 20000 in
theorem lRX7_142 : Cond.methodLink RX7 142 yX7_meeting ∈ mv_T := mv_mem 927 rfl rfl
set_option maxRecDepth 20000 in
theorem lRX7_146 : Cond.methodLink RX7 146 yX7_isNought ∈ mv_T := mv_mem 931 rfl rfl
set_option maxRecDepth 20000 in
theorem lRX7_149 : Cond.methodLink RX7 149 yX7_putIn ∈ mv_T := mv_mem 935 rfl rfl
set_option maxRecDepth 20000 in
theorem lRX7_153 : Cond.methodLink RX7 153 yX7_goesOn ∈ mv_T := mv_mem 939 rfl rfl
set_option maxRecDepth 20000 in
theorem lRX7_168 : Cond.methodLink RX7 168 yX7_list ∈ mv_T := mv_mem 943 rfl rfl
set_option maxRecDepth 20000 in
theorem lRL_50 : Cond.methodLink RL 50 yX7_theta ∈ mv_T := mv_mem 947 rfl rfl
set_option maxRecDepth 20000 in
theorem lRX7_172 : Cond.methodLink RX7 172 yX7_many ∈ mv_T := mv_mem 951 rfl rfl
set_option maxRecDepth 20000 in
theorem lRL_54 : Cond.methodLink RL 54 yX7_row ∈ mv_T := mv_mem 955 rfl rfl
set_option maxRecDepth 20000 in
theorem lRL_59 : Cond.methodLink RL 59 yX7_size ∈ mv_T := mv_mem 959 rfl rfl
set_option maxRecDepth 20000 in
theorem lRL_42 : Cond.methodLink RL 42 yX7_about ∈ mv_T := mv_mem 963 rfl rfl
set_option maxRecDepth 20000 in
theorem lRX7_178 : Cond.methodLink RX7 178 yX7_search ∈ mv_T := mv_mem 968 rfl rfl
set_option maxRecDepth 20000 in
theorem lRX7_252 : Cond.methodLink RX7 252 yX7_meets ∈ mv_T := mv_mem 973 rfl rfl
set_option maxRecDepth 20000 in
theorem lRX7_182 : Cond.methodLink RX7 182 yX7_findShort ∈ mv_T := mv_mem 977 rfl rfl
set_option maxRecDepth 20000 in
theorem lRX7_187 : Cond.methodLink RX7 187 yX7_isPerfect ∈ mv_T := mv_mem 982 rfl rfl
set_option maxRecDepth 20000 in
theorem lRX7_228 : Cond.methodLink RX7 228 yX7_prime ∈ mv_T := mv_mem 986 rfl rfl
set_option maxRecDepth 20000 in
theorem lRX7_231 : Cond.methodLink RX7 231 yX7_rank ∈ mv_T := mv_mem 1003 rfl rfl
set_option maxRecDepth 20000 in
theorem lRX7_222 : Cond.methodLink RX7 222 yX7_modulo ∈ mv_T := mv_mem 1007 rfl rfl
set_option maxRecDepth 20000 in
theorem lRX7_225 : Cond.methodLink RX7 225 yX7_joins ∈ mv_T := mv_mem 1010 rfl rfl
set_option maxRecDepth 20000 in
theorem lRX7_218 : Cond.methodLink RX7 218 yX7_inverse ∈ mv_T := mv_mem 1014 rfl rfl
set_option maxRecDepth 20000 in
theorem lRL_64 : Cond.methodLink RL 64 yX7_reduce ∈ mv_T := mv_mem 1017 rfl rfl
set_option maxRecDepth 20000 in
theorem lRX7_235 : Cond.methodLink RX7 235 yX7_shortens ∈ mv_T := mv_mem 1021 rfl rfl
set_option maxRecDepth 20000 in
theorem lRX7_238 : Cond.methodLink RX7 238 yX7_order ∈ mv_T := mv_mem 1025 rfl rfl
set_option maxRecDepth 20000 in
theorem lRX7_247 : Cond.methodLink RX7 247 yX7_change ∈ mv_T := mv_mem 1029 rfl rfl
set_option maxRecDepth 20000 in
theorem lRX7_241 : Cond.methodLink RX7 241 yX7_keepWay ∈ mv_T := mv_mem 1033 rfl rfl
set_option maxRecDepth 20000 in
theorem lRL_68 : Cond.methodLink RL 68 yX7_same ∈ mv_T := mv_mem 1037 rfl rfl
set_option maxRecDepth 20000 in
theorem lRL_72 : Cond.methodLink RL 72 yX7_way ∈ mv_T := mv_mem 1041 rfl rfl
set_option maxRecDepth 20000 in
theorem lRL_77 : Cond.methodLink RL 77 yX7_wayWorth ∈ mv_T := mv_mem 1045 rfl rfl
set_option maxRecDepth 20000 in
theorem lRL_81 : Cond.methodLink RL 81 yX7_dual ∈ mv_T := mv_mem 1049 rfl rfl
set_option maxRecDepth 20000 in
theorem lRL_85 : Cond.methodLink RL 85 yX7_sum ∈ mv_T := mv_mem 1053 rfl rfl
set_option maxRecDepth 20000 in
theorem lRL_89 : Cond.methodLink RL 89 yX7_scale ∈ mv_T := mv_mem 1057 rfl rfl
set_option maxRecDepth 20000 in
theorem lRL_93 : Cond.methodLink RL 93 yX7_within ∈ mv_T := mv_mem 1061 rfl rfl
set_option maxRecDepth 20000 in
theorem lRL_101 : Cond.methodLink RL 101 yX7_denser ∈ mv_T := mv_mem 1065 rfl rfl
set_option maxRecDepth 20000 in
theorem lRX7_256 : Cond.methodLink RX7 256 yX7_power ∈ mv_T := mv_mem 1069 rfl rfl
set_option maxRecDepth 20000 in
theorem lRX7_260 : Cond.methodLink RX7 260 yX7_compare ∈ mv_T := mv_mem 1072 rfl rfl
set_option maxRecDepth 20000 in
theorem lRL_106 : Cond.methodLink RL 106 yX7_nearest ∈ mv_T := mv_mem 1075 rfl rfl
set_option maxRecDepth 20000 in
theorem lRX7_270 : Cond.methodLink RX7 270 yX7_down ∈ mv_T := mv_mem 1082 rfl rfl
set_option maxRecDepth 20000 in
theorem lRX7_273 : Cond.methodLink RX7 273 yX7_offSize ∈ mv_T := mv_mem 1085 rfl rfl
set_option maxRecDepth 20000 in
theorem lRL_110 : Cond.methodLink RL 110 yX7_told ∈ mv_T := mv_mem 1089 rfl rfl
set_option maxRecDepth 20000 in
theorem lRX1_32 : Cond.methodLink RX1 32 arraycopyName ∈ mv_T ∧ Cond.native arraycopyName ∈ mv_T ∧ Cond.static arraycopyName ∈ mv_T ∧ Cond.initialized "java/lang/System" ∈ mv_T := ⟨mv_mem 340 rfl rfl, mv_mem 342 rfl rfl, mv_mem 341 rfl rfl, mv_mem 60 rfl rfl⟩
set_option maxRecDepth 20000 in
theorem lRX4_58 : Cond.methodLink RX4 58 arraycopyName ∈ mv_T ∧ Cond.native arraycopyName ∈ mv_T ∧ Cond.static arraycopyName ∈ mv_T ∧ Cond.initialized "java/lang/System" ∈ mv_T := ⟨mv_mem 596 rfl rfl, mv_mem 342 rfl rfl, mv_mem 341 rfl rfl, mv_mem 60 rfl rfl⟩
