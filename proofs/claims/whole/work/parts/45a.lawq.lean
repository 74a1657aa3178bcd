theorem lq_cons {big : List Cond} {c : Cond} {b : List Cond} (h0 : GoodIn big [c]) (h : GoodIn big b) : GoodIn big (c :: b) := fun w q => (List.mem_cons.mp q).elim (fun e => h0 w (List.mem_cons.mpr (Or.inl e))) (h w)
set_option maxRecDepth 20000 in
theorem lqt_0 : ∀ w ∈ wsL_law_r1, w ∈ lw_tbl := fun w h => (goodIn_p _ [69, 72, 77] (by decide +kernel) (by decide +kernel) w h).1
set_option maxRecDepth 20000 in
theorem lqt_1 : ∀ w ∈ wsL_law_r2, w ∈ lw_tbl := fun w h => (goodIn_p _ [83] (by decide +kernel) (by decide +kernel) w h).1
set_option maxRecDepth 20000 in
theorem lqt_2 : ∀ w ∈ wsL_law_r3, w ∈ lw_tbl := fun w h => (goodIn_p _ [90, 140, 146] (by decide +kernel) (by decide +kernel) w h).1
set_option maxRecDepth 20000 in
theorem lqt_3 : ∀ w ∈ wsL_law_r4, w ∈ lw_tbl := fun w h => (goodIn_p _ [175, 251, 698] (by decide +kernel) (by decide +kernel) w h).1
set_option maxRecDepth 20000 in
theorem lqt_4 : ∀ w ∈ wsL_law_r5, w ∈ lw_tbl := fun w h => (goodIn_p _ [290, 293, 298, 303, 307] (by decide +kernel) (by decide +kernel) w h).1
set_option maxRecDepth 20000 in
theorem lqt_5 : ∀ w ∈ wsL_law_r6, w ∈ lw_tbl := fun w h => (goodIn_p _ [750, 753, 758, 311] (by decide +kernel) (by decide +kernel) w h).1
set_option maxRecDepth 20000 in
theorem lqt_6 : ∀ w ∈ wsL_law_r7, w ∈ lw_tbl := fun w h => (goodIn_p _ [317, 321, 326, 762, 766, 771] (by decide +kernel) (by decide +kernel) w h).1
set_option maxRecDepth 20000 in
theorem lqt_7 : ∀ w ∈ wsL_law_r8, w ∈ lw_tbl := fun w h => (goodIn_p _ [775, 331, 335, 779, 339] (by decide +kernel) (by decide +kernel) w h).1
set_option maxRecDepth 20000 in
theorem lqt_8 : ∀ w ∈ wsL_law_r9, w ∈ lw_tbl := fun w h => (goodIn_p _ [343, 783, 787, 347, 792] (by decide +kernel) (by decide +kernel) w h).1
set_option maxRecDepth 20000 in
theorem lqt_9 : ∀ w ∈ wsL_law_r10, w ∈ lw_tbl := fun w h => (goodIn_p _ [352, 355, 358, 366, 370, 796] (by decide +kernel) (by decide +kernel) w h).1
set_option maxRecDepth 20000 in
theorem lqt_10 : ∀ w ∈ wsL_law_r11, w ∈ lw_tbl := fun w h => (goodIn_p _ [800, 376, 380, 804, 385] (by decide +kernel) (by decide +kernel) w h).1
set_option maxRecDepth 20000 in
theorem lqt_11 : ∀ w ∈ wsL_law_r12, w ∈ lw_tbl := fun w h => (goodIn_p _ [389, 808, 393, 397, 401] (by decide +kernel) (by decide +kernel) w h).1
set_option maxRecDepth 20000 in
theorem lqt_12 : ∀ w ∈ wsL_law_r13, w ∈ lw_tbl := fun w h => (goodIn_p _ [405, 812, 816, 820, 824, 828] (by decide +kernel) (by decide +kernel) w h).1
set_option maxRecDepth 20000 in
theorem lqt_13 : ∀ w ∈ wsL_law_r14, w ∈ lw_tbl := fun w h => (goodIn_p _ [409, 832, 414, 420] (by decide +kernel) (by decide +kernel) w h).1
set_option maxRecDepth 20000 in
theorem lqt_14 : ∀ w ∈ wsL_law_r15, w ∈ lw_tbl := fun w h => (goodIn_p _ [424, 427, 431, 436, 439, 836] (by decide +kernel) (by decide +kernel) w h).1
set_option maxRecDepth 20000 in
theorem lqt_15 : ∀ w ∈ wsL_law_r16, w ∈ lw_tbl := fun w h => (goodIn_p _ [840, 845, 443, 447, 849, 451] (by decide +kernel) (by decide +kernel) w h).1
set_option maxRecDepth 20000 in
theorem lqt_16 : ∀ w ∈ wsL_law_r17, w ∈ lw_tbl := fun w h => (goodIn_p _ [455, 459] (by decide +kernel) (by decide +kernel) w h).1
set_option maxRecDepth 20000 in
theorem lqt_17 : ∀ w ∈ wsL_law_r18, w ∈ lw_tbl := fun w h => (goodIn_p _ [463, 853, 857, 861, 864, 467] (by decide +kernel) (by decide +kernel) w h).1
set_option maxRecDepth 20000 in
theorem lqt_18 : ∀ w ∈ wsL_law_r19, w ∈ lw_tbl := fun w h => (goodIn_p _ [471, 475, 479, 483] (by decide +kernel) (by decide +kernel) w h).1
set_option maxRecDepth 20000 in
theorem lqt_19 : ∀ w ∈ wsL_law_r20, w ∈ lw_tbl := fun w h => (goodIn_p _ [487, 491, 495, 500, 506] (by decide +kernel) (by decide +kernel) w h).1
set_option maxRecDepth 20000 in
theorem lqt_20 : ∀ w ∈ wsL_law_r21, w ∈ lw_tbl := fun w h => (goodIn_p _ [510, 514, 519, 523, 528] (by decide +kernel) (by decide +kernel) w h).1
set_option maxRecDepth 20000 in
theorem lqt_21 : ∀ w ∈ wsL_law_r22, w ∈ lw_tbl := fun w h => (goodIn_p _ [533, 537, 541, 545, 549, 552] (by decide +kernel) (by decide +kernel) w h).1
set_option maxRecDepth 20000 in
theorem lqt_22 : ∀ w ∈ wsL_law_r23, w ∈ lw_tbl := fun w h => (goodIn_p _ [556, 560, 564, 569, 573, 577] (by decide +kernel) (by decide +kernel) w h).1
set_option maxRecDepth 20000 in
theorem lqt_23 : ∀ w ∈ wsL_law_r24, w ∈ lw_tbl := fun w h => (goodIn_p _ [581, 585, 590, 594, 868] (by decide +kernel) (by decide +kernel) w h).1
set_option maxRecDepth 20000 in
theorem lqt_24 : ∀ w ∈ wsL_law_r25, w ∈ lw_tbl := fun w h => (goodIn_p _ [872, 876, 880, 884, 888, 892] (by decide +kernel) (by decide +kernel) w h).1
set_option maxRecDepth 20000 in
theorem lqt_25 : ∀ w ∈ wsL_law_r26, w ∈ lw_tbl := fun w h => (goodIn_p _ [896, 900, 904, 908, 912, 916] (by decide +kernel) (by decide +kernel) w h).1
set_option maxRecDepth 20000 in
theorem lqt_26 : ∀ w ∈ wsL_law_r27, w ∈ lw_tbl := fun w h => (goodIn_p _ [920, 924, 598, 602, 928, 932] (by decide +kernel) (by decide +kernel) w h).1
set_option maxRecDepth 20000 in
theorem lqt_27 : ∀ w ∈ wsL_law_r28, w ∈ lw_tbl := fun w h => (goodIn_p _ [607, 612, 936, 940, 616] (by decide +kernel) (by decide +kernel) w h).1
set_option maxRecDepth 20000 in
theorem lqt_28 : ∀ w ∈ wsL_law_r29, w ∈ lw_tbl := fun w h => (goodIn_p _ [944, 948, 623, 627, 631] (by decide +kernel) (by decide +kernel) w h).1
set_option maxRecDepth 20000 in
theorem lqt_29 : ∀ w ∈ wsL_law_r30, w ∈ lw_tbl := fun w h => (goodIn_p _ [635, 641, 645, 649, 653] (by decide +kernel) (by decide +kernel) w h).1
set_option maxRecDepth 20000 in
theorem lqt_30 : ∀ w ∈ wsL_law_r31, w ∈ lw_tbl := fun w h => (goodIn_p _ [952, 956, 960, 964, 657] (by decide +kernel) (by decide +kernel) w h).1
set_option maxRecDepth 20000 in
theorem lqt_31 : ∀ w ∈ wsL_law_r32, w ∈ lw_tbl := fun w h => (goodIn_p _ [968, 661, 972, 665, 976, 669] (by decide +kernel) (by decide +kernel) w h).1
set_option maxRecDepth 20000 in
theorem lqt_32 : ∀ w ∈ wsL_law_r33, w ∈ lw_tbl := fun w h => (goodIn_p _ [674, 677, 682, 690] (by decide +kernel) (by decide +kernel) w h).1
set_option maxRecDepth 20000 in
theorem lqt_33 : ∀ w ∈ wsL_law_r34, w ∈ lw_tbl := fun w h => (goodIn_p _ [980, 984] (by decide +kernel) (by decide +kernel) w h).1
set_option maxRecDepth 20000 in
theorem lqt_34 : ∀ w ∈ wsX70, w ∈ lw_tbl := fun w h => (goodIn_p _ [] (by decide +kernel) (by decide +kernel) w h).1
set_option maxRecDepth 20000 in
theorem lqt_35 : ∀ w ∈ wsX80, w ∈ lw_tbl := fun w h => (goodIn_p _ [] (by decide +kernel) (by decide +kernel) w h).1
set_option maxRecDepth 20000 in
theorem lqt_36 : ∀ w ∈ wsX40, w ∈ lw_tbl := fun w h => (goodIn_p _ [] (by decide +kernel) (by decide +kernel) w h).1
set_option maxRecDepth 20000 in
theorem lqt_37 : ∀ w ∈ wsX10, w ∈ lw_tbl := fun w h => (goodIn_p _ [] (by decide +kernel) (by decide +kernel) w h).1
set_option maxRecDepth 20000 in
theorem lqt_38 : ∀ w ∈ wsX60, w ∈ lw_tbl := fun w h => (goodIn_p _ [] (by decide +kernel) (by decide +kernel) w h).1
set_option maxRecDepth 20000 in
theorem lqt_39 : ∀ w ∈ wsX50, w ∈ lw_tbl := fun w h => (goodIn_p _ [] (by decide +kernel) (by decide +kernel) w h).1
set_option maxRecDepth 20000 in
theorem lqt_40 : ∀ w ∈ wsX30, w ∈ lw_tbl := fun w h => (goodIn_p _ [] (by decide +kernel) (by decide +kernel) w h).1
set_option maxRecDepth 20000 in
theorem lqt_41 : ∀ w ∈ wsX00, w ∈ lw_tbl := fun w h => (goodIn_p _ [] (by decide +kernel) (by decide +kernel) w h).1
set_option maxRecDepth 20000 in
theorem lqt_42 : ∀ w ∈ wsX20, w ∈ lw_tbl := fun w h => (goodIn_p _ [] (by decide +kernel) (by decide +kernel) w h).1
set_option maxRecDepth 20000 in
theorem lqt_43 : ∀ w ∈ ([] : List Cond), w ∈ lw_tbl := fun w h => (goodIn_p _ [] (by decide +kernel) (by decide +kernel) w h).1
set_option maxRecDepth 20000 in
theorem lq_1 : GoodIn wsL_law ([.code yX7_init cX7_init 1 none] : List Cond) := goodIn_r _ [8] (by decide +kernel) (by decide +kernel)
set_option maxRecDepth 20000 in
theorem lq_2 : GoodIn wsL_law (wsX7_init_r1 : List Cond) := goodIn_r _ [9, 10, 11, 12, 13, 14, 15, 16, 17, 18, 19, 20, 21, 22, 23, 24, 25, 26, 27, 28, 29, 30, 31, 32] (by decide +kernel) (by decide +kernel)
set_option maxRecDepth 20000 in
theorem lq_3 : GoodIn wsL_law (wsX7_init_r2 : List Cond) := goodIn_r _ [33, 34, 35, 36, 37, 38, 39, 40, 41, 42, 43, 44, 45, 46, 47, 48, 49, 50, 51, 52, 53, 54, 55, 56] (by decide +kernel) (by decide +kernel)
set_option maxRecDepth 20000 in
theorem lq_4 : GoodIn wsL_law (wsX7_init_r3 : List Cond) := goodIn_r _ [57, 58, 59, 60, 61, 62, 63, 64, 65, 66, 67, 68, 69, 70, 71, 72, 73, 74, 75, 76, 77, 78, 79] (by decide +kernel) (by decide +kernel)
set_option maxRecDepth 20000 in
theorem lq_5 : GoodIn wsL_law (wsX40 : List Cond) := goodIn_r _ [817, 818] (by decide +kernel) (by decide +kernel)
set_option maxRecDepth 20000 in
theorem lq_6 : GoodIn wsL_law (wsX70 : List Cond) := goodIn_r _ [798, 799, 800, 801] (by decide +kernel) (by decide +kernel)
set_option maxRecDepth 20000 in
theorem lq_7 : GoodIn wsL_law (wsX10 : List Cond) := goodIn_r _ [819, 820, 821, 822, 823, 824] (by decide +kernel) (by decide +kernel)
set_option maxRecDepth 20000 in
theorem lq_8 : GoodIn wsL_law (wsX60 : List Cond) := goodIn_r _ [825, 826, 827, 828, 829] (by decide +kernel) (by decide +kernel)
set_option maxRecDepth 20000 in
theorem lq_9 : GoodIn wsL_law (wsX50 : List Cond) := goodIn_r _ [830, 831, 832, 833, 834, 835, 836, 837, 838, 839, 840, 841] (by decide +kernel) (by decide +kernel)
set_option maxRecDepth 20000 in
theorem lq_10 : GoodIn wsL_law (wsX30 : List Cond) := goodIn_r _ [842, 843, 844, 845] (by decide +kernel) (by decide +kernel)
set_option maxRecDepth 20000 in
theorem lq_11 : GoodIn wsL_law (wsX00 : List Cond) := goodIn_r _ [846, 847, 848, 849, 850, 851] (by decide +kernel) (by decide +kernel)
set_option maxRecDepth 20000 in
theorem lq_12 : GoodIn wsL_law (wsX20 : List Cond) := goodIn_r _ [852, 853, 854] (by decide +kernel) (by decide +kernel)
set_option maxRecDepth 20000 in
theorem lq_13 : GoodIn wsL_law ([.code yX8_init cX8_init 2 none] : List Cond) := goodIn_r _ [82] (by decide +kernel) (by decide +kernel)
set_option maxRecDepth 20000 in
theorem lq_14 : GoodIn wsL_law ([.methodLink RX8 1 objectInit, .instanceMethod objectInit, .code objectInit ⟨#[0xb1]⟩ 1 none, .arrayClass .int, .fieldLink RX8 7 "ReelChangerModel" "v" "[I", .fieldLink RX8 13 "ReelChangerModel" "spare" "[I", .fieldLink RX8 16 "ReelChangerModel" "kept" "[I", .arrayClass .boolean, .fieldLink RX8 19 "ReelChangerModel" "isKept" "[Z", .fieldLink RX8 23 "ReelChangerModel" "lows" "[I", .fieldLink RX8 26 "ReelChangerModel" "highs" "[I", .fieldLink RX8 29 "ReelChangerModel" "firsts" "[I", .fieldLink RX8 32 "ReelChangerModel" "text" "[I", .fieldLink RX8 35 "ReelChangerModel" "isFilled" "[Z", .fieldLink RX8 38 "ReelChangerModel" "begins" "[I", .fieldLink RX8 41 "ReelChangerModel" "times" "[I", .fieldLink RX8 44 "ReelChangerModel" "told" "[I"] : List Cond) := goodIn_r _ [83, 10, 11, 39, 84, 85, 86, 87, 88, 89, 90, 91, 92, 93, 94, 95, 96] (by decide +kernel) (by decide +kernel)
set_option maxRecDepth 20000 in
theorem lq_15 : GoodIn wsL_law (wsX80 : List Cond) := goodIn_r _ [802, 803, 804, 805, 806, 807, 808, 809, 810, 811, 812, 813, 814, 815, 816] (by decide +kernel) (by decide +kernel)
set_option maxRecDepth 20000 in
theorem lq_16 : GoodIn wsL_law ([.code yX7_makeReel cX7_makeReel 2 (some .int)] : List Cond) := goodIn_r _ [100] (by decide +kernel) (by decide +kernel)
set_option maxRecDepth 20000 in
theorem lq_17 : GoodIn wsL_law (wsX7_makeReel_r1 : List Cond) := goodIn_r _ [101, 15, 102, 103, 104, 2, 105, 106, 107, 108, 27, 109, 110, 111, 112, 113, 114, 115, 38, 116, 117, 118, 43, 119] (by decide +kernel) (by decide +kernel)
set_option maxRecDepth 20000 in
theorem lq_18 : GoodIn wsL_law (wsX7_makeReel_r2 : List Cond) := goodIn_r _ [120, 121] (by decide +kernel) (by decide +kernel)
set_option maxRecDepth 20000 in
theorem lq_19 : GoodIn wsL_law ([.code yX8_makeReel cX8_makeReel 3 (some .int)] : List Cond) := goodIn_r _ [125] (by decide +kernel) (by decide +kernel)
set_option maxRecDepth 20000 in
theorem lq_20 : GoodIn wsL_law ([.constant RX8 51 (-100002), .fieldLink RX8 7 "ReelChangerModel" "v" "[I", .constant RX8 52 (-100004), .methodLink RX8 47 yX8_in, .static yX8_in, .initialized RX8, .code yX8_in cX8_in 3 (some .boolean), .methodLink RX8 53 yX8_at, .static yX8_at, .code yX8_at cX8_at 2 (some .int)] : List Cond) := goodIn_r _ [126, 84, 127, 128, 129, 5, 130, 131, 132, 133] (by decide +kernel) (by decide +kernel)
set_option maxRecDepth 20000 in
theorem lq_21 : GoodIn wsL_law ([.code yX7_splice cX7_splice 5 (some .int)] : List Cond) := goodIn_r _ [137] (by decide +kernel) (by decide +kernel)
set_option maxRecDepth 20000 in
theorem lq_22 : GoodIn wsL_law (wsX7_splice_r1 : List Cond) := goodIn_r _ [15, 102, 138, 139, 101, 140, 113, 114, 27, 115, 110, 38, 103, 104, 2, 105, 141, 142, 143, 43, 144, 53, 121, 145] (by decide +kernel) (by decide +kernel)
set_option maxRecDepth 20000 in
theorem lq_23 : GoodIn wsL_law (wsX7_splice_r2 : List Cond) := goodIn_r _ [52, 146, 147, 148, 149, 150, 151, 152, 153, 154] (by decide +kernel) (by decide +kernel)
set_option maxRecDepth 20000 in
theorem lq_24 : GoodIn wsL_law ([.code yX8_splice cX8_splice 7 (some .int)] : List Cond) := goodIn_r _ [158] (by decide +kernel) (by decide +kernel)
set_option maxRecDepth 20000 in
theorem lq_25 : GoodIn wsL_law ([.constant RX8 64 (-100001), .fieldLink RX8 7 "ReelChangerModel" "v" "[I", .constant RX8 51 (-100002), .constant RX8 52 (-100004), .methodLink RX8 60 yX8_isReel, .instanceMethod yX8_isReel, .selects RX8 yX8_isReel yX8_isReel, .initialized RX8, .code yX8_isReel cX8_isReel 2 (some .boolean), .methodLink RX8 47 yX8_in, .static yX8_in, .code yX8_in cX8_in 3 (some .boolean), .methodLink RX8 53 yX8_at, .static yX8_at, .code yX8_at cX8_at 2 (some .int), .methodLink RX8 57 yX8_spliceFrom, .instanceMethod yX8_spliceFrom, .selects RX8 yX8_spliceFrom yX8_spliceFrom, .code yX8_spliceFrom cX8_spliceFrom 4 (some .int), .methodLink RX8 65 yX8_strengthAt, .instanceMethod yX8_strengthAt, .selects RX8 yX8_strengthAt yX8_strengthAt, .code yX8_strengthAt cX8_strengthAt 4 (some .int)] : List Cond) := goodIn_r _ [159, 84, 126, 127, 160, 161, 162, 5, 163, 128, 129, 130, 131, 132, 133, 164, 165, 166, 167, 168, 169, 170, 171] (by decide +kernel) (by decide +kernel)
set_option maxRecDepth 20000 in
theorem lq_26 : GoodIn wsL_law ([.code yX7_mend cX7_mend 4 (some .int)] : List Cond) := goodIn_r _ [175] (by decide +kernel) (by decide +kernel)
set_option maxRecDepth 20000 in
theorem lq_27 : GoodIn wsL_law ([.fieldLink RX7 10 "ReelChanger" "room" "LReelChanger$Room;", .fieldLink RX7 35 "ReelChanger$Room" "stock" "LReelChanger$Stock;", .constant RX7 49 (-100001), .constant RX7 34 (-100002), .methodLink RX7 45 yX6_reelNumbered, .instanceMethod yX6_reelNumbered, .selects RX6 yX6_reelNumbered yX6_reelNumbered, .initialized RX6, .code yX6_reelNumbered cX6_reelNumbered 2 (some (.object "ReelChanger$Reel")), .fieldLink RX6 34 "ReelChanger$Stock" "reelCount" "I", .fieldLink RX6 13 "ReelChanger$Stock" "reels" "[LReelChanger$Reel;", .methodLink RX7 30 yX7_isWithin, .static yX7_isWithin, .initialized RX7, .code yX7_isWithin cX7_isWithin 3 (some .boolean), .methodLink RX7 60 yX3_removeWeaker, .instanceMethod yX3_removeWeaker, .selects RX3 yX3_removeWeaker yX3_removeWeaker, .initialized RX3, .code yX3_removeWeaker cX3_removeWeaker 5 (some .int), .fieldLink RX3 22 "ReelChanger$Reel" "spliceCount" "I", .fieldLink RX3 15 "ReelChanger$Reel" "strengths" "[I", .fieldLink RX3 11 "ReelChanger$Reel" "frames" "[I"] : List Cond) := goodIn_r _ [15, 102, 138, 101, 140, 113, 114, 27, 115, 110, 38, 103, 104, 2, 105, 176, 177, 178, 43, 179, 121, 53, 52] (by decide +kernel) (by decide +kernel)
set_option maxRecDepth 20000 in
theorem lq_28 : GoodIn wsL_law ([.code yX8_mend cX8_mend 6 (some .int)] : List Cond) := goodIn_r _ [183] (by decide +kernel) (by decide +kernel)
set_option maxRecDepth 20000 in
theorem lq_29 : GoodIn wsL_law ([.constant RX8 64 (-100001), .constant RX8 51 (-100002), .fieldLink RX8 7 "ReelChangerModel" "v" "[I", .methodLink RX8 60 yX8_isReel, .instanceMethod yX8_isReel, .selects RX8 yX8_isReel yX8_isReel, .initialized RX8, .code yX8_isReel cX8_isReel 2 (some .boolean), .methodLink RX8 47 yX8_in, .static yX8_in, .code yX8_in cX8_in 3 (some .boolean), .methodLink RX8 53 yX8_at, .static yX8_at, .code yX8_at cX8_at 2 (some .int)] : List Cond) := goodIn_r _ [159, 126, 84, 160, 161, 162, 5, 163, 128, 129, 130, 131, 132, 133] (by decide +kernel) (by decide +kernel)
set_option maxRecDepth 20000 in
theorem lq_30 : GoodIn wsL_law ([.code yX7_reel cX7_reel 4 (some .int)] : List Cond) := goodIn_r _ [187] (by decide +kernel) (by decide +kernel)
set_option maxRecDepth 20000 in
theorem lq_31 : GoodIn wsL_law ([.fieldLink RX7 10 "ReelChanger" "room" "LReelChanger$Room;", .fieldLink RX7 35 "ReelChanger$Room" "stock" "LReelChanger$Stock;", .constant RX7 49 (-100001), .fieldLink RX7 50 "ReelChanger$Reel" "length" "I", .fieldLink RX7 63 "ReelChanger$Reel" "spliceCount" "I", .constant RX7 34 (-100002), .methodLink RX7 45 yX6_reelNumbered, .instanceMethod yX6_reelNumbered, .selects RX6 yX6_reelNumbered yX6_reelNumbered, .initialized RX6, .code yX6_reelNumbered cX6_reelNumbered 2 (some (.object "ReelChanger$Reel")), .fieldLink RX6 34 "ReelChanger$Stock" "reelCount" "I", .fieldLink RX6 13 "ReelChanger$Stock" "reels" "[LReelChanger$Reel;", .methodLink RX7 66 yX3_leastStrength, .instanceMethod yX3_leastStrength, .selects RX3 yX3_leastStrength yX3_leastStrength, .initialized RX3, .code yX3_leastStrength cX3_leastStrength 3 (some .int), .constant RX3 31 (-100005), .fieldLink RX3 22 "ReelChanger$Reel" "spliceCount" "I", .fieldLink RX3 15 "ReelChanger$Reel" "strengths" "[I"] : List Cond) := goodIn_r _ [15, 102, 138, 139, 188, 101, 140, 113, 114, 27, 115, 110, 38, 189, 190, 191, 43, 192, 150, 121, 53] (by decide +kernel) (by decide +kernel)
set_option maxRecDepth 20000 in
theorem lq_32 : GoodIn wsL_law ([.code yX8_reel cX8_reel 3 (some .int)] : List Cond) := goodIn_r _ [196] (by decide +kernel) (by decide +kernel)
set_option maxRecDepth 20000 in
theorem lq_33 : GoodIn wsL_law ([.constant RX8 64 (-100001), .constant RX8 51 (-100002), .fieldLink RX8 7 "ReelChangerModel" "v" "[I", .methodLink RX8 60 yX8_isReel, .instanceMethod yX8_isReel, .selects RX8 yX8_isReel yX8_isReel, .initialized RX8, .code yX8_isReel cX8_isReel 2 (some .boolean), .methodLink RX8 47 yX8_in, .static yX8_in, .code yX8_in cX8_in 3 (some .boolean), .methodLink RX8 53 yX8_at, .static yX8_at, .code yX8_at cX8_at 2 (some .int), .methodLink RX8 69 yX8_weakest, .instanceMethod yX8_weakest, .selects RX8 yX8_weakest yX8_weakest, .code yX8_weakest cX8_weakest 5 (some .int), .constant RX8 68 (-100005)] : List Cond) := goodIn_r _ [159, 126, 84, 160, 161, 162, 5, 163, 128, 129, 130, 131, 132, 133, 197, 198, 199, 200, 201] (by decide +kernel) (by decide +kernel)
set_option maxRecDepth 20000 in
theorem lq_34 : GoodIn wsL_law ([.code yX7_spliceAt cX7_spliceAt 5 (some .int)] : List Cond) := goodIn_r _ [205] (by decide +kernel) (by decide +kernel)
set_option maxRecDepth 20000 in
theorem lq_35 : GoodIn wsL_law ([.fieldLink RX7 10 "ReelChanger" "room" "LReelChanger$Room;", .fieldLink RX7 35 "ReelChanger$Room" "stock" "LReelChanger$Stock;", .constant RX7 49 (-100001), .fieldLink RX7 74 "ReelChanger$Reel" "strengths" "[I", .fieldLink RX7 78 "ReelChanger$Reel" "frames" "[I", .methodLink RX7 45 yX6_reelNumbered, .instanceMethod yX6_reelNumbered, .selects RX6 yX6_reelNumbered yX6_reelNumbered, .initialized RX6, .code yX6_reelNumbered cX6_reelNumbered 2 (some (.object "ReelChanger$Reel")), .fieldLink RX6 34 "ReelChanger$Stock" "reelCount" "I", .fieldLink RX6 13 "ReelChanger$Stock" "reels" "[LReelChanger$Reel;", .methodLink RX7 70 yX3_hasSplice, .instanceMethod yX3_hasSplice, .selects RX3 yX3_hasSplice yX3_hasSplice, .initialized RX3, .code yX3_hasSplice cX3_hasSplice 2 (some .boolean), .fieldLink RX3 22 "ReelChanger$Reel" "spliceCount" "I"] : List Cond) := goodIn_r _ [15, 102, 138, 206, 207, 140, 113, 114, 27, 115, 110, 38, 208, 152, 153, 43, 154, 121] (by decide +kernel) (by decide +kernel)
set_option maxRecDepth 20000 in
theorem lq_36 : GoodIn wsL_law ([.code yX8_spliceAt cX8_spliceAt 4 (some .int)] : List Cond) := goodIn_r _ [212] (by decide +kernel) (by decide +kernel)
set_option maxRecDepth 20000 in
theorem lq_37 : GoodIn wsL_law ([.fieldLink RX8 7 "ReelChangerModel" "v" "[I", .constant RX8 64 (-100001), .methodLink RX8 60 yX8_isReel, .instanceMethod yX8_isReel, .selects RX8 yX8_isReel yX8_isReel, .initialized RX8, .code yX8_isReel cX8_isReel 2 (some .boolean), .methodLink RX8 47 yX8_in, .static yX8_in, .code yX8_in cX8_in 3 (some .boolean), .methodLink RX8 53 yX8_at, .static yX8_at, .code yX8_at cX8_at 2 (some .int)] : List Cond) := goodIn_r _ [84, 159, 160, 161, 162, 5, 163, 128, 129, 130, 131, 132, 133] (by decide +kernel) (by decide +kernel)
set_option maxRecDepth 20000 in
theorem lq_38 : GoodIn wsL_law ([.code yX7_set cX7_set 4 (some .int)] : List Cond) := goodIn_r _ [216] (by decide +kernel) (by decide +kernel)
set_option maxRecDepth 20000 in
theorem lq_39 : GoodIn wsL_law (wsX7_set_r1 : List Cond) := goodIn_r _ [15, 102, 217, 218, 2, 219, 138, 101, 103, 104, 105, 220, 221, 27, 222, 223, 224, 225, 226, 227, 228, 40, 229, 230] (by decide +kernel) (by decide +kernel)
set_option maxRecDepth 20000 in
theorem lq_40 : GoodIn wsL_law (wsX7_set_r2 : List Cond) := goodIn_r _ [231, 232, 233, 234] (by decide +kernel) (by decide +kernel)
set_option maxRecDepth 20000 in
theorem lq_41 : GoodIn wsL_law ([.code yX8_set cX8_set 3 (some .int)] : List Cond) := goodIn_r _ [238] (by decide +kernel) (by decide +kernel)
set_option maxRecDepth 20000 in
theorem lq_42 : GoodIn wsL_law ([.constant RX8 64 (-100001), .fieldLink RX8 23 "ReelChangerModel" "lows" "[I", .fieldLink RX8 26 "ReelChangerModel" "highs" "[I", .constant RX8 51 (-100002), .methodLink RX8 47 yX8_in, .static yX8_in, .initialized RX8, .code yX8_in cX8_in 3 (some .boolean), .methodLink RX8 73 yX8_puts, .instanceMethod yX8_puts, .selects RX8 yX8_puts yX8_puts, .code yX8_puts cX8_puts 4 (some .int), .fieldLink RX8 7 "ReelChangerModel" "v" "[I"] : List Cond) := goodIn_r _ [159, 89, 90, 126, 128, 129, 5, 130, 239, 240, 241, 242, 84] (by decide +kernel) (by decide +kernel)
set_option maxRecDepth 20000 in
theorem lq_43 : GoodIn wsL_law ([.code yX7_append cX7_append 2 (some .int)] : List Cond) := goodIn_r _ [246] (by decide +kernel) (by decide +kernel)
set_option maxRecDepth 20000 in
theorem lq_44 : GoodIn wsL_law ([.constant RX7 34 (-100002), .fieldLink RX7 26 "ReelChanger" "text" "LReelChanger$ProgramText;", .methodLink RX7 30 yX7_isWithin, .static yX7_isWithin, .initialized RX7, .code yX7_isWithin cX7_isWithin 3 (some .boolean), .methodLink RX7 87 yX1_add, .instanceMethod yX1_add, .selects RX1 yX1_add yX1_add, .initialized RX1, .code yX1_add cX1_add 2 (some .int), .fieldLink RX1 23 "ReelChanger$ProgramText" "length" "I", .constant RX1 27 (-100004), .fieldLink RX1 17 "ReelChanger$ProgramText" "letters" "[I"] : List Cond) := goodIn_r _ [101, 21, 103, 104, 2, 105, 247, 248, 249, 20, 250, 251, 252, 78] (by decide +kernel) (by decide +kernel)
set_option maxRecDepth 20000 in
theorem lq_45 : GoodIn wsL_law ([.code yX8_append cX8_append 2 (some .int)] : List Cond) := goodIn_r _ [256] (by decide +kernel) (by decide +kernel)
set_option maxRecDepth 20000 in
theorem lq_46 : GoodIn wsL_law ([.constant RX8 51 (-100002), .fieldLink RX8 76 "ReelChangerModel" "length" "I", .constant RX8 52 (-100004), .fieldLink RX8 32 "ReelChangerModel" "text" "[I", .methodLink RX8 47 yX8_in, .static yX8_in, .initialized RX8, .code yX8_in cX8_in 3 (some .boolean)] : List Cond) := goodIn_r _ [126, 257, 127, 92, 128, 129, 5, 130] (by decide +kernel) (by decide +kernel)
set_option maxRecDepth 20000 in
theorem lq_47 : GoodIn wsL_law ([.code yX7_clearText cX7_clearText 1 (some .int)] : List Cond) := goodIn_r _ [261] (by decide +kernel) (by decide +kernel)
set_option maxRecDepth 20000 in
theorem lq_48 : GoodIn wsL_law ([.fieldLink RX7 26 "ReelChanger" "text" "LReelChanger$ProgramText;", .methodLink RX7 90 yX1_empty, .instanceMethod yX1_empty, .selects RX1 yX1_empty yX1_empty, .initialized RX1, .code yX1_empty cX1_empty 2 (some .int), .fieldLink RX1 23 "ReelChanger$ProgramText" "length" "I"] : List Cond) := goodIn_r _ [21, 262, 263, 264, 20, 265, 251] (by decide +kernel) (by decide +kernel)
set_option maxRecDepth 20000 in
theorem lq_49 : GoodIn wsL_law ([.code yX8_clearText cX8_clearText 2 (some .int)] : List Cond) := goodIn_r _ [269] (by decide +kernel) (by decide +kernel)
set_option maxRecDepth 20000 in
theorem lq_50 : GoodIn wsL_law ([.fieldLink RX8 76 "ReelChangerModel" "length" "I"] : List Cond) := goodIn_r _ [257] (by decide +kernel) (by decide +kernel)
set_option maxRecDepth 20000 in
theorem lq_51 : GoodIn wsL_law ([.code yX7_faultPosition cX7_faultPosition 1 (some .int)] : List Cond) := goodIn_r _ [273] (by decide +kernel) (by decide +kernel)
set_option maxRecDepth 20000 in
theorem lq_52 : GoodIn wsL_law ([.fieldLink RX7 26 "ReelChanger" "text" "LReelChanger$ProgramText;", .fieldLink RX7 10 "ReelChanger" "room" "LReelChanger$Room;", .fieldLink RX7 35 "ReelChanger$Room" "stock" "LReelChanger$Stock;", .fieldLink RX7 93 "ReelChanger$Stock" "reelCount" "I", .methodLink RX7 96 yX1_findFault, .instanceMethod yX1_findFault, .selects RX1 yX1_findFault yX1_findFault, .initialized RX1, .code yX1_findFault cX1_findFault 4 (some .int), .fieldLink RX1 28 "ReelChanger$ProgramText" "depth" "I", .fieldLink RX1 31 "ReelChanger$ProgramText" "standing" "I", .fieldLink RX1 23 "ReelChanger$ProgramText" "length" "I", .fieldLink RX1 17 "ReelChanger$ProgramText" "letters" "[I", .constant RX1 38 (-100005), .methodLink RX1 34 yX1_standingBehind, .instanceMethod yX1_standingBehind, .selects RX1 yX1_standingBehind yX1_standingBehind, .code yX1_standingBehind cX1_standingBehind 3 (some .int), .methodLink RX1 39 yX1_depthChange, .static yX1_depthChange, .code yX1_depthChange cX1_depthChange 1 (some .int)] : List Cond) := goodIn_r _ [21, 15, 102, 274, 275, 276, 277, 20, 278, 279, 280, 251, 78, 281, 282, 283, 284, 285, 286, 287, 288] (by decide +kernel) (by decide +kernel)
set_option maxRecDepth 20000 in
theorem lq_53 : GoodIn wsL_law ([.code yX8_faultPosition cX8_faultPosition 1 (some .int)] : List Cond) := goodIn_r _ [292] (by decide +kernel) (by decide +kernel)
set_option maxRecDepth 20000 in
theorem lq_54 : GoodIn wsL_law (wsX8_faultPosition_r1 : List Cond) := goodIn_r _ [201, 293, 294, 295, 296, 5, 297, 298, 257, 299, 300, 301, 302, 93, 303, 304, 305, 306, 92, 307, 308, 309, 310, 128] (by decide +kernel) (by decide +kernel)
set_option maxRecDepth 20000 in
theorem lq_55 : GoodIn wsL_law (wsX8_faultPosition_r2 : List Cond) := goodIn_r _ [129, 130, 160, 161, 162, 163, 84] (by decide +kernel) (by decide +kernel)
set_option maxRecDepth 20000 in
theorem lq_56 : GoodIn wsL_law ([.code yX7_faultDepth cX7_faultDepth 1 (some .int)] : List Cond) := goodIn_r _ [314] (by decide +kernel) (by decide +kernel)
set_option maxRecDepth 20000 in
theorem lq_57 : GoodIn wsL_law ([.fieldLink RX7 26 "ReelChanger" "text" "LReelChanger$ProgramText;", .fieldLink RX7 10 "ReelChanger" "room" "LReelChanger$Room;", .fieldLink RX7 35 "ReelChanger$Room" "stock" "LReelChanger$Stock;", .fieldLink RX7 93 "ReelChanger$Stock" "reelCount" "I", .constant RX7 99 (-100005), .fieldLink RX7 100 "ReelChanger$ProgramText" "depth" "I", .methodLink RX7 96 yX1_findFault, .instanceMethod yX1_findFault, .selects RX1 yX1_findFault yX1_findFault, .initialized RX1, .code yX1_findFault cX1_findFault 4 (some .int), .fieldLink RX1 28 "ReelChanger$ProgramText" "depth" "I", .fieldLink RX1 31 "ReelChanger$ProgramText" "standing" "I", .fieldLink RX1 23 "ReelChanger$ProgramText" "length" "I", .fieldLink RX1 17 "ReelChanger$ProgramText" "letters" "[I", .constant RX1 38 (-100005), .methodLink RX1 34 yX1_standingBehind, .instanceMethod yX1_standingBehind, .selects RX1 yX1_standingBehind yX1_standingBehind, .code yX1_standingBehind cX1_standingBehind 3 (some .int), .methodLink RX1 39 yX1_depthChange, .static yX1_depthChange, .code yX1_depthChange cX1_depthChange 1 (some .int)] : List Cond) := goodIn_r _ [21, 15, 102, 274, 315, 316, 275, 276, 277, 20, 278, 279, 280, 251, 78, 281, 282, 283, 284, 285, 286, 287, 288] (by decide +kernel) (by decide +kernel)
set_option maxRecDepth 20000 in
theorem lq_58 : GoodIn wsL_law ([.code yX8_faultDepth cX8_faultDepth 1 (some .int)] : List Cond) := goodIn_r _ [320] (by decide +kernel) (by decide +kernel)
set_option maxRecDepth 20000 in
theorem lq_59 : GoodIn wsL_law (wsX8_faultDepth_r1 : List Cond) := goodIn_r _ [201, 298, 294, 295, 296, 5, 297, 293, 257, 299, 300, 301, 302, 93, 303, 304, 305, 306, 92, 307, 308, 309, 310, 128] (by decide +kernel) (by decide +kernel)
set_option maxRecDepth 20000 in
theorem lq_60 : GoodIn wsL_law (wsX8_faultDepth_r2 : List Cond) := goodIn_r _ [129, 130, 160, 161, 162, 163, 84] (by decide +kernel) (by decide +kernel)
set_option maxRecDepth 20000 in
theorem lq_61 : GoodIn wsL_law ([.code yX7_setProgram cX7_setProgram 2 (some .int)] : List Cond) := goodIn_r _ [324] (by decide +kernel) (by decide +kernel)
set_option maxRecDepth 20000 in
theorem lq_62 : GoodIn wsL_law (wsX7_setProgram_r1 : List Cond) := goodIn_r _ [315, 15, 325, 326, 327, 21, 328, 102, 329, 330, 271, 272, 2, 273, 274, 275, 276, 277, 20, 278, 279, 280, 251, 78] (by decide +kernel) (by decide +kernel)
set_option maxRecDepth 20000 in
theorem lq_63 : GoodIn wsL_law (wsX7_setProgram_r2 : List Cond) := goodIn_r _ [281, 282, 283, 284, 285, 286, 287, 288, 331, 332, 333, 334, 252, 79, 335, 336, 337, 338, 339, 340, 341, 342, 77, 343] (by decide +kernel) (by decide +kernel)
set_option maxRecDepth 20000 in
theorem lq_64 : GoodIn wsL_law (wsX7_setProgram_r3 : List Cond) := goodIn_r _ [344, 345, 346, 347, 348, 349, 27, 350, 351, 352, 353, 354, 41] (by decide +kernel) (by decide +kernel)
set_option maxRecDepth 20000 in
theorem lq_65 : GoodIn wsL_law ([.code yX8_setProgram cX8_setProgram 3 (some .int)] : List Cond) := goodIn_r _ [358] (by decide +kernel) (by decide +kernel)
set_option maxRecDepth 20000 in
theorem lq_66 : GoodIn wsL_law (wsX8_setProgram_r1 : List Cond) := goodIn_r _ [359, 127, 84, 96, 294, 295, 296, 5, 297, 293, 298, 257, 299, 300, 301, 302, 93, 303, 304, 305, 306, 92, 307, 308] (by decide +kernel) (by decide +kernel)
set_option maxRecDepth 20000 in
theorem lq_67 : GoodIn wsL_law (wsX8_setProgram_r2 : List Cond) := goodIn_r _ [309, 310, 128, 129, 130, 160, 161, 162, 163, 360, 361, 362, 363, 364, 365, 366, 367, 94, 95] (by decide +kernel) (by decide +kernel)
set_option maxRecDepth 20000 in
theorem lq_68 : GoodIn wsL_law ([.code yX7_program cX7_program 2 (some .int)] : List Cond) := goodIn_r _ [371] (by decide +kernel) (by decide +kernel)
set_option maxRecDepth 20000 in
theorem lq_69 : GoodIn wsL_law ([.fieldLink RX7 10 "ReelChanger" "room" "LReelChanger$Room;", .fieldLink RX7 35 "ReelChanger$Room" "stock" "LReelChanger$Stock;", .methodLink RX7 128 yX6_numberAtPlace, .instanceMethod yX6_numberAtPlace, .selects RX6 yX6_numberAtPlace yX6_numberAtPlace, .initialized RX6, .code yX6_numberAtPlace cX6_numberAtPlace 2 (some .int), .fieldLink RX6 42 "ReelChanger$Stock" "placeCount" "I", .fieldLink RX6 21 "ReelChanger$Stock" "places" "[I", .constant RX6 64 (-100001)] : List Cond) := goodIn_r _ [15, 102, 372, 373, 374, 27, 375, 354, 41, 233] (by decide +kernel) (by decide +kernel)
set_option maxRecDepth 20000 in
theorem lq_70 : GoodIn wsL_law ([.code yX8_program cX8_program 2 (some .int)] : List Cond) := goodIn_r _ [379] (by decide +kernel) (by decide +kernel)
set_option maxRecDepth 20000 in
theorem lq_71 : GoodIn wsL_law ([.fieldLink RX8 7 "ReelChangerModel" "v" "[I", .constant RX8 64 (-100001), .methodLink RX8 47 yX8_in, .static yX8_in, .initialized RX8, .code yX8_in cX8_in 3 (some .boolean)] : List Cond) := goodIn_r _ [84, 159, 128, 129, 5, 130] (by decide +kernel) (by decide +kernel)
set_option maxRecDepth 20000 in
theorem lq_72 : GoodIn wsL_law ([.code yX7_begin cX7_begin 1 (some .int)] : List Cond) := goodIn_r _ [383] (by decide +kernel) (by decide +kernel)
set_option maxRecDepth 20000 in
theorem lq_73 : GoodIn wsL_law (wsX7_begin_r1 : List Cond) := goodIn_r _ [15, 102, 384, 327, 325, 385, 386, 387, 31, 388, 389, 390, 391, 392, 393, 394, 395, 396, 60, 64, 397, 398, 65, 399] (by decide +kernel) (by decide +kernel)
set_option maxRecDepth 20000 in
theorem lq_74 : GoodIn wsL_law (wsX7_begin_r2 : List Cond) := goodIn_r _ [400, 401, 402, 403, 59, 404, 405, 406, 407, 408, 409, 63, 410, 411, 412] (by decide +kernel) (by decide +kernel)
set_option maxRecDepth 20000 in
theorem lq_75 : GoodIn wsL_law ([.code yX8_begin cX8_begin 1 (some .int)] : List Cond) := goodIn_r _ [416] (by decide +kernel) (by decide +kernel)
set_option maxRecDepth 20000 in
theorem lq_76 : GoodIn wsL_law ([.fieldLink RX8 7 "ReelChangerModel" "v" "[I", .constant RX8 103 (-100003), .methodLink RX8 117 yX8_opens, .instanceMethod yX8_opens, .selects RX8 yX8_opens yX8_opens, .initialized RX8, .code yX8_opens cX8_opens 2 none, .methodLink RX8 113 yX8_comes, .instanceMethod yX8_comes, .selects RX8 yX8_comes yX8_comes, .code yX8_comes cX8_comes 2 none, .methodLink RX8 107 yX8_on, .static yX8_on, .code yX8_on cX8_on 2 (some .int)] : List Cond) := goodIn_r _ [84, 359, 417, 418, 419, 5, 420, 421, 422, 423, 424, 425, 426, 427] (by decide +kernel) (by decide +kernel)
set_option maxRecDepth 20000 in
theorem lq_77 : GoodIn wsL_law ([.code yX7_pass cX7_pass 2 (some .int)] : List Cond) := goodIn_r _ [431] (by decide +kernel) (by decide +kernel)
set_option maxRecDepth 20000 in
theorem lq_78 : GoodIn wsL_law (wsX7_pass_r1 : List Cond) := goodIn_r _ [101, 15, 325, 326, 327, 102, 103, 104, 2, 105, 432, 433, 434, 31, 435, 389, 436, 64, 65, 437, 438, 439, 440, 60] (by decide +kernel) (by decide +kernel)
set_option maxRecDepth 20000 in
theorem lq_79 : GoodIn wsL_law (wsX7_pass_r2 : List Cond) := goodIn_r _ [441, 442, 443, 444, 445, 59, 446, 405, 447, 448, 449, 450, 451, 452, 397, 399, 453, 454, 455, 456, 407, 408, 409, 63] (by decide +kernel) (by decide +kernel)
set_option maxRecDepth 20000 in
theorem lq_80 : GoodIn wsL_law (wsX7_pass_r3 : List Cond) := goodIn_r _ [410, 411, 412, 457, 458, 459, 460, 398, 461, 462, 352, 341, 353, 463, 464, 465, 27, 466, 467, 373, 374, 375, 354, 41] (by decide +kernel) (by decide +kernel)
set_option maxRecDepth 20000 in
theorem lq_81 : GoodIn wsL_law (wsX7_pass_r4 : List Cond) := goodIn_r _ [233, 112, 113, 114, 115, 110, 38, 468, 469, 470, 43, 471, 53, 146, 147, 148, 149, 121, 52, 150, 151, 152, 153, 154] (by decide +kernel) (by decide +kernel)
set_option maxRecDepth 20000 in
theorem lq_82 : GoodIn wsL_law (wsX7_pass_r5 : List Cond) := goodIn_r _ [472, 230, 231, 232, 40, 473, 474, 475, 476, 477, 478, 479, 480, 481, 482, 69, 483, 484, 485, 486, 406, 487, 488, 489] (by decide +kernel) (by decide +kernel)
set_option maxRecDepth 20000 in
theorem lq_83 : GoodIn wsL_law (wsX7_pass_r6 : List Cond) := goodIn_r _ [490, 491, 70, 492, 493, 494, 495, 496, 497, 498, 499, 500, 501, 502, 46, 47, 48, 503, 504, 505, 506, 395, 507, 508] (by decide +kernel) (by decide +kernel)
set_option maxRecDepth 20000 in
theorem lq_84 : GoodIn wsL_law (wsX7_pass_r7 : List Cond) := goodIn_r _ [509, 510, 393, 511, 512, 513, 514, 515, 516, 517, 518, 396, 519, 520, 521, 522, 523, 524, 525, 526, 527, 528, 529, 530] (by decide +kernel) (by decide +kernel)
set_option maxRecDepth 20000 in
theorem lq_85 : GoodIn wsL_law (wsX7_pass_r8 : List Cond) := goodIn_r _ [531, 532, 533, 534, 394, 535, 536, 537, 538, 539, 340, 342, 540, 541, 542, 543, 544, 545, 546, 547, 400, 548, 549, 550] (by decide +kernel) (by decide +kernel)
set_option maxRecDepth 20000 in
theorem lq_86 : GoodIn wsL_law (wsX7_pass_r9 : List Cond) := goodIn_r _ [551, 552, 553, 554, 555, 556, 557, 558, 559, 560, 561, 562, 563, 564, 392, 565, 566, 567, 568, 390, 391] (by decide +kernel) (by decide +kernel)
set_option maxRecDepth 20000 in
theorem lq_87 : GoodIn wsL_law ([.code yX8_pass cX8_pass 2 (some .int)] : List Cond) := goodIn_r _ [572] (by decide +kernel) (by decide +kernel)
set_option maxRecDepth 20000 in
theorem lq_88 : GoodIn wsL_law (wsX8_pass_r1 : List Cond) := goodIn_r _ [126, 359, 128, 129, 5, 130, 360, 361, 362, 363, 84, 573, 574, 575, 576, 577, 578, 579, 580, 581, 582, 583, 584, 585] (by decide +kernel) (by decide +kernel)
set_option maxRecDepth 20000 in
theorem lq_89 : GoodIn wsL_law (wsX8_pass_r2 : List Cond) := goodIn_r _ [586, 587, 588, 425, 426, 427, 421, 422, 423, 424, 589, 590, 591, 592, 593, 594, 595, 596, 131, 132, 133, 168, 169, 170] (by decide +kernel) (by decide +kernel)
set_option maxRecDepth 20000 in
theorem lq_90 : GoodIn wsL_law (wsX8_pass_r3 : List Cond) := goodIn_r _ [171, 164, 165, 166, 167, 597, 598, 599, 600, 601, 602, 603, 604, 605, 606, 607, 608, 609, 610, 611, 612, 613, 614, 615] (by decide +kernel) (by decide +kernel)
set_option maxRecDepth 20000 in
theorem lq_91 : GoodIn wsL_law (wsX8_pass_r4 : List Cond) := goodIn_r _ [616, 617, 618, 619, 620, 621, 622, 623, 624, 625, 626, 627, 628] (by decide +kernel) (by decide +kernel)
set_option maxRecDepth 20000 in
theorem lq_92 : GoodIn wsL_law ([.code yX7_tell cX7_tell 2 (some .int)] : List Cond) := goodIn_r _ [632] (by decide +kernel) (by decide +kernel)
set_option maxRecDepth 20000 in
theorem lq_93 : GoodIn wsL_law ([.fieldLink RX7 10 "ReelChanger" "room" "LReelChanger$Room;", .fieldLink RX7 106 "ReelChanger$Room" "show" "LReelChanger$Show;", .methodLink RX7 142 yX5_count, .instanceMethod yX5_count, .selects RX5 yX5_count yX5_count, .initialized RX5, .code yX5_count cX5_count 2 (some .int), .fieldLink RX5 28 "ReelChanger$Show" "running" "Z", .fieldLink RX5 32 "ReelChanger$Show" "time" "I", .fieldLink RX5 52 "ReelChanger$Show" "front" "I", .fieldLink RX5 36 "ReelChanger$Show" "dark" "I", .fieldLink RX5 39 "ReelChanger$Show" "missed" "I", .fieldLink RX5 42 "ReelChanger$Show" "late" "I", .fieldLink RX5 45 "ReelChanger$Show" "breaks" "I", .fieldLink RX5 55 "ReelChanger$Show" "threaded" "I", .fieldLink RX5 12 "ReelChanger$Show" "operator" "LReelChanger$Operator;", .fieldLink RX5 64 "ReelChanger$Operator" "rowCount" "I", .fieldLink RX5 67 "ReelChanger$Operator" "ticksLeft" "I", .constant RX5 70 (-100001)] : List Cond) := goodIn_r _ [15, 325, 633, 634, 635, 31, 636, 389, 390, 395, 391, 392, 393, 394, 399, 60, 442, 441, 637] (by decide +kernel) (by decide +kernel)
set_option maxRecDepth 20000 in
theorem lq_94 : GoodIn wsL_law ([.code yX8_tell cX8_tell 2 (some .int)] : List Cond) := goodIn_r _ [641] (by decide +kernel) (by decide +kernel)
set_option maxRecDepth 20000 in
theorem lq_95 : GoodIn wsL_law ([.constant RX8 64 (-100001), .methodLink RX8 47 yX8_in, .static yX8_in, .initialized RX8, .code yX8_in cX8_in 3 (some .boolean), .methodLink RX8 159 yX8_showTells, .instanceMethod yX8_showTells, .selects RX8 yX8_showTells yX8_showTells, .code yX8_showTells cX8_showTells 2 (some .int), .fieldLink RX8 7 "ReelChangerModel" "v" "[I", .methodLink RX8 100 yX8_isRunning, .instanceMethod yX8_isRunning, .selects RX8 yX8_isRunning yX8_isRunning, .code yX8_isRunning cX8_isRunning 1 (some .boolean)] : List Cond) := goodIn_r _ [159, 128, 129, 5, 130, 642, 643, 644, 645, 84, 360, 361, 362, 363] (by decide +kernel) (by decide +kernel)
set_option maxRecDepth 20000 in
theorem lq_96 : GoodIn wsL_law ([.code yX7_projector cX7_projector 4 (some .int)] : List Cond) := goodIn_r _ [649] (by decide +kernel) (by decide +kernel)
set_option maxRecDepth 20000 in
theorem lq_97 : GoodIn wsL_law (wsX7_projector_r1 : List Cond) := goodIn_r _ [138, 15, 325, 650, 315, 651, 652, 101, 103, 104, 2, 105, 653, 454, 455, 31, 456, 64, 65, 654, 655, 656, 63, 657] (by decide +kernel) (by decide +kernel)
set_option maxRecDepth 20000 in
theorem lq_98 : GoodIn wsL_law (wsX7_projector_r2 : List Cond) := goodIn_r _ [411] (by decide +kernel) (by decide +kernel)
set_option maxRecDepth 20000 in
theorem lq_99 : GoodIn wsL_law ([.code yX8_projector cX8_projector 3 (some .int)] : List Cond) := goodIn_r _ [661] (by decide +kernel) (by decide +kernel)
set_option maxRecDepth 20000 in
theorem lq_100 : GoodIn wsL_law ([.constant RX8 64 (-100001), .constant RX8 51 (-100002), .methodLink RX8 47 yX8_in, .static yX8_in, .initialized RX8, .code yX8_in cX8_in 3 (some .boolean), .methodLink RX8 162 yX8_projectorTells, .instanceMethod yX8_projectorTells, .selects RX8 yX8_projectorTells yX8_projectorTells, .code yX8_projectorTells cX8_projectorTells 5 (some .int), .fieldLink RX8 7 "ReelChangerModel" "v" "[I", .constant RX8 68 (-100005), .methodLink RX8 107 yX8_on, .static yX8_on, .code yX8_on cX8_on 2 (some .int)] : List Cond) := goodIn_r _ [159, 126, 128, 129, 5, 130, 662, 663, 664, 665, 84, 201, 425, 426, 427] (by decide +kernel) (by decide +kernel)
set_option maxRecDepth 20000 in
theorem lq_101 : GoodIn wsL_law ([.code yX7_task cX7_task 4 (some .int)] : List Cond) := goodIn_r _ [669] (by decide +kernel) (by decide +kernel)
set_option maxRecDepth 20000 in
theorem lq_102 : GoodIn wsL_law (wsX7_task_r1 : List Cond) := goodIn_r _ [15, 325, 670, 138, 101, 671, 484, 485, 59, 486, 405, 406, 672, 478, 479, 480, 481, 482, 69, 483, 673, 488, 489, 490] (by decide +kernel) (by decide +kernel)
set_option maxRecDepth 20000 in
theorem lq_103 : GoodIn wsL_law (wsX7_task_r2 : List Cond) := goodIn_r _ [491, 70] (by decide +kernel) (by decide +kernel)
set_option maxRecDepth 20000 in
theorem lq_104 : GoodIn wsL_law ([.code yX8_task cX8_task 4 (some .int)] : List Cond) := goodIn_r _ [677] (by decide +kernel) (by decide +kernel)
set_option maxRecDepth 20000 in
theorem lq_105 : GoodIn wsL_law ([.constant RX8 64 (-100001), .constant RX8 51 (-100002), .methodLink RX8 165 yX8_taskAt, .instanceMethod yX8_taskAt, .selects RX8 yX8_taskAt yX8_taskAt, .initialized RX8, .code yX8_taskAt cX8_taskAt 2 (some .int), .fieldLink RX8 7 "ReelChangerModel" "v" "[I", .methodLink RX8 47 yX8_in, .static yX8_in, .code yX8_in cX8_in 3 (some .boolean)] : List Cond) := goodIn_r _ [159, 126, 678, 679, 680, 5, 681, 84, 128, 129, 130] (by decide +kernel) (by decide +kernel)
set_option maxRecDepth 20000 in
theorem lq_106 : GoodIn wsL_law ([.code yX7_forecast cX7_forecast 2 (some .int)] : List Cond) := goodIn_r _ [685] (by decide +kernel) (by decide +kernel)
set_option maxRecDepth 20000 in
theorem lq_107 : GoodIn wsL_law (wsX7_forecast_r1 : List Cond) := goodIn_r _ [138, 15, 325, 326, 327, 16, 102, 103, 104, 2, 105, 686, 687, 688, 14, 689, 28, 32, 690, 691, 692, 27, 693, 110] (by decide +kernel) (by decide +kernel)
set_option maxRecDepth 20000 in
theorem lq_108 : GoodIn wsL_law (wsX7_forecast_r2 : List Cond) := goodIn_r _ [38, 40, 45, 46, 47, 48, 41, 354, 694, 695, 696, 43, 697, 120, 121, 52, 698, 53, 699, 348, 349, 350, 351, 352] (by decide +kernel) (by decide +kernel)
set_option maxRecDepth 20000 in
theorem lq_109 : GoodIn wsL_law (wsX7_forecast_r3 : List Cond) := goodIn_r _ [341, 353, 700, 701, 702, 31, 703, 389, 390, 391, 392, 393, 394, 60, 395, 399, 396, 64, 65, 704, 705, 706, 59, 707] (by decide +kernel) (by decide +kernel)
set_option maxRecDepth 20000 in
theorem lq_110 : GoodIn wsL_law (wsX7_forecast_r4 : List Cond) := goodIn_r _ [405, 406, 482, 491, 69, 502, 70, 708, 709, 710, 63, 711, 411, 412, 523, 432, 433, 434, 435, 436, 437, 438, 439, 440] (by decide +kernel) (by decide +kernel)
set_option maxRecDepth 20000 in
theorem lq_111 : GoodIn wsL_law (wsX7_forecast_r5 : List Cond) := goodIn_r _ [441, 442, 443, 444, 445, 446, 447, 448, 449, 450, 451, 452, 397, 453, 454, 455, 456, 407, 408, 409, 410, 457, 458, 459] (by decide +kernel) (by decide +kernel)
set_option maxRecDepth 20000 in
theorem lq_112 : GoodIn wsL_law (wsX7_forecast_r6 : List Cond) := goodIn_r _ [460, 398, 461, 462, 463, 464, 465, 466, 467, 373, 374, 375, 233, 112, 113, 114, 115, 468, 469, 470, 471, 146, 147, 148] (by decide +kernel) (by decide +kernel)
set_option maxRecDepth 20000 in
theorem lq_113 : GoodIn wsL_law (wsX7_forecast_r7 : List Cond) := goodIn_r _ [149, 150, 151, 152, 153, 154, 472, 230, 231, 232, 473, 474, 475, 476, 477, 478, 479, 480, 481, 483, 484, 485, 486, 487] (by decide +kernel) (by decide +kernel)
set_option maxRecDepth 20000 in
theorem lq_114 : GoodIn wsL_law (wsX7_forecast_r8 : List Cond) := goodIn_r _ [488, 489, 490, 492, 493, 494, 495, 496, 497, 498, 499, 500, 501, 503, 504, 505, 506, 507, 508, 509, 510, 511, 512, 513] (by decide +kernel) (by decide +kernel)
set_option maxRecDepth 20000 in
theorem lq_115 : GoodIn wsL_law (wsX7_forecast_r9 : List Cond) := goodIn_r _ [514, 515, 516, 517, 518, 519, 520, 521, 522, 524, 525, 526, 527, 528, 529, 530, 531, 532, 533, 534, 535, 536, 537, 538] (by decide +kernel) (by decide +kernel)
set_option maxRecDepth 20000 in
theorem lq_116 : GoodIn wsL_law (wsX7_forecast_r10 : List Cond) := goodIn_r _ [539, 340, 342, 540, 541, 542, 543, 544, 545, 546, 547, 400, 548, 549, 550, 551, 552, 553, 554, 555, 556, 557, 558, 559] (by decide +kernel) (by decide +kernel)
set_option maxRecDepth 20000 in
theorem lq_117 : GoodIn wsL_law (wsX7_forecast_r11 : List Cond) := goodIn_r _ [560, 561, 562, 563, 564, 565, 566, 567, 568, 712, 713, 714, 715, 315, 716, 717, 718, 719, 720] (by decide +kernel) (by decide +kernel)
set_option maxRecDepth 20000 in
theorem lq_118 : GoodIn wsL_law ([.code yX8_forecast cX8_forecast 2 (some .int)] : List Cond) := goodIn_r _ [724] (by decide +kernel) (by decide +kernel)
set_option maxRecDepth 20000 in
theorem lq_119 : GoodIn wsL_law (wsX8_forecast_r1 : List Cond) := goodIn_r _ [159, 359, 128, 129, 5, 130, 360, 361, 362, 363, 84, 725, 726, 727, 728, 201, 729, 730, 731, 732, 85, 573, 574, 575] (by decide +kernel) (by decide +kernel)
set_option maxRecDepth 20000 in
theorem lq_120 : GoodIn wsL_law (wsX8_forecast_r2 : List Cond) := goodIn_r _ [576, 577, 578, 579, 580, 581, 582, 583, 584, 585, 586, 587, 588, 425, 426, 427, 421, 422, 423, 424, 589, 590, 591, 592] (by decide +kernel) (by decide +kernel)
set_option maxRecDepth 20000 in
theorem lq_121 : GoodIn wsL_law (wsX8_forecast_r3 : List Cond) := goodIn_r _ [593, 594, 595, 596, 131, 132, 133, 168, 169, 170, 171, 164, 165, 166, 167, 597, 598, 599, 600, 601, 602, 603, 604, 605] (by decide +kernel) (by decide +kernel)
set_option maxRecDepth 20000 in
theorem lq_122 : GoodIn wsL_law (wsX8_forecast_r4 : List Cond) := goodIn_r _ [606, 607, 608, 609, 610, 611, 612, 613, 614, 615, 616, 617, 618, 619, 620, 621, 622, 623, 624, 625, 626, 627, 628, 733] (by decide +kernel) (by decide +kernel)
set_option maxRecDepth 20000 in
theorem lq_123 : GoodIn wsL_law (wsX8_forecast_r5 : List Cond) := goodIn_r _ [734, 735, 736] (by decide +kernel) (by decide +kernel)
set_option maxRecDepth 20000 in
theorem lq_124 : GoodIn wsL_law ([.code yX7_darkWith cX7_darkWith 4 (some .int)] : List Cond) := goodIn_r _ [740] (by decide +kernel) (by decide +kernel)
set_option maxRecDepth 20000 in
theorem lq_125 : GoodIn wsL_law (wsX7_darkWith_r1 : List Cond) := goodIn_r _ [15, 102, 384, 327, 16, 325, 217, 218, 2, 219, 138, 101, 103, 104, 105, 220, 221, 27, 222, 223, 224, 686, 687, 688] (by decide +kernel) (by decide +kernel)
set_option maxRecDepth 20000 in
theorem lq_126 : GoodIn wsL_law (wsX7_darkWith_r2 : List Cond) := goodIn_r _ [14, 689, 28, 32, 690, 691, 692, 693, 110, 38, 40, 45, 46, 47, 48, 41, 354, 694, 695, 696, 43, 697, 120, 121] (by decide +kernel) (by decide +kernel)
set_option maxRecDepth 20000 in
theorem lq_127 : GoodIn wsL_law (wsX7_darkWith_r3 : List Cond) := goodIn_r _ [52, 698, 53, 699, 348, 349, 350, 351, 352, 341, 353, 700, 701, 702, 31, 703, 389, 390, 391, 392, 393, 394, 60, 395] (by decide +kernel) (by decide +kernel)
set_option maxRecDepth 20000 in
theorem lq_128 : GoodIn wsL_law (wsX7_darkWith_r4 : List Cond) := goodIn_r _ [399, 396, 64, 65, 704, 705, 706, 59, 707, 405, 406, 482, 491, 69, 502, 70, 708, 709, 710, 63, 711, 411, 412, 523] (by decide +kernel) (by decide +kernel)
set_option maxRecDepth 20000 in
theorem lq_129 : GoodIn wsL_law (wsX7_darkWith_r5 : List Cond) := goodIn_r _ [225, 226, 227, 228, 229, 230, 231, 232, 233, 234, 385, 386, 387, 388, 397, 398, 400, 401, 402, 403, 404, 407, 408, 409] (by decide +kernel) (by decide +kernel)
set_option maxRecDepth 20000 in
theorem lq_130 : GoodIn wsL_law (wsX7_darkWith_r6 : List Cond) := goodIn_r _ [410, 432, 433, 434, 435, 436, 437, 438, 439, 440, 441, 442, 443, 444, 445, 446, 447, 448, 449, 450, 451, 452, 453, 454] (by decide +kernel) (by decide +kernel)
set_option maxRecDepth 20000 in
theorem lq_131 : GoodIn wsL_law (wsX7_darkWith_r7 : List Cond) := goodIn_r _ [455, 456, 457, 458, 459, 460, 461, 462, 463, 464, 465, 466, 467, 373, 374, 375, 112, 113, 114, 115, 468, 469, 470, 471] (by decide +kernel) (by decide +kernel)
set_option maxRecDepth 20000 in
theorem lq_132 : GoodIn wsL_law (wsX7_darkWith_r8 : List Cond) := goodIn_r _ [146, 147, 148, 149, 150, 151, 152, 153, 154, 472, 473, 474, 475, 476, 477, 478, 479, 480, 481, 483, 484, 485, 486, 487] (by decide +kernel) (by decide +kernel)
set_option maxRecDepth 20000 in
theorem lq_133 : GoodIn wsL_law (wsX7_darkWith_r9 : List Cond) := goodIn_r _ [488, 489, 490, 492, 493, 494, 495, 496, 497, 498, 499, 500, 501, 503, 504, 505, 506, 507, 508, 509, 510, 511, 512, 513] (by decide +kernel) (by decide +kernel)
set_option maxRecDepth 20000 in
theorem lq_134 : GoodIn wsL_law (wsX7_darkWith_r10 : List Cond) := goodIn_r _ [514, 515, 516, 517, 518, 519, 520, 521, 522, 524, 525, 526, 527, 528, 529, 530, 531, 532, 533, 534, 535, 536, 537, 538] (by decide +kernel) (by decide +kernel)
set_option maxRecDepth 20000 in
theorem lq_135 : GoodIn wsL_law (wsX7_darkWith_r11 : List Cond) := goodIn_r _ [539, 340, 342, 540, 541, 542, 543, 544, 545, 546, 547, 548, 549, 550, 551, 552, 553, 554, 555, 556, 557, 558, 559, 560] (by decide +kernel) (by decide +kernel)
set_option maxRecDepth 20000 in
theorem lq_136 : GoodIn wsL_law (wsX7_darkWith_r12 : List Cond) := goodIn_r _ [561, 562, 563, 564, 565, 566, 567, 568, 712, 713, 714, 715, 326, 315, 716, 717, 718, 719, 720] (by decide +kernel) (by decide +kernel)
set_option maxRecDepth 20000 in
theorem lq_137 : GoodIn wsL_law ([.code yX8_darkWith cX8_darkWith 5 (some .int)] : List Cond) := goodIn_r _ [744] (by decide +kernel) (by decide +kernel)
set_option maxRecDepth 20000 in
theorem lq_138 : GoodIn wsL_law (wsX8_darkWith_r1 : List Cond) := goodIn_r _ [159, 89, 90, 126, 84, 359, 201, 128, 129, 5, 130, 729, 730, 731, 732, 85, 417, 418, 419, 420, 421, 422, 423, 424] (by decide +kernel) (by decide +kernel)
set_option maxRecDepth 20000 in
theorem lq_139 : GoodIn wsL_law (wsX8_darkWith_r2 : List Cond) := goodIn_r _ [425, 426, 427, 573, 574, 575, 576, 577, 578, 579, 580, 581, 582, 583, 584, 585, 586, 587, 588, 589, 590, 591, 592, 593] (by decide +kernel) (by decide +kernel)
set_option maxRecDepth 20000 in
theorem lq_140 : GoodIn wsL_law (wsX8_darkWith_r3 : List Cond) := goodIn_r _ [594, 595, 596, 131, 132, 133, 168, 169, 170, 171, 164, 165, 166, 167, 597, 598, 599, 600, 601, 602, 603, 604, 605, 606] (by decide +kernel) (by decide +kernel)
set_option maxRecDepth 20000 in
theorem lq_141 : GoodIn wsL_law (wsX8_darkWith_r4 : List Cond) := goodIn_r _ [607, 608, 609, 610, 611, 612, 613, 614, 615, 616, 617, 618, 619, 620, 621, 622, 623, 624, 625, 626, 627, 628, 733, 734] (by decide +kernel) (by decide +kernel)
set_option maxRecDepth 20000 in
theorem lq_142 : GoodIn wsL_law (wsX8_darkWith_r5 : List Cond) := goodIn_r _ [735, 736] (by decide +kernel) (by decide +kernel)
set_option maxRecDepth 20000 in
theorem lq_143 : GoodIn wsL_law ([.code yX7_save cX7_save 3 (some .int)] : List Cond) := goodIn_r _ [748] (by decide +kernel) (by decide +kernel)
set_option maxRecDepth 20000 in
theorem lq_144 : GoodIn wsL_law (wsX7_save_r1 : List Cond) := goodIn_r _ [138, 17, 12, 13, 14, 15, 102, 274, 103, 104, 2, 105, 22, 23, 24, 10, 11, 25, 26, 27, 28, 29, 30, 31] (by decide +kernel) (by decide +kernel)
set_option maxRecDepth 20000 in
theorem lq_145 : GoodIn wsL_law (wsX7_save_r2 : List Cond) := goodIn_r _ [32, 33, 34, 35, 36, 37, 38, 39, 40, 41, 42, 43, 44, 45, 46, 47, 48, 49, 50, 51, 52, 53, 54, 55] (by decide +kernel) (by decide +kernel)
set_option maxRecDepth 20000 in
theorem lq_146 : GoodIn wsL_law (wsX7_save_r3 : List Cond) := goodIn_r _ [56, 57, 58, 59, 60, 61, 62, 63, 64, 65, 66, 67, 68, 69, 70, 71, 72, 73, 686, 687, 688, 689, 690, 691] (by decide +kernel) (by decide +kernel)
set_option maxRecDepth 20000 in
theorem lq_147 : GoodIn wsL_law (wsX7_save_r4 : List Cond) := goodIn_r _ [692, 693, 110, 354, 694, 695, 696, 697, 120, 121, 698, 699, 348, 349, 350, 351, 352, 341, 353, 700, 701, 702, 703, 389] (by decide +kernel) (by decide +kernel)
set_option maxRecDepth 20000 in
theorem lq_148 : GoodIn wsL_law (wsX7_save_r5 : List Cond) := goodIn_r _ [390, 391, 392, 393, 394, 395, 399, 396, 704, 705, 706, 707, 405, 406, 482, 491, 502, 708, 709, 710, 711, 411, 412, 523] (by decide +kernel) (by decide +kernel)
set_option maxRecDepth 20000 in
theorem lq_149 : GoodIn wsL_law ([.code yX8_save cX8_save 3 (some .int)] : List Cond) := goodIn_r _ [752] (by decide +kernel) (by decide +kernel)
set_option maxRecDepth 20000 in
theorem lq_150 : GoodIn wsL_law ([.constant RX8 64 (-100001), .fieldLink RX8 16 "ReelChangerModel" "kept" "[I", .fieldLink RX8 7 "ReelChangerModel" "v" "[I", .fieldLink RX8 19 "ReelChangerModel" "isKept" "[Z", .methodLink RX8 47 yX8_in, .static yX8_in, .initialized RX8, .code yX8_in cX8_in 3 (some .boolean)] : List Cond) := goodIn_r _ [159, 86, 84, 88, 128, 129, 5, 130] (by decide +kernel) (by decide +kernel)
set_option maxRecDepth 20000 in
theorem lq_151 : GoodIn wsL_law ([.code yX7_restore cX7_restore 3 (some .int)] : List Cond) := goodIn_r _ [756] (by decide +kernel) (by decide +kernel)
set_option maxRecDepth 20000 in
theorem lq_152 : GoodIn wsL_law (wsX7_restore_r1 : List Cond) := goodIn_r _ [138, 17, 327, 15, 102, 274, 103, 104, 2, 105, 686, 687, 688, 14, 689, 28, 32, 690, 691, 692, 27, 693, 110, 38] (by decide +kernel) (by decide +kernel)
set_option maxRecDepth 20000 in
theorem lq_153 : GoodIn wsL_law (wsX7_restore_r2 : List Cond) := goodIn_r _ [40, 45, 46, 47, 48, 41, 354, 694, 695, 696, 43, 697, 120, 121, 52, 698, 53, 699, 348, 349, 350, 351, 352, 341] (by decide +kernel) (by decide +kernel)
set_option maxRecDepth 20000 in
theorem lq_154 : GoodIn wsL_law (wsX7_restore_r3 : List Cond) := goodIn_r _ [353, 700, 701, 702, 31, 703, 389, 390, 391, 392, 393, 394, 60, 395, 399, 396, 64, 65, 704, 705, 706, 59, 707, 405] (by decide +kernel) (by decide +kernel)
set_option maxRecDepth 20000 in
theorem lq_155 : GoodIn wsL_law (wsX7_restore_r4 : List Cond) := goodIn_r _ [406, 482, 491, 69, 502, 70, 708, 709, 710, 63, 711, 411, 412, 523] (by decide +kernel) (by decide +kernel)
set_option maxRecDepth 20000 in
theorem lq_156 : GoodIn wsL_law ([.code yX8_restore cX8_restore 3 (some .int)] : List Cond) := goodIn_r _ [760] (by decide +kernel) (by decide +kernel)
set_option maxRecDepth 20000 in
theorem lq_157 : GoodIn wsL_law ([.constant RX8 64 (-100001), .fieldLink RX8 19 "ReelChangerModel" "isKept" "[Z", .constant RX8 103 (-100003), .fieldLink RX8 7 "ReelChangerModel" "v" "[I", .fieldLink RX8 16 "ReelChangerModel" "kept" "[I", .methodLink RX8 47 yX8_in, .static yX8_in, .initialized RX8, .code yX8_in cX8_in 3 (some .boolean)] : List Cond) := goodIn_r _ [159, 88, 359, 84, 86, 128, 129, 5, 130] (by decide +kernel) (by decide +kernel)
set_option maxRecDepth 20000 in
theorem lq_158 : GoodIn wsL_law ([.code yX7_checksum cX7_checksum 3 (some .long)] : List Cond) := goodIn_r _ [764] (by decide +kernel) (by decide +kernel)
set_option maxRecDepth 20000 in
theorem lq_159 : GoodIn wsL_law (wsX7_checksum_r1 : List Cond) := goodIn_r _ [765, 15, 325, 326, 16, 102, 766, 767, 768, 2, 769, 274, 384, 770, 771, 772, 773, 774, 775, 776, 777, 778, 185, 186] (by decide +kernel) (by decide +kernel)
set_option maxRecDepth 20000 in
theorem lq_160 : GoodIn wsL_law (wsX7_checksum_r2 : List Cond) := goodIn_r _ [187, 138, 139, 188, 101, 140, 113, 114, 27, 115, 110, 38, 189, 190, 191, 43, 192, 150, 121, 53, 779, 203, 204, 205] (by decide +kernel) (by decide +kernel)
set_option maxRecDepth 20000 in
theorem lq_161 : GoodIn wsL_law (wsX7_checksum_r3 : List Cond) := goodIn_r _ [206, 207, 208, 152, 153, 154, 780, 230, 231, 232, 40, 233, 781, 369, 370, 371, 372, 373, 374, 375, 354, 41, 782, 783] (by decide +kernel) (by decide +kernel)
set_option maxRecDepth 20000 in
theorem lq_162 : GoodIn wsL_law (wsX7_checksum_r4 : List Cond) := goodIn_r _ [784, 785, 670, 786, 630, 631, 632, 633, 634, 635, 31, 636, 389, 390, 395, 391, 392, 393, 394, 399, 60, 442, 441, 637] (by decide +kernel) (by decide +kernel)
set_option maxRecDepth 20000 in
theorem lq_163 : GoodIn wsL_law (wsX7_checksum_r5 : List Cond) := goodIn_r _ [787, 647, 648, 649, 650, 315, 651, 652, 103, 104, 105, 653, 454, 455, 456, 64, 65, 654, 655, 656, 63, 657, 411, 671] (by decide +kernel) (by decide +kernel)
set_option maxRecDepth 20000 in
theorem lq_164 : GoodIn wsL_law (wsX7_checksum_r6 : List Cond) := goodIn_r _ [484, 485, 59, 486, 405, 406, 788, 667, 668, 669, 672, 478, 479, 480, 481, 482, 69, 483, 673, 488, 489, 490, 491, 70] (by decide +kernel) (by decide +kernel)
set_option maxRecDepth 20000 in
theorem lq_165 : GoodIn wsL_law (wsX7_checksum_r7 : List Cond) := goodIn_r _ [686, 687, 688, 14, 689, 28, 32, 690, 691, 692, 693, 45, 46, 47, 48, 694, 695, 696, 697, 120, 52, 698, 699, 348] (by decide +kernel) (by decide +kernel)
set_option maxRecDepth 20000 in
theorem lq_166 : GoodIn wsL_law (wsX7_checksum_r8 : List Cond) := goodIn_r _ [349, 350, 351, 352, 341, 353, 700, 701, 702, 703, 396, 704, 705, 706, 707, 502, 708, 709, 710, 711, 412, 523, 432, 433] (by decide +kernel) (by decide +kernel)
set_option maxRecDepth 20000 in
theorem lq_167 : GoodIn wsL_law (wsX7_checksum_r9 : List Cond) := goodIn_r _ [434, 435, 436, 437, 438, 439, 440, 443, 444, 445, 446, 447, 448, 449, 450, 451, 452, 397, 453, 407, 408, 409, 410, 457] (by decide +kernel) (by decide +kernel)
set_option maxRecDepth 20000 in
theorem lq_168 : GoodIn wsL_law (wsX7_checksum_r10 : List Cond) := goodIn_r _ [458, 459, 460, 398, 461, 462, 463, 464, 465, 466, 467, 112, 468, 469, 470, 471, 146, 147, 148, 149, 151, 472, 473, 474] (by decide +kernel) (by decide +kernel)
set_option maxRecDepth 20000 in
theorem lq_169 : GoodIn wsL_law (wsX7_checksum_r11 : List Cond) := goodIn_r _ [475, 476, 477, 487, 492, 493, 494, 495, 496, 497, 498, 499, 500, 501, 503, 504, 505, 506, 507, 508, 509, 510, 511, 512] (by decide +kernel) (by decide +kernel)
set_option maxRecDepth 20000 in
theorem lq_170 : GoodIn wsL_law (wsX7_checksum_r12 : List Cond) := goodIn_r _ [513, 514, 515, 516, 517, 518, 519, 520, 521, 522, 524, 525, 526, 527, 528, 529, 530, 531, 532, 533, 534, 535, 536, 537] (by decide +kernel) (by decide +kernel)
set_option maxRecDepth 20000 in
theorem lq_171 : GoodIn wsL_law (wsX7_checksum_r13 : List Cond) := goodIn_r _ [538, 539, 340, 342, 540, 541, 542, 543, 544, 545, 546, 547, 400, 548, 549, 550, 551, 552, 553, 554, 555, 556, 557, 558] (by decide +kernel) (by decide +kernel)
set_option maxRecDepth 20000 in
theorem lq_172 : GoodIn wsL_law (wsX7_checksum_r14 : List Cond) := goodIn_r _ [559, 560, 561, 562, 563, 564, 565, 566, 567, 568, 712, 713, 714, 715, 716, 717, 718, 719, 720] (by decide +kernel) (by decide +kernel)
set_option maxRecDepth 20000 in
theorem lq_173 : GoodIn wsL_law ([.code yX8_checksum cX8_checksum 5 (some .long)] : List Cond) := goodIn_r _ [792] (by decide +kernel) (by decide +kernel)
set_option maxRecDepth 20000 in
theorem lq_174 : GoodIn wsL_law (wsX8_checksum_r1 : List Cond) := goodIn_r _ [793, 84, 794, 795, 5, 796, 797, 131, 132, 133, 197, 198, 199, 200, 201, 642, 643, 644, 645, 360, 361, 362, 363, 662] (by decide +kernel) (by decide +kernel)
set_option maxRecDepth 20000 in
theorem lq_175 : GoodIn wsL_law (wsX8_checksum_r2 : List Cond) := goodIn_r _ [663, 664, 665, 425, 426, 427, 678, 679, 680, 681, 128, 129, 130, 725, 726, 727, 728, 729, 730, 731, 732, 85, 573, 574] (by decide +kernel) (by decide +kernel)
set_option maxRecDepth 20000 in
theorem lq_176 : GoodIn wsL_law (wsX8_checksum_r3 : List Cond) := goodIn_r _ [575, 576, 577, 578, 579, 580, 581, 582, 583, 584, 585, 586, 587, 588, 421, 422, 423, 424, 589, 590, 591, 592, 593, 594] (by decide +kernel) (by decide +kernel)
set_option maxRecDepth 20000 in
theorem lq_177 : GoodIn wsL_law (wsX8_checksum_r4 : List Cond) := goodIn_r _ [595, 596, 168, 169, 170, 171, 164, 165, 166, 167, 597, 598, 599, 600, 601, 602, 603, 604, 605, 606, 607, 608, 609, 610] (by decide +kernel) (by decide +kernel)
set_option maxRecDepth 20000 in
theorem lq_178 : GoodIn wsL_law (wsX8_checksum_r5 : List Cond) := goodIn_r _ [611, 612, 613, 614, 615, 616, 617, 618, 619, 620, 621, 622, 623, 624, 625, 626, 627, 628, 733, 734, 735, 736] (by decide +kernel) (by decide +kernel)
