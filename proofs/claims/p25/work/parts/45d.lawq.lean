set_option maxRecDepth 20000 in
theorem lq_1 : GoodIn wsL_makes ([.code yX7_makeReel cX7_makeReel 2 (some .int)] : List Cond) := goodIn_r _ [6] (by decide +kernel) (by decide +kernel)
set_option maxRecDepth 20000 in
theorem lq_2 : GoodIn wsL_makes (wsX7_makeReel_r1 : List Cond) := goodIn_r _ [7, 8, 9, 10, 11, 5, 12, 13, 14, 15, 16, 17, 18, 19, 20, 21, 22, 23, 24, 25, 26, 27, 28, 29] (by decide +kernel) (by decide +kernel)
set_option maxRecDepth 20000 in
theorem lq_3 : GoodIn wsL_makes (wsX7_makeReel_r2 : List Cond) := goodIn_r _ [30, 31] (by decide +kernel) (by decide +kernel)
set_option maxRecDepth 20000 in
theorem lq_4 : GoodIn wsL_makes (wsX70 : List Cond) := goodIn_r _ [46, 47, 48, 49] (by decide +kernel) (by decide +kernel)
set_option maxRecDepth 20000 in
theorem lq_5 : GoodIn wsL_makes (wsX40 : List Cond) := goodIn_r _ [50, 51] (by decide +kernel) (by decide +kernel)
set_option maxRecDepth 20000 in
theorem lq_6 : GoodIn wsL_makes (wsX60 : List Cond) := goodIn_r _ [52, 53, 54, 55, 56] (by decide +kernel) (by decide +kernel)
set_option maxRecDepth 20000 in
theorem lq_7 : GoodIn wsL_makes (wsX30 : List Cond) := goodIn_r _ [57, 58, 59, 60] (by decide +kernel) (by decide +kernel)
set_option maxRecDepth 20000 in
theorem lq_8 : GoodIn wsL_makes ([.code yX7_reel cX7_reel 4 (some .int)] : List Cond) := goodIn_r _ [35] (by decide +kernel) (by decide +kernel)
set_option maxRecDepth 20000 in
theorem lq_9 : GoodIn wsL_makes ([.fieldLink RX7 10 "ReelChanger" "room" "LReelChanger$Room;", .fieldLink RX7 35 "ReelChanger$Room" "stock" "LReelChanger$Stock;", .constant RX7 49 (-100001), .fieldLink RX7 50 "ReelChanger$Reel" "length" "I", .fieldLink RX7 63 "ReelChanger$Reel" "spliceCount" "I", .constant RX7 34 (-100002), .methodLink RX7 45 yX6_reelNumbered, .instanceMethod yX6_reelNumbered, .selects RX6 yX6_reelNumbered yX6_reelNumbered, .initialized RX6, .code yX6_reelNumbered cX6_reelNumbered 2 (some (.object "ReelChanger$Reel")), .fieldLink RX6 34 "ReelChanger$Stock" "reelCount" "I", .fieldLink RX6 13 "ReelChanger$Stock" "reels" "[LReelChanger$Reel;", .methodLink RX7 66 yX3_leastStrength, .instanceMethod yX3_leastStrength, .selects RX3 yX3_leastStrength yX3_leastStrength, .initialized RX3, .code yX3_leastStrength cX3_leastStrength 3 (some .int), .constant RX3 31 (-100005), .fieldLink RX3 22 "ReelChanger$Reel" "spliceCount" "I", .fieldLink RX3 15 "ReelChanger$Reel" "strengths" "[I"] : List Cond) := goodIn_r _ [8, 9, 36, 37, 38, 7, 39, 21, 22, 16, 23, 18, 24, 40, 41, 42, 28, 43, 44, 31, 45] (by decide +kernel) (by decide +kernel)
set_option maxRecDepth 20000 in
theorem lq_10 : GoodIn wsL_splices ([.code yX7_splice cX7_splice 5 (some .int)] : List Cond) := goodIn_r _ [6] (by decide +kernel) (by decide +kernel)
set_option maxRecDepth 20000 in
theorem lq_11 : GoodIn wsL_splices (wsX7_splice_r1 : List Cond) := goodIn_r _ [7, 8, 9, 10, 11, 12, 13, 14, 15, 16, 17, 18, 19, 20, 5, 21, 22, 23, 24, 25, 26, 27, 28, 29] (by decide +kernel) (by decide +kernel)
set_option maxRecDepth 20000 in
theorem lq_12 : GoodIn wsL_splices (wsX7_splice_r2 : List Cond) := goodIn_r _ [30, 31, 32, 33, 34, 35, 36, 37, 38, 39] (by decide +kernel) (by decide +kernel)
set_option maxRecDepth 20000 in
theorem lq_13 : GoodIn wsL_splices (wsX70 : List Cond) := goodIn_r _ [40, 41, 42, 43] (by decide +kernel) (by decide +kernel)
set_option maxRecDepth 20000 in
theorem lq_14 : GoodIn wsL_splices (wsX40 : List Cond) := goodIn_r _ [44, 45] (by decide +kernel) (by decide +kernel)
set_option maxRecDepth 20000 in
theorem lq_15 : GoodIn wsL_splices (wsX30 : List Cond) := goodIn_r _ [46, 47, 48, 49] (by decide +kernel) (by decide +kernel)
set_option maxRecDepth 20000 in
theorem lq_16 : GoodIn wsL_splices (wsX60 : List Cond) := goodIn_r _ [50, 51, 52, 53, 54] (by decide +kernel) (by decide +kernel)
set_option maxRecDepth 20000 in
theorem lq_17 : GoodIn wsL_sets ([.code yL_low cL_low 1 (some .int)] : List Cond) := goodIn_r _ [6] (by decide +kernel) (by decide +kernel)
set_option maxRecDepth 20000 in
theorem lq_18 : GoodIn wsL_sets ([] : List Cond) := goodIn_r _ [] (by decide +kernel) (by decide +kernel)
set_option maxRecDepth 20000 in
theorem lq_19 : GoodIn wsL_sets ([.code yL_high cL_high 1 (some .int)] : List Cond) := goodIn_r _ [9] (by decide +kernel) (by decide +kernel)
set_option maxRecDepth 20000 in
theorem lq_20 : GoodIn wsL_sets ([.code yX7_set cX7_set 4 (some .int)] : List Cond) := goodIn_r _ [14] (by decide +kernel) (by decide +kernel)
set_option maxRecDepth 20000 in
theorem lq_21 : GoodIn wsL_sets (wsX7_set_r1 : List Cond) := goodIn_r _ [15, 16, 17, 18, 13, 19, 20, 21, 22, 23, 24, 25, 26, 27, 28, 29, 30, 31, 32, 33, 34, 35, 36, 37] (by decide +kernel) (by decide +kernel)
set_option maxRecDepth 20000 in
theorem lq_22 : GoodIn wsL_sets (wsX7_set_r2 : List Cond) := goodIn_r _ [38, 39, 40, 41] (by decide +kernel) (by decide +kernel)
set_option maxRecDepth 20000 in
theorem lq_23 : GoodIn wsL_sets (wsX70 : List Cond) := goodIn_r _ [42, 43, 44, 45] (by decide +kernel) (by decide +kernel)
set_option maxRecDepth 20000 in
theorem lq_24 : GoodIn wsL_sets (wsX40 : List Cond) := goodIn_r _ [46, 47] (by decide +kernel) (by decide +kernel)
set_option maxRecDepth 20000 in
theorem lq_25 : GoodIn wsL_sets (wsX60 : List Cond) := goodIn_r _ [48, 49, 50, 51, 52] (by decide +kernel) (by decide +kernel)
set_option maxRecDepth 20000 in
theorem lq_26 : GoodIn wsL_sound ([.code yX7_tell cX7_tell 2 (some .int)] : List Cond) := goodIn_r _ [6] (by decide +kernel) (by decide +kernel)
set_option maxRecDepth 20000 in
theorem lq_27 : GoodIn wsL_sound ([.fieldLink RX7 10 "ReelChanger" "room" "LReelChanger$Room;", .fieldLink RX7 106 "ReelChanger$Room" "show" "LReelChanger$Show;", .methodLink RX7 142 yX5_count, .instanceMethod yX5_count, .selects RX5 yX5_count yX5_count, .initialized RX5, .code yX5_count cX5_count 2 (some .int), .fieldLink RX5 28 "ReelChanger$Show" "running" "Z", .fieldLink RX5 32 "ReelChanger$Show" "time" "I", .fieldLink RX5 52 "ReelChanger$Show" "front" "I", .fieldLink RX5 36 "ReelChanger$Show" "dark" "I", .fieldLink RX5 39 "ReelChanger$Show" "missed" "I", .fieldLink RX5 42 "ReelChanger$Show" "late" "I", .fieldLink RX5 45 "ReelChanger$Show" "breaks" "I", .fieldLink RX5 55 "ReelChanger$Show" "threaded" "I", .fieldLink RX5 12 "ReelChanger$Show" "operator" "LReelChanger$Operator;", .fieldLink RX5 64 "ReelChanger$Operator" "rowCount" "I", .fieldLink RX5 67 "ReelChanger$Operator" "ticksLeft" "I", .constant RX5 70 (-100001)] : List Cond) := goodIn_r _ [7, 8, 9, 10, 11, 12, 13, 14, 15, 16, 17, 18, 19, 20, 21, 22, 23, 24, 25] (by decide +kernel) (by decide +kernel)
set_option maxRecDepth 20000 in
theorem lq_28 : GoodIn wsL_sound (wsX70 : List Cond) := goodIn_r _ [77, 78, 79, 80] (by decide +kernel) (by decide +kernel)
set_option maxRecDepth 20000 in
theorem lq_29 : GoodIn wsL_sound (wsX40 : List Cond) := goodIn_r _ [81, 82] (by decide +kernel) (by decide +kernel)
set_option maxRecDepth 20000 in
theorem lq_30 : GoodIn wsL_sound (wsX50 : List Cond) := goodIn_r _ [83, 84, 85, 86, 87, 88, 89, 90, 91, 92, 93, 94] (by decide +kernel) (by decide +kernel)
set_option maxRecDepth 20000 in
theorem lq_31 : GoodIn wsL_sound (wsX00 : List Cond) := goodIn_r _ [95, 96, 97, 98, 99, 100] (by decide +kernel) (by decide +kernel)
set_option maxRecDepth 20000 in
theorem lq_32 : GoodIn wsL_sound ([.code yX7_task cX7_task 4 (some .int)] : List Cond) := goodIn_r _ [29] (by decide +kernel) (by decide +kernel)
set_option maxRecDepth 20000 in
theorem lq_33 : GoodIn wsL_sound (wsX7_task_r1 : List Cond) := goodIn_r _ [7, 8, 30, 31, 32, 33, 34, 35, 36, 37, 38, 39, 40, 41, 42, 43, 44, 45, 46, 47, 48, 49, 50, 51] (by decide +kernel) (by decide +kernel)
set_option maxRecDepth 20000 in
theorem lq_34 : GoodIn wsL_sound (wsX7_task_r2 : List Cond) := goodIn_r _ [52, 53] (by decide +kernel) (by decide +kernel)
set_option maxRecDepth 20000 in
theorem lq_35 : GoodIn wsL_sound ([.code yX7_projector cX7_projector 4 (some .int)] : List Cond) := goodIn_r _ [57] (by decide +kernel) (by decide +kernel)
set_option maxRecDepth 20000 in
theorem lq_36 : GoodIn wsL_sound (wsX7_projector_r1 : List Cond) := goodIn_r _ [31, 7, 8, 58, 59, 60, 61, 32, 62, 63, 5, 64, 65, 66, 67, 12, 68, 69, 70, 71, 72, 73, 74, 75] (by decide +kernel) (by decide +kernel)
set_option maxRecDepth 20000 in
theorem lq_37 : GoodIn wsL_sound (wsX7_projector_r2 : List Cond) := goodIn_r _ [76] (by decide +kernel) (by decide +kernel)
set_option maxRecDepth 20000 in
theorem lq_38 : GoodIn wsL_sound (wsX20 : List Cond) := goodIn_r _ [101, 102, 103] (by decide +kernel) (by decide +kernel)
set_option maxRecDepth 20000 in
theorem lq_99 : GoodIn wsL_refuses ([.code yX7_checksum cX7_checksum 3 (some .long)] : List Cond) := goodIn_r _ [7] (by decide +kernel) (by decide +kernel)
set_option maxRecDepth 20000 in
theorem lq_100 : GoodIn wsL_refuses (wsX7_checksum_r1 : List Cond) := goodIn_r _ [8, 9, 10, 11, 12, 13, 14, 15, 16, 6, 17, 18, 19, 20, 21, 22, 23, 24, 25, 26, 27, 28, 29, 30] (by decide +kernel) (by decide +kernel)
set_option maxRecDepth 20000 in
theorem lq_101 : GoodIn wsL_refuses (wsX7_checksum_r2 : List Cond) := goodIn_r _ [31, 32, 33, 34, 35, 36, 37, 38, 39, 40, 41, 42, 43, 44, 45, 46, 47, 48, 49, 50, 51, 52, 53, 54] (by decide +kernel) (by decide +kernel)
set_option maxRecDepth 20000 in
theorem lq_102 : GoodIn wsL_refuses (wsX7_checksum_r3 : List Cond) := goodIn_r _ [55, 56, 57, 58, 59, 60, 61, 62, 63, 64, 65, 66, 67, 68, 69, 70, 71, 72, 73, 74, 75, 76, 77, 78] (by decide +kernel) (by decide +kernel)
set_option maxRecDepth 20000 in
theorem lq_103 : GoodIn wsL_refuses (wsX7_checksum_r4 : List Cond) := goodIn_r _ [79, 80, 81, 82, 83, 84, 85, 86, 87, 88, 89, 90, 91, 92, 93, 94, 95, 96, 97, 98, 99, 100, 101, 102] (by decide +kernel) (by decide +kernel)
set_option maxRecDepth 20000 in
theorem lq_104 : GoodIn wsL_refuses (wsX7_checksum_r5 : List Cond) := goodIn_r _ [103, 104, 105, 106, 107, 108, 109, 110, 111, 112, 113, 114, 115, 116, 117, 118, 119, 120, 121, 122, 123, 124, 125, 126] (by decide +kernel) (by decide +kernel)
set_option maxRecDepth 20000 in
theorem lq_105 : GoodIn wsL_refuses (wsX7_checksum_r6 : List Cond) := goodIn_r _ [127, 128, 129, 130, 131, 132, 133, 134, 135, 136, 137, 138, 139, 140, 141, 142, 143, 144, 145, 146, 147, 148, 149, 150] (by decide +kernel) (by decide +kernel)
set_option maxRecDepth 20000 in
theorem lq_106 : GoodIn wsL_refuses (wsX7_checksum_r7 : List Cond) := goodIn_r _ [151, 152, 153, 154, 155, 156, 157, 158, 159, 160, 161, 162, 163, 164, 165, 166, 167, 168, 169, 170, 171, 172, 173, 174] (by decide +kernel) (by decide +kernel)
set_option maxRecDepth 20000 in
theorem lq_107 : GoodIn wsL_refuses (wsX7_checksum_r8 : List Cond) := goodIn_r _ [175, 176, 177, 178, 179, 180, 181, 182, 183, 184, 185, 186, 187, 188, 189, 190, 191, 192, 193, 194, 195, 196, 197, 198] (by decide +kernel) (by decide +kernel)
set_option maxRecDepth 20000 in
theorem lq_108 : GoodIn wsL_refuses (wsX7_checksum_r9 : List Cond) := goodIn_r _ [199, 200, 201, 202, 203, 204, 205, 206, 207, 208, 209, 210, 211, 212, 213, 214, 215, 216, 217, 218, 219, 220, 221, 222] (by decide +kernel) (by decide +kernel)
set_option maxRecDepth 20000 in
theorem lq_109 : GoodIn wsL_refuses (wsX7_checksum_r10 : List Cond) := goodIn_r _ [223, 224, 225, 226, 227, 228, 229, 230, 231, 232, 233, 234, 235, 236, 237, 238, 239, 240, 241, 242, 243, 244, 245, 246] (by decide +kernel) (by decide +kernel)
set_option maxRecDepth 20000 in
theorem lq_110 : GoodIn wsL_refuses (wsX7_checksum_r11 : List Cond) := goodIn_r _ [247, 248, 249, 250, 251, 252, 253, 254, 255, 256, 257, 258, 259, 260, 261, 262, 263, 264, 265, 266, 267, 268, 269, 270] (by decide +kernel) (by decide +kernel)
set_option maxRecDepth 20000 in
theorem lq_111 : GoodIn wsL_refuses (wsX7_checksum_r12 : List Cond) := goodIn_r _ [271, 272, 273, 274, 275, 276, 277, 278, 279, 280, 281, 282, 283, 284, 285, 286, 287, 288, 289, 290, 291, 292, 293, 294] (by decide +kernel) (by decide +kernel)
set_option maxRecDepth 20000 in
theorem lq_112 : GoodIn wsL_refuses (wsX7_checksum_r13 : List Cond) := goodIn_r _ [295, 296, 297, 298, 299, 300, 301, 302, 303, 304, 305, 306, 307, 308, 309, 310, 311, 312, 313, 314, 315, 316, 317, 318] (by decide +kernel) (by decide +kernel)
set_option maxRecDepth 20000 in
theorem lq_113 : GoodIn wsL_refuses (wsX7_checksum_r14 : List Cond) := goodIn_r _ [319, 320, 321, 322, 323, 324, 325, 326, 327, 328, 329, 330, 331, 332, 333, 334, 335, 336, 337] (by decide +kernel) (by decide +kernel)
set_option maxRecDepth 20000 in
theorem lq_114 : GoodIn wsL_refuses (wsX70 : List Cond) := goodIn_r _ [470, 471, 472, 473] (by decide +kernel) (by decide +kernel)
set_option maxRecDepth 20000 in
theorem lq_115 : GoodIn wsL_refuses (wsX40 : List Cond) := goodIn_r _ [474, 475] (by decide +kernel) (by decide +kernel)
set_option maxRecDepth 20000 in
theorem lq_116 : GoodIn wsL_refuses (wsX50 : List Cond) := goodIn_r _ [476, 477, 478, 479, 480, 481, 482, 483, 484, 485, 486, 487] (by decide +kernel) (by decide +kernel)
set_option maxRecDepth 20000 in
theorem lq_117 : GoodIn wsL_refuses (wsX60 : List Cond) := goodIn_r _ [488, 489, 490, 491, 492] (by decide +kernel) (by decide +kernel)
set_option maxRecDepth 20000 in
theorem lq_118 : GoodIn wsL_refuses (wsX30 : List Cond) := goodIn_r _ [493, 494, 495, 496] (by decide +kernel) (by decide +kernel)
set_option maxRecDepth 20000 in
theorem lq_119 : GoodIn wsL_refuses (wsX00 : List Cond) := goodIn_r _ [497, 498, 499, 500, 501, 502] (by decide +kernel) (by decide +kernel)
set_option maxRecDepth 20000 in
theorem lq_120 : GoodIn wsL_refuses (wsX20 : List Cond) := goodIn_r _ [503, 504, 505] (by decide +kernel) (by decide +kernel)
set_option maxRecDepth 20000 in
theorem lq_121 : GoodIn wsL_refuses ([.code yX7_makeReel cX7_makeReel 2 (some .int)] : List Cond) := goodIn_r _ [341] (by decide +kernel) (by decide +kernel)
set_option maxRecDepth 20000 in
theorem lq_122 : GoodIn wsL_refuses (wsX7_makeReel_r1 : List Cond) := goodIn_r _ [35, 9, 13, 111, 112, 6, 113, 342, 343, 344, 39, 345, 41, 346, 234, 37, 38, 40, 42, 347, 348, 349, 46, 350] (by decide +kernel) (by decide +kernel)
set_option maxRecDepth 20000 in
theorem lq_123 : GoodIn wsL_refuses (wsX7_makeReel_r2 : List Cond) := goodIn_r _ [170, 49] (by decide +kernel) (by decide +kernel)
set_option maxRecDepth 20000 in
theorem lq_124 : GoodIn wsL_refuses ([.code yX7_splice cX7_splice 5 (some .int)] : List Cond) := goodIn_r _ [354] (by decide +kernel) (by decide +kernel)
set_option maxRecDepth 20000 in
theorem lq_125 : GoodIn wsL_refuses (wsX7_splice_r1 : List Cond) := goodIn_r _ [9, 13, 32, 33, 35, 36, 37, 38, 39, 40, 41, 42, 111, 112, 6, 113, 355, 356, 357, 46, 358, 50, 49, 359] (by decide +kernel) (by decide +kernel)
set_option maxRecDepth 20000 in
theorem lq_126 : GoodIn wsL_refuses (wsX7_splice_r2 : List Cond) := goodIn_r _ [171, 239, 240, 241, 242, 48, 243, 58, 59, 60] (by decide +kernel) (by decide +kernel)
set_option maxRecDepth 20000 in
theorem lq_127 : GoodIn wsL_refuses ([.code yX7_mend cX7_mend 4 (some .int)] : List Cond) := goodIn_r _ [363] (by decide +kernel) (by decide +kernel)
set_option maxRecDepth 20000 in
theorem lq_128 : GoodIn wsL_refuses ([.fieldLink RX7 10 "ReelChanger" "room" "LReelChanger$Room;", .fieldLink RX7 35 "ReelChanger$Room" "stock" "LReelChanger$Stock;", .constant RX7 49 (-100001), .constant RX7 34 (-100002), .methodLink RX7 45 yX6_reelNumbered, .instanceMethod yX6_reelNumbered, .selects RX6 yX6_reelNumbered yX6_reelNumbered, .initialized RX6, .code yX6_reelNumbered cX6_reelNumbered 2 (some (.object "ReelChanger$Reel")), .fieldLink RX6 34 "ReelChanger$Stock" "reelCount" "I", .fieldLink RX6 13 "ReelChanger$Stock" "reels" "[LReelChanger$Reel;", .methodLink RX7 30 yX7_isWithin, .static yX7_isWithin, .initialized RX7, .code yX7_isWithin cX7_isWithin 3 (some .boolean), .methodLink RX7 60 yX3_removeWeaker, .instanceMethod yX3_removeWeaker, .selects RX3 yX3_removeWeaker yX3_removeWeaker, .initialized RX3, .code yX3_removeWeaker cX3_removeWeaker 5 (some .int), .fieldLink RX3 22 "ReelChanger$Reel" "spliceCount" "I", .fieldLink RX3 15 "ReelChanger$Reel" "strengths" "[I", .fieldLink RX3 11 "ReelChanger$Reel" "frames" "[I"] : List Cond) := goodIn_r _ [9, 13, 32, 35, 36, 37, 38, 39, 40, 41, 42, 111, 112, 6, 113, 364, 365, 366, 46, 367, 49, 50, 171] (by decide +kernel) (by decide +kernel)
set_option maxRecDepth 20000 in
theorem lq_129 : GoodIn wsL_refuses ([.code yX7_reel cX7_reel 4 (some .int)] : List Cond) := goodIn_r _ [31] (by decide +kernel) (by decide +kernel)
set_option maxRecDepth 20000 in
theorem lq_130 : GoodIn wsL_refuses ([.fieldLink RX7 10 "ReelChanger" "room" "LReelChanger$Room;", .fieldLink RX7 35 "ReelChanger$Room" "stock" "LReelChanger$Stock;", .constant RX7 49 (-100001), .fieldLink RX7 50 "ReelChanger$Reel" "length" "I", .fieldLink RX7 63 "ReelChanger$Reel" "spliceCount" "I", .constant RX7 34 (-100002), .methodLink RX7 45 yX6_reelNumbered, .instanceMethod yX6_reelNumbered, .selects RX6 yX6_reelNumbered yX6_reelNumbered, .initialized RX6, .code yX6_reelNumbered cX6_reelNumbered 2 (some (.object "ReelChanger$Reel")), .fieldLink RX6 34 "ReelChanger$Stock" "reelCount" "I", .fieldLink RX6 13 "ReelChanger$Stock" "reels" "[LReelChanger$Reel;", .methodLink RX7 66 yX3_leastStrength, .instanceMethod yX3_leastStrength, .selects RX3 yX3_leastStrength yX3_leastStrength, .initialized RX3, .code yX3_leastStrength cX3_leastStrength 3 (some .int), .constant RX3 31 (-100005), .fieldLink RX3 22 "ReelChanger$Reel" "spliceCount" "I", .fieldLink RX3 15 "ReelChanger$Reel" "strengths" "[I"] : List Cond) := goodIn_r _ [9, 13, 32, 33, 34, 35, 36, 37, 38, 39, 40, 41, 42, 43, 44, 45, 46, 47, 48, 49, 50] (by decide +kernel) (by decide +kernel)
set_option maxRecDepth 20000 in
theorem lq_131 : GoodIn wsL_refuses ([.code yX7_spliceAt cX7_spliceAt 5 (some .int)] : List Cond) := goodIn_r _ [54] (by decide +kernel) (by decide +kernel)
set_option maxRecDepth 20000 in
theorem lq_132 : GoodIn wsL_refuses ([.fieldLink RX7 10 "ReelChanger" "room" "LReelChanger$Room;", .fieldLink RX7 35 "ReelChanger$Room" "stock" "LReelChanger$Stock;", .constant RX7 49 (-100001), .fieldLink RX7 74 "ReelChanger$Reel" "strengths" "[I", .fieldLink RX7 78 "ReelChanger$Reel" "frames" "[I", .methodLink RX7 45 yX6_reelNumbered, .instanceMethod yX6_reelNumbered, .selects RX6 yX6_reelNumbered yX6_reelNumbered, .initialized RX6, .code yX6_reelNumbered cX6_reelNumbered 2 (some (.object "ReelChanger$Reel")), .fieldLink RX6 34 "ReelChanger$Stock" "reelCount" "I", .fieldLink RX6 13 "ReelChanger$Stock" "reels" "[LReelChanger$Reel;", .methodLink RX7 70 yX3_hasSplice, .instanceMethod yX3_hasSplice, .selects RX3 yX3_hasSplice yX3_hasSplice, .initialized RX3, .code yX3_hasSplice cX3_hasSplice 2 (some .boolean), .fieldLink RX3 22 "ReelChanger$Reel" "spliceCount" "I"] : List Cond) := goodIn_r _ [9, 13, 32, 55, 56, 36, 37, 38, 39, 40, 41, 42, 57, 58, 59, 46, 60, 49] (by decide +kernel) (by decide +kernel)
set_option maxRecDepth 20000 in
theorem lq_133 : GoodIn wsL_refuses ([.code yX7_set cX7_set 4 (some .int)] : List Cond) := goodIn_r _ [373] (by decide +kernel) (by decide +kernel)
set_option maxRecDepth 20000 in
theorem lq_134 : GoodIn wsL_refuses (wsX7_set_r1 : List Cond) := goodIn_r _ [9, 13, 374, 375, 6, 376, 32, 35, 111, 112, 113, 377, 378, 39, 379, 380, 381, 382, 383, 384, 385, 65, 386, 62] (by decide +kernel) (by decide +kernel)
set_option maxRecDepth 20000 in
theorem lq_135 : GoodIn wsL_refuses (wsX7_set_r2 : List Cond) := goodIn_r _ [63, 64, 66, 387] (by decide +kernel) (by decide +kernel)
set_option maxRecDepth 20000 in
theorem lq_136 : GoodIn wsL_refuses ([.code yX7_append cX7_append 2 (some .int)] : List Cond) := goodIn_r _ [391] (by decide +kernel) (by decide +kernel)
set_option maxRecDepth 20000 in
theorem lq_137 : GoodIn wsL_refuses ([.constant RX7 34 (-100002), .fieldLink RX7 26 "ReelChanger" "text" "LReelChanger$ProgramText;", .methodLink RX7 30 yX7_isWithin, .static yX7_isWithin, .initialized RX7, .code yX7_isWithin cX7_isWithin 3 (some .boolean), .methodLink RX7 87 yX1_add, .instanceMethod yX1_add, .selects RX1 yX1_add yX1_add, .initialized RX1, .code yX1_add cX1_add 2 (some .int), .fieldLink RX1 23 "ReelChanger$ProgramText" "length" "I", .constant RX1 27 (-100004), .fieldLink RX1 17 "ReelChanger$ProgramText" "letters" "[I"] : List Cond) := goodIn_r _ [35, 392, 111, 112, 6, 113, 393, 394, 395, 396, 397, 398, 399, 400] (by decide +kernel) (by decide +kernel)
set_option maxRecDepth 20000 in
theorem lq_138 : GoodIn wsL_refuses (wsX10 : List Cond) := goodIn_r _ [506, 507, 508, 509, 510, 511] (by decide +kernel) (by decide +kernel)
set_option maxRecDepth 20000 in
theorem lq_139 : GoodIn wsL_refuses ([.code yX7_program cX7_program 2 (some .int)] : List Cond) := goodIn_r _ [70] (by decide +kernel) (by decide +kernel)
set_option maxRecDepth 20000 in
theorem lq_140 : GoodIn wsL_refuses ([.fieldLink RX7 10 "ReelChanger" "room" "LReelChanger$Room;", .fieldLink RX7 35 "ReelChanger$Room" "stock" "LReelChanger$Stock;", .methodLink RX7 128 yX6_numberAtPlace, .instanceMethod yX6_numberAtPlace, .selects RX6 yX6_numberAtPlace yX6_numberAtPlace, .initialized RX6, .code yX6_numberAtPlace cX6_numberAtPlace 2 (some .int), .fieldLink RX6 42 "ReelChanger$Stock" "placeCount" "I", .fieldLink RX6 21 "ReelChanger$Stock" "places" "[I", .constant RX6 64 (-100001)] : List Cond) := goodIn_r _ [9, 13, 71, 72, 73, 39, 74, 75, 76, 66] (by decide +kernel) (by decide +kernel)
set_option maxRecDepth 20000 in
theorem lq_141 : GoodIn wsL_refuses ([.code yX7_pass cX7_pass 2 (some .int)] : List Cond) := goodIn_r _ [405] (by decide +kernel) (by decide +kernel)
set_option maxRecDepth 20000 in
theorem lq_142 : GoodIn wsL_refuses (wsX7_pass_r1 : List Cond) := goodIn_r _ [35, 9, 10, 11, 406, 13, 111, 112, 6, 113, 197, 198, 199, 89, 200, 91, 201, 118, 119, 202, 203, 204, 205, 99] (by decide +kernel) (by decide +kernel)
set_option maxRecDepth 20000 in
theorem lq_143 : GoodIn wsL_refuses (wsX7_pass_r2 : List Cond) := goodIn_r _ [101, 100, 206, 207, 208, 129, 209, 131, 210, 211, 212, 213, 214, 215, 216, 98, 217, 115, 116, 117, 218, 219, 220, 123] (by decide +kernel) (by decide +kernel)
set_option maxRecDepth 20000 in
theorem lq_144 : GoodIn wsL_refuses (wsX7_pass_r3 : List Cond) := goodIn_r _ [221, 125, 195, 222, 223, 224, 225, 226, 227, 228, 178, 179, 180, 229, 230, 231, 39, 232, 233, 72, 73, 74, 75, 76] (by decide +kernel) (by decide +kernel)
set_option maxRecDepth 20000 in
theorem lq_145 : GoodIn wsL_refuses (wsX7_pass_r4 : List Cond) := goodIn_r _ [66, 234, 37, 38, 40, 41, 42, 235, 236, 237, 46, 238, 50, 239, 240, 241, 242, 49, 171, 48, 243, 58, 59, 60] (by decide +kernel) (by decide +kernel)
set_option maxRecDepth 20000 in
theorem lq_146 : GoodIn wsL_refuses (wsX7_pass_r5 : List Cond) := goodIn_r _ [244, 62, 63, 64, 65, 245, 246, 247, 248, 249, 138, 139, 140, 141, 142, 143, 144, 127, 128, 130, 132, 250, 146, 147] (by decide +kernel) (by decide +kernel)
set_option maxRecDepth 20000 in
theorem lq_147 : GoodIn wsL_refuses (wsX7_pass_r6 : List Cond) := goodIn_r _ [148, 149, 150, 251, 252, 253, 254, 255, 256, 257, 258, 259, 260, 190, 163, 164, 165, 261, 262, 263, 264, 93, 265, 266] (by decide +kernel) (by decide +kernel)
set_option maxRecDepth 20000 in
theorem lq_148 : GoodIn wsL_refuses (wsX7_pass_r7 : List Cond) := goodIn_r _ [267, 268, 96, 269, 270, 271, 272, 273, 274, 275, 276, 185, 277, 278, 279, 280, 196, 281, 282, 283, 284, 285, 286, 287] (by decide +kernel) (by decide +kernel)
set_option maxRecDepth 20000 in
theorem lq_149 : GoodIn wsL_refuses (wsX7_pass_r8 : List Cond) := goodIn_r _ [288, 289, 290, 291, 97, 292, 293, 294, 295, 296, 297, 298, 299, 300, 301, 302, 303, 304, 305, 306, 307, 308, 309, 310] (by decide +kernel) (by decide +kernel)
set_option maxRecDepth 20000 in
theorem lq_150 : GoodIn wsL_refuses (wsX7_pass_r9 : List Cond) := goodIn_r _ [311, 312, 313, 314, 315, 316, 317, 318, 319, 320, 321, 322, 323, 324, 95, 325, 326, 327, 328, 92, 94] (by decide +kernel) (by decide +kernel)
set_option maxRecDepth 20000 in
theorem lq_151 : GoodIn wsL_refuses ([.code yX7_tell cX7_tell 2 (some .int)] : List Cond) := goodIn_r _ [85] (by decide +kernel) (by decide +kernel)
set_option maxRecDepth 20000 in
theorem lq_152 : GoodIn wsL_refuses ([.fieldLink RX7 10 "ReelChanger" "room" "LReelChanger$Room;", .fieldLink RX7 106 "ReelChanger$Room" "show" "LReelChanger$Show;", .methodLink RX7 142 yX5_count, .instanceMethod yX5_count, .selects RX5 yX5_count yX5_count, .initialized RX5, .code yX5_count cX5_count 2 (some .int), .fieldLink RX5 28 "ReelChanger$Show" "running" "Z", .fieldLink RX5 32 "ReelChanger$Show" "time" "I", .fieldLink RX5 52 "ReelChanger$Show" "front" "I", .fieldLink RX5 36 "ReelChanger$Show" "dark" "I", .fieldLink RX5 39 "ReelChanger$Show" "missed" "I", .fieldLink RX5 42 "ReelChanger$Show" "late" "I", .fieldLink RX5 45 "ReelChanger$Show" "breaks" "I", .fieldLink RX5 55 "ReelChanger$Show" "threaded" "I", .fieldLink RX5 12 "ReelChanger$Show" "operator" "LReelChanger$Operator;", .fieldLink RX5 64 "ReelChanger$Operator" "rowCount" "I", .fieldLink RX5 67 "ReelChanger$Operator" "ticksLeft" "I", .constant RX5 70 (-100001)] : List Cond) := goodIn_r _ [9, 10, 86, 87, 88, 89, 90, 91, 92, 93, 94, 95, 96, 97, 98, 99, 100, 101, 102] (by decide +kernel) (by decide +kernel)
set_option maxRecDepth 20000 in
theorem lq_153 : GoodIn wsL_refuses ([.code yX7_projector cX7_projector 4 (some .int)] : List Cond) := goodIn_r _ [106] (by decide +kernel) (by decide +kernel)
set_option maxRecDepth 20000 in
theorem lq_154 : GoodIn wsL_refuses (wsX7_projector_r1 : List Cond) := goodIn_r _ [32, 9, 10, 107, 108, 109, 110, 35, 111, 112, 6, 113, 114, 115, 116, 89, 117, 118, 119, 120, 121, 122, 123, 124] (by decide +kernel) (by decide +kernel)
set_option maxRecDepth 20000 in
theorem lq_155 : GoodIn wsL_refuses (wsX7_projector_r2 : List Cond) := goodIn_r _ [125] (by decide +kernel) (by decide +kernel)
set_option maxRecDepth 20000 in
theorem lq_156 : GoodIn wsL_refuses ([.code yX7_task cX7_task 4 (some .int)] : List Cond) := goodIn_r _ [136] (by decide +kernel) (by decide +kernel)
set_option maxRecDepth 20000 in
theorem lq_157 : GoodIn wsL_refuses (wsX7_task_r1 : List Cond) := goodIn_r _ [9, 10, 81, 32, 35, 126, 127, 128, 129, 130, 131, 132, 137, 138, 139, 140, 141, 142, 143, 144, 145, 146, 147, 148] (by decide +kernel) (by decide +kernel)
set_option maxRecDepth 20000 in
theorem lq_158 : GoodIn wsL_refuses (wsX7_task_r2 : List Cond) := goodIn_r _ [149, 150] (by decide +kernel) (by decide +kernel)
set_option maxRecDepth 20000 in
theorem lq_159 : GoodIn wsL_refuses ([.code yX7_forecast cX7_forecast 2 (some .int)] : List Cond) := goodIn_r _ [413] (by decide +kernel) (by decide +kernel)
set_option maxRecDepth 20000 in
theorem lq_160 : GoodIn wsL_refuses (wsX7_forecast_r1 : List Cond) := goodIn_r _ [32, 9, 10, 11, 406, 12, 13, 111, 112, 6, 113, 151, 152, 153, 154, 155, 156, 157, 158, 159, 160, 39, 161, 41] (by decide +kernel) (by decide +kernel)
set_option maxRecDepth 20000 in
theorem lq_161 : GoodIn wsL_refuses (wsX7_forecast_r2 : List Cond) := goodIn_r _ [42, 65, 162, 163, 164, 165, 76, 75, 166, 167, 168, 46, 169, 170, 49, 171, 172, 50, 173, 174, 175, 176, 177, 178] (by decide +kernel) (by decide +kernel)
set_option maxRecDepth 20000 in
theorem lq_162 : GoodIn wsL_refuses (wsX7_forecast_r3 : List Cond) := goodIn_r _ [179, 180, 181, 182, 183, 89, 184, 91, 92, 94, 95, 96, 97, 99, 93, 98, 185, 118, 119, 186, 187, 188, 129, 189] (by decide +kernel) (by decide +kernel)
set_option maxRecDepth 20000 in
theorem lq_163 : GoodIn wsL_refuses (wsX7_forecast_r4 : List Cond) := goodIn_r _ [131, 132, 142, 149, 143, 190, 150, 191, 192, 193, 123, 194, 125, 195, 196, 197, 198, 199, 200, 201, 202, 203, 204, 205] (by decide +kernel) (by decide +kernel)
set_option maxRecDepth 20000 in
theorem lq_164 : GoodIn wsL_refuses (wsX7_forecast_r5 : List Cond) := goodIn_r _ [101, 100, 206, 207, 208, 209, 210, 211, 212, 213, 214, 215, 216, 217, 115, 116, 117, 218, 219, 220, 221, 222, 223, 224] (by decide +kernel) (by decide +kernel)
set_option maxRecDepth 20000 in
theorem lq_165 : GoodIn wsL_refuses (wsX7_forecast_r6 : List Cond) := goodIn_r _ [225, 226, 227, 228, 229, 230, 231, 232, 233, 72, 73, 74, 66, 234, 37, 38, 40, 235, 236, 237, 238, 239, 240, 241] (by decide +kernel) (by decide +kernel)
set_option maxRecDepth 20000 in
theorem lq_166 : GoodIn wsL_refuses (wsX7_forecast_r7 : List Cond) := goodIn_r _ [242, 48, 243, 58, 59, 60, 244, 62, 63, 64, 245, 246, 247, 248, 249, 138, 139, 140, 141, 144, 127, 128, 130, 250] (by decide +kernel) (by decide +kernel)
set_option maxRecDepth 20000 in
theorem lq_167 : GoodIn wsL_refuses (wsX7_forecast_r8 : List Cond) := goodIn_r _ [146, 147, 148, 251, 252, 253, 254, 255, 256, 257, 258, 259, 260, 261, 262, 263, 264, 265, 266, 267, 268, 269, 270, 271] (by decide +kernel) (by decide +kernel)
set_option maxRecDepth 20000 in
theorem lq_168 : GoodIn wsL_refuses (wsX7_forecast_r9 : List Cond) := goodIn_r _ [272, 273, 274, 275, 276, 277, 278, 279, 280, 281, 282, 283, 284, 285, 286, 287, 288, 289, 290, 291, 292, 293, 294, 295] (by decide +kernel) (by decide +kernel)
set_option maxRecDepth 20000 in
theorem lq_169 : GoodIn wsL_refuses (wsX7_forecast_r10 : List Cond) := goodIn_r _ [296, 297, 298, 299, 300, 301, 302, 303, 304, 305, 306, 307, 308, 309, 310, 311, 312, 313, 314, 315, 316, 317, 318, 319] (by decide +kernel) (by decide +kernel)
set_option maxRecDepth 20000 in
theorem lq_170 : GoodIn wsL_refuses (wsX7_forecast_r11 : List Cond) := goodIn_r _ [320, 321, 322, 323, 324, 325, 326, 327, 328, 329, 330, 331, 332, 108, 333, 334, 335, 336, 337] (by decide +kernel) (by decide +kernel)
set_option maxRecDepth 20000 in
theorem lq_171 : GoodIn wsL_refuses ([.code yX7_darkWith cX7_darkWith 4 (some .int)] : List Cond) := goodIn_r _ [417] (by decide +kernel) (by decide +kernel)
set_option maxRecDepth 20000 in
theorem lq_172 : GoodIn wsL_refuses (wsX7_darkWith_r1 : List Cond) := goodIn_r _ [9, 13, 19, 406, 12, 10, 374, 375, 6, 376, 32, 35, 111, 112, 113, 377, 378, 39, 379, 380, 381, 151, 152, 153] (by decide +kernel) (by decide +kernel)
set_option maxRecDepth 20000 in
theorem lq_173 : GoodIn wsL_refuses (wsX7_darkWith_r2 : List Cond) := goodIn_r _ [154, 155, 156, 157, 158, 159, 160, 161, 41, 42, 65, 162, 163, 164, 165, 76, 75, 166, 167, 168, 46, 169, 170, 49] (by decide +kernel) (by decide +kernel)
set_option maxRecDepth 20000 in
theorem lq_174 : GoodIn wsL_refuses (wsX7_darkWith_r3 : List Cond) := goodIn_r _ [171, 172, 50, 173, 174, 175, 176, 177, 178, 179, 180, 181, 182, 183, 89, 184, 91, 92, 94, 95, 96, 97, 99, 93] (by decide +kernel) (by decide +kernel)
set_option maxRecDepth 20000 in
theorem lq_175 : GoodIn wsL_refuses (wsX7_darkWith_r4 : List Cond) := goodIn_r _ [98, 185, 118, 119, 186, 187, 188, 129, 189, 131, 132, 142, 149, 143, 190, 150, 191, 192, 193, 123, 194, 125, 195, 196] (by decide +kernel) (by decide +kernel)
set_option maxRecDepth 20000 in
theorem lq_176 : GoodIn wsL_refuses (wsX7_darkWith_r5 : List Cond) := goodIn_r _ [382, 383, 384, 385, 386, 62, 63, 64, 66, 387, 418, 419, 420, 421, 216, 226, 307, 422, 423, 424, 425, 218, 219, 220] (by decide +kernel) (by decide +kernel)
set_option maxRecDepth 20000 in
theorem lq_177 : GoodIn wsL_refuses (wsX7_darkWith_r6 : List Cond) := goodIn_r _ [221, 197, 198, 199, 200, 201, 202, 203, 204, 205, 101, 100, 206, 207, 208, 209, 210, 211, 212, 213, 214, 215, 217, 115] (by decide +kernel) (by decide +kernel)
set_option maxRecDepth 20000 in
theorem lq_178 : GoodIn wsL_refuses (wsX7_darkWith_r7 : List Cond) := goodIn_r _ [116, 117, 222, 223, 224, 225, 227, 228, 229, 230, 231, 232, 233, 72, 73, 74, 234, 37, 38, 40, 235, 236, 237, 238] (by decide +kernel) (by decide +kernel)
set_option maxRecDepth 20000 in
theorem lq_179 : GoodIn wsL_refuses (wsX7_darkWith_r8 : List Cond) := goodIn_r _ [239, 240, 241, 242, 48, 243, 58, 59, 60, 244, 245, 246, 247, 248, 249, 138, 139, 140, 141, 144, 127, 128, 130, 250] (by decide +kernel) (by decide +kernel)
set_option maxRecDepth 20000 in
theorem lq_180 : GoodIn wsL_refuses (wsX7_darkWith_r9 : List Cond) := goodIn_r _ [146, 147, 148, 251, 252, 253, 254, 255, 256, 257, 258, 259, 260, 261, 262, 263, 264, 265, 266, 267, 268, 269, 270, 271] (by decide +kernel) (by decide +kernel)
set_option maxRecDepth 20000 in
theorem lq_181 : GoodIn wsL_refuses (wsX7_darkWith_r10 : List Cond) := goodIn_r _ [272, 273, 274, 275, 276, 277, 278, 279, 280, 281, 282, 283, 284, 285, 286, 287, 288, 289, 290, 291, 292, 293, 294, 295] (by decide +kernel) (by decide +kernel)
set_option maxRecDepth 20000 in
theorem lq_182 : GoodIn wsL_refuses (wsX7_darkWith_r11 : List Cond) := goodIn_r _ [296, 297, 298, 299, 300, 301, 302, 303, 304, 305, 306, 308, 309, 310, 311, 312, 313, 314, 315, 316, 317, 318, 319, 320] (by decide +kernel) (by decide +kernel)
set_option maxRecDepth 20000 in
theorem lq_183 : GoodIn wsL_refuses (wsX7_darkWith_r12 : List Cond) := goodIn_r _ [321, 322, 323, 324, 325, 326, 327, 328, 329, 330, 331, 332, 11, 108, 333, 334, 335, 336, 337] (by decide +kernel) (by decide +kernel)
set_option maxRecDepth 20000 in
theorem lq_184 : GoodIn wsL_refuses ([.code yX7_save cX7_save 3 (some .int)] : List Cond) := goodIn_r _ [429] (by decide +kernel) (by decide +kernel)
set_option maxRecDepth 20000 in
theorem lq_185 : GoodIn wsL_refuses (wsX7_save_r1 : List Cond) := goodIn_r _ [32, 430, 431, 432, 154, 9, 13, 18, 111, 112, 6, 113, 433, 434, 435, 436, 437, 438, 439, 39, 156, 440, 441, 89] (by decide +kernel) (by decide +kernel)
set_option maxRecDepth 20000 in
theorem lq_186 : GoodIn wsL_refuses (wsX7_save_r2 : List Cond) := goodIn_r _ [157, 442, 443, 444, 445, 446, 42, 447, 65, 76, 448, 46, 449, 162, 163, 164, 165, 450, 451, 452, 171, 50, 453, 454] (by decide +kernel) (by decide +kernel)
set_option maxRecDepth 20000 in
theorem lq_187 : GoodIn wsL_refuses (wsX7_save_r3 : List Cond) := goodIn_r _ [455, 456, 457, 129, 99, 458, 459, 123, 118, 119, 460, 461, 462, 143, 150, 463, 464, 465, 151, 152, 153, 155, 158, 159] (by decide +kernel) (by decide +kernel)
set_option maxRecDepth 20000 in
theorem lq_188 : GoodIn wsL_refuses (wsX7_save_r4 : List Cond) := goodIn_r _ [160, 161, 41, 75, 166, 167, 168, 169, 170, 49, 172, 173, 174, 175, 176, 177, 178, 179, 180, 181, 182, 183, 184, 91] (by decide +kernel) (by decide +kernel)
set_option maxRecDepth 20000 in
theorem lq_189 : GoodIn wsL_refuses (wsX7_save_r5 : List Cond) := goodIn_r _ [92, 94, 95, 96, 97, 93, 98, 185, 186, 187, 188, 189, 131, 132, 142, 149, 190, 191, 192, 193, 194, 125, 195, 196] (by decide +kernel) (by decide +kernel)
set_option maxRecDepth 20000 in
theorem lq_190 : GoodIn wsL_refuses ([.code yX7_restore cX7_restore 3 (some .int)] : List Cond) := goodIn_r _ [469] (by decide +kernel) (by decide +kernel)
set_option maxRecDepth 20000 in
theorem lq_191 : GoodIn wsL_refuses (wsX7_restore_r1 : List Cond) := goodIn_r _ [32, 430, 406, 9, 13, 18, 111, 112, 6, 113, 151, 152, 153, 154, 155, 156, 157, 158, 159, 160, 39, 161, 41, 42] (by decide +kernel) (by decide +kernel)
set_option maxRecDepth 20000 in
theorem lq_192 : GoodIn wsL_refuses (wsX7_restore_r2 : List Cond) := goodIn_r _ [65, 162, 163, 164, 165, 76, 75, 166, 167, 168, 46, 169, 170, 49, 171, 172, 50, 173, 174, 175, 176, 177, 178, 179] (by decide +kernel) (by decide +kernel)
set_option maxRecDepth 20000 in
theorem lq_193 : GoodIn wsL_refuses (wsX7_restore_r3 : List Cond) := goodIn_r _ [180, 181, 182, 183, 89, 184, 91, 92, 94, 95, 96, 97, 99, 93, 98, 185, 118, 119, 186, 187, 188, 129, 189, 131] (by decide +kernel) (by decide +kernel)
set_option maxRecDepth 20000 in
theorem lq_194 : GoodIn wsL_refuses (wsX7_restore_r4 : List Cond) := goodIn_r _ [132, 142, 149, 143, 190, 150, 191, 192, 193, 123, 194, 125, 195, 196] (by decide +kernel) (by decide +kernel)
