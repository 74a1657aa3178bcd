set_option maxRecDepth 20000 in
theorem lq_195 : GoodIn wsL_law ([.code yX7_init cX7_init 1 none] : List Cond) := goodIn_r _ [7] (by decide +kernel) (by decide +kernel)
set_option maxRecDepth 20000 in
theorem lq_196 : GoodIn wsL_law (wsX7_init_r1 : List Cond) := goodIn_r _ [8, 9, 10, 11, 12, 13, 14, 15, 16, 17, 18, 19, 20, 21, 22, 23, 24, 25, 26, 27, 28, 29, 30, 31] (by decide +kernel) (by decide +kernel)
set_option maxRecDepth 20000 in
theorem lq_197 : GoodIn wsL_law (wsX7_init_r2 : List Cond) := goodIn_r _ [32, 33, 34, 35, 36, 37, 3, 38, 39, 40, 41, 42, 43, 44, 45, 46, 47, 48, 49, 50, 51, 52, 53, 54] (by decide +kernel) (by decide +kernel)
set_option maxRecDepth 20000 in
theorem lq_198 : GoodIn wsL_law (wsX7_init_r3 : List Cond) := goodIn_r _ [55, 56, 57, 58, 59, 60, 61, 62, 63, 64, 65, 66, 67, 68, 69, 70, 71, 72, 73, 74, 75, 76, 77] (by decide +kernel) (by decide +kernel)
set_option maxRecDepth 20000 in
theorem lq_199 : GoodIn wsL_law (wsX40 : List Cond) := goodIn_r _ [565, 566] (by decide +kernel) (by decide +kernel)
set_option maxRecDepth 20000 in
theorem lq_200 : GoodIn wsL_law (wsX70 : List Cond) := goodIn_r _ [561, 562, 563, 564] (by decide +kernel) (by decide +kernel)
set_option maxRecDepth 20000 in
theorem lq_201 : GoodIn wsL_law (wsX10 : List Cond) := goodIn_r _ [567, 568, 569, 570, 571, 572] (by decide +kernel) (by decide +kernel)
set_option maxRecDepth 20000 in
theorem lq_202 : GoodIn wsL_law (wsX60 : List Cond) := goodIn_r _ [573, 574, 575, 576, 577] (by decide +kernel) (by decide +kernel)
set_option maxRecDepth 20000 in
theorem lq_203 : GoodIn wsL_law (wsX50 : List Cond) := goodIn_r _ [578, 579, 580, 581, 582, 583, 584, 585, 586, 587, 588, 589] (by decide +kernel) (by decide +kernel)
set_option maxRecDepth 20000 in
theorem lq_204 : GoodIn wsL_law (wsX30 : List Cond) := goodIn_r _ [590, 591, 592, 593] (by decide +kernel) (by decide +kernel)
set_option maxRecDepth 20000 in
theorem lq_205 : GoodIn wsL_law (wsX00 : List Cond) := goodIn_r _ [594, 595, 596, 597, 598, 599] (by decide +kernel) (by decide +kernel)
set_option maxRecDepth 20000 in
theorem lq_206 : GoodIn wsL_law (wsX20 : List Cond) := goodIn_r _ [600, 601, 602] (by decide +kernel) (by decide +kernel)
set_option maxRecDepth 20000 in
theorem lq_207 : GoodIn wsL_law ([.code yL_first cL_first 1 none] : List Cond) := goodIn_r _ [81] (by decide +kernel) (by decide +kernel)
set_option maxRecDepth 20000 in
theorem lq_208 : GoodIn wsL_law ([] : List Cond) := goodIn_r _ [] (by decide +kernel) (by decide +kernel)
set_option maxRecDepth 20000 in
theorem lq_209 : GoodIn wsL_law ([.code yL_cell cL_cell 2 (some .int)] : List Cond) := goodIn_r _ [84] (by decide +kernel) (by decide +kernel)
set_option maxRecDepth 20000 in
theorem lq_210 : GoodIn wsL_law ([.constant RL 7 (15565493), .constant RL 8 (2147483647)] : List Cond) := goodIn_r _ [85, 86] (by decide +kernel) (by decide +kernel)
set_option maxRecDepth 20000 in
theorem lq_211 : GoodIn wsL_law ([.code yX7_restore cX7_restore 3 (some .int)] : List Cond) := goodIn_r _ [90] (by decide +kernel) (by decide +kernel)
set_option maxRecDepth 20000 in
theorem lq_212 : GoodIn wsL_law (wsX7_restore_r1 : List Cond) := goodIn_r _ [91, 16, 92, 14, 93, 94, 95, 96, 2, 97, 98, 99, 100, 13, 101, 27, 31, 102, 103, 104, 26, 105, 106, 37] (by decide +kernel) (by decide +kernel)
set_option maxRecDepth 20000 in
theorem lq_213 : GoodIn wsL_law (wsX7_restore_r2 : List Cond) := goodIn_r _ [38, 43, 44, 45, 46, 39, 107, 108, 109, 110, 41, 111, 112, 113, 50, 114, 51, 115, 116, 117, 118, 119, 120, 121] (by decide +kernel) (by decide +kernel)
set_option maxRecDepth 20000 in
theorem lq_214 : GoodIn wsL_law (wsX7_restore_r3 : List Cond) := goodIn_r _ [122, 123, 124, 125, 30, 126, 127, 128, 129, 130, 131, 132, 58, 133, 134, 135, 62, 63, 136, 137, 138, 57, 139, 140] (by decide +kernel) (by decide +kernel)
set_option maxRecDepth 20000 in
theorem lq_215 : GoodIn wsL_law (wsX7_restore_r4 : List Cond) := goodIn_r _ [141, 142, 143, 67, 144, 68, 145, 146, 147, 61, 148, 149, 150, 151] (by decide +kernel) (by decide +kernel)
set_option maxRecDepth 20000 in
theorem lq_216 : GoodIn wsL_law ([.code yX7_tell cX7_tell 2 (some .int)] : List Cond) := goodIn_r _ [155] (by decide +kernel) (by decide +kernel)
set_option maxRecDepth 20000 in
theorem lq_217 : GoodIn wsL_law ([.fieldLink RX7 10 "ReelChanger" "room" "LReelChanger$Room;", .fieldLink RX7 106 "ReelChanger$Room" "show" "LReelChanger$Show;", .methodLink RX7 142 yX5_count, .instanceMethod yX5_count, .selects RX5 yX5_count yX5_count, .initialized RX5, .code yX5_count cX5_count 2 (some .int), .fieldLink RX5 28 "ReelChanger$Show" "running" "Z", .fieldLink RX5 32 "ReelChanger$Show" "time" "I", .fieldLink RX5 52 "ReelChanger$Show" "front" "I", .fieldLink RX5 36 "ReelChanger$Show" "dark" "I", .fieldLink RX5 39 "ReelChanger$Show" "missed" "I", .fieldLink RX5 42 "ReelChanger$Show" "late" "I", .fieldLink RX5 45 "ReelChanger$Show" "breaks" "I", .fieldLink RX5 55 "ReelChanger$Show" "threaded" "I", .fieldLink RX5 12 "ReelChanger$Show" "operator" "LReelChanger$Operator;", .fieldLink RX5 64 "ReelChanger$Operator" "rowCount" "I", .fieldLink RX5 67 "ReelChanger$Operator" "ticksLeft" "I", .constant RX5 70 (-100001)] : List Cond) := goodIn_r _ [14, 156, 157, 158, 159, 30, 160, 127, 128, 133, 129, 130, 131, 132, 134, 58, 161, 162, 163] (by decide +kernel) (by decide +kernel)
set_option maxRecDepth 20000 in
theorem lq_218 : GoodIn wsL_law ([.code yX7_faultPosition cX7_faultPosition 1 (some .int)] : List Cond) := goodIn_r _ [167] (by decide +kernel) (by decide +kernel)
set_option maxRecDepth 20000 in
theorem lq_219 : GoodIn wsL_law ([.fieldLink RX7 26 "ReelChanger" "text" "LReelChanger$ProgramText;", .fieldLink RX7 10 "ReelChanger" "room" "LReelChanger$Room;", .fieldLink RX7 35 "ReelChanger$Room" "stock" "LReelChanger$Stock;", .fieldLink RX7 93 "ReelChanger$Stock" "reelCount" "I", .methodLink RX7 96 yX1_findFault, .instanceMethod yX1_findFault, .selects RX1 yX1_findFault yX1_findFault, .initialized RX1, .code yX1_findFault cX1_findFault 4 (some .int), .fieldLink RX1 28 "ReelChanger$ProgramText" "depth" "I", .fieldLink RX1 31 "ReelChanger$ProgramText" "standing" "I", .fieldLink RX1 23 "ReelChanger$ProgramText" "length" "I", .fieldLink RX1 17 "ReelChanger$ProgramText" "letters" "[I", .constant RX1 38 (-100005), .methodLink RX1 34 yX1_standingBehind, .instanceMethod yX1_standingBehind, .selects RX1 yX1_standingBehind yX1_standingBehind, .code yX1_standingBehind cX1_standingBehind 3 (some .int), .methodLink RX1 39 yX1_depthChange, .static yX1_depthChange, .code yX1_depthChange cX1_depthChange 1 (some .int)] : List Cond) := goodIn_r _ [20, 14, 93, 94, 168, 169, 170, 19, 171, 172, 173, 174, 76, 175, 176, 177, 178, 179, 180, 181, 182] (by decide +kernel) (by decide +kernel)
set_option maxRecDepth 20000 in
theorem lq_220 : GoodIn wsL_law ([.code yX7_begin cX7_begin 1 (some .int)] : List Cond) := goodIn_r _ [186] (by decide +kernel) (by decide +kernel)
set_option maxRecDepth 20000 in
theorem lq_221 : GoodIn wsL_law (wsX7_begin_r1 : List Cond) := goodIn_r _ [14, 93, 187, 92, 156, 188, 189, 190, 30, 191, 127, 128, 129, 130, 131, 132, 133, 135, 58, 62, 192, 193, 63, 134] (by decide +kernel) (by decide +kernel)
set_option maxRecDepth 20000 in
theorem lq_222 : GoodIn wsL_law (wsX7_begin_r2 : List Cond) := goodIn_r _ [194, 195, 196, 197, 57, 198, 140, 141, 199, 200, 201, 61, 202, 149, 150] (by decide +kernel) (by decide +kernel)
set_option maxRecDepth 20000 in
theorem lq_223 : GoodIn wsL_law ([.code yL_makes cL_makes 4 (some .boolean)] : List Cond) := goodIn_r _ [205] (by decide +kernel) (by decide +kernel)
set_option maxRecDepth 20000 in
theorem lq_224 : GoodIn wsL_law (wsL_makes_r1 : List Cond) := goodIn_r _ [206, 207, 208, 209, 2, 210, 211, 14, 93, 95, 96, 97, 212, 213, 214, 26, 215, 106, 216, 217, 218, 219, 220, 37] (by decide +kernel) (by decide +kernel)
set_option maxRecDepth 20000 in
theorem lq_225 : GoodIn wsL_law (wsL_makes_r2 : List Cond) := goodIn_r _ [221, 222, 223, 41, 224, 112, 113, 225, 226, 227, 228, 91, 229, 230, 231, 232, 233, 234, 235, 236, 51] (by decide +kernel) (by decide +kernel)
set_option maxRecDepth 20000 in
theorem lq_226 : GoodIn wsL_law ([.code yL_splices cL_splices 9 (some .boolean)] : List Cond) := goodIn_r _ [239] (by decide +kernel) (by decide +kernel)
set_option maxRecDepth 20000 in
theorem lq_227 : GoodIn wsL_law (wsL_splices_r1 : List Cond) := goodIn_r _ [240, 241, 242, 243, 2, 244, 14, 93, 91, 229, 211, 231, 218, 219, 26, 220, 106, 37, 95, 96, 97, 245, 246, 247] (by decide +kernel) (by decide +kernel)
set_option maxRecDepth 20000 in
theorem lq_228 : GoodIn wsL_law (wsL_splices_r2 : List Cond) := goodIn_r _ [41, 248, 51, 113, 249, 50, 250, 251, 252, 253, 236, 254, 255, 256, 257] (by decide +kernel) (by decide +kernel)
set_option maxRecDepth 20000 in
theorem lq_229 : GoodIn wsL_law ([.code yL_sets cL_sets 6 (some .boolean)] : List Cond) := goodIn_r _ [260] (by decide +kernel) (by decide +kernel)
set_option maxRecDepth 20000 in
theorem lq_230 : GoodIn wsL_law (wsL_sets_r1 : List Cond) := goodIn_r _ [261, 262, 263, 264, 80, 265, 266, 267, 268, 269, 270, 271, 2, 272, 14, 93, 273, 274, 275, 91, 211, 95, 96, 97] (by decide +kernel) (by decide +kernel)
set_option maxRecDepth 20000 in
theorem lq_231 : GoodIn wsL_law (wsL_sets_r2 : List Cond) := goodIn_r _ [276, 277, 26, 278, 279, 280, 281, 282, 283, 284, 38, 285, 286, 287, 288, 289, 290] (by decide +kernel) (by decide +kernel)
set_option maxRecDepth 20000 in
theorem lq_232 : GoodIn wsL_law ([.code yX7_append cX7_append 2 (some .int)] : List Cond) := goodIn_r _ [294] (by decide +kernel) (by decide +kernel)
set_option maxRecDepth 20000 in
theorem lq_233 : GoodIn wsL_law ([.constant RX7 34 (-100002), .fieldLink RX7 26 "ReelChanger" "text" "LReelChanger$ProgramText;", .methodLink RX7 30 yX7_isWithin, .static yX7_isWithin, .initialized RX7, .code yX7_isWithin cX7_isWithin 3 (some .boolean), .methodLink RX7 87 yX1_add, .instanceMethod yX1_add, .selects RX1 yX1_add yX1_add, .initialized RX1, .code yX1_add cX1_add 2 (some .int), .fieldLink RX1 23 "ReelChanger$ProgramText" "length" "I", .constant RX1 27 (-100004), .fieldLink RX1 17 "ReelChanger$ProgramText" "letters" "[I"] : List Cond) := goodIn_r _ [211, 20, 95, 96, 2, 97, 295, 296, 297, 19, 298, 174, 299, 76] (by decide +kernel) (by decide +kernel)
set_option maxRecDepth 20000 in
theorem lq_234 : GoodIn wsL_law ([.code yX7_setProgram cX7_setProgram 2 (some .int)] : List Cond) := goodIn_r _ [303] (by decide +kernel) (by decide +kernel)
set_option maxRecDepth 20000 in
theorem lq_235 : GoodIn wsL_law (wsX7_setProgram_r1 : List Cond) := goodIn_r _ [304, 14, 156, 305, 92, 20, 306, 93, 307, 308, 165, 166, 2, 167, 94, 168, 169, 170, 19, 171, 172, 173, 174, 76] (by decide +kernel) (by decide +kernel)
set_option maxRecDepth 20000 in
theorem lq_236 : GoodIn wsL_law (wsX7_setProgram_r2 : List Cond) := goodIn_r _ [175, 176, 177, 178, 179, 180, 181, 182, 309, 310, 311, 312, 299, 77, 313, 314, 315, 316, 317, 318, 121, 319, 75, 320] (by decide +kernel) (by decide +kernel)
set_option maxRecDepth 20000 in
theorem lq_237 : GoodIn wsL_law (wsX7_setProgram_r3 : List Cond) := goodIn_r _ [321, 322, 323, 324, 116, 117, 26, 118, 119, 120, 122, 107, 39] (by decide +kernel) (by decide +kernel)
set_option maxRecDepth 20000 in
theorem lq_238 : GoodIn wsL_law ([.code yL_sound cL_sound 10 (some .boolean)] : List Cond) := goodIn_r _ [327] (by decide +kernel) (by decide +kernel)
set_option maxRecDepth 20000 in
theorem lq_239 : GoodIn wsL_law (wsL_sound_r1 : List Cond) := goodIn_r _ [206, 152, 153, 154, 2, 155, 14, 156, 157, 158, 159, 30, 160, 127, 128, 133, 129, 130, 131, 132, 134, 58, 161, 162] (by decide +kernel) (by decide +kernel)
set_option maxRecDepth 20000 in
theorem lq_240 : GoodIn wsL_law (wsL_sound_r2 : List Cond) := goodIn_r _ [163, 328, 329, 330, 331, 332, 91, 211, 333, 334, 335, 57, 336, 140, 141, 337, 338, 339, 340, 341, 142, 67, 342, 343] (by decide +kernel) (by decide +kernel)
set_option maxRecDepth 20000 in
theorem lq_241 : GoodIn wsL_law (wsL_sound_r3 : List Cond) := goodIn_r _ [344, 345, 346, 143, 68, 347, 348, 349, 350, 351, 304, 352, 353, 95, 96, 97, 354, 355, 356, 357, 62, 63, 358, 359] (by decide +kernel) (by decide +kernel)
set_option maxRecDepth 20000 in
theorem lq_242 : GoodIn wsL_law (wsL_sound_r4 : List Cond) := goodIn_r _ [360, 61, 361, 149] (by decide +kernel) (by decide +kernel)
set_option maxRecDepth 20000 in
theorem lq_243 : GoodIn wsL_law ([.code yL_goes cL_goes 13 (some .boolean)] : List Cond) := goodIn_r _ [364] (by decide +kernel) (by decide +kernel)
set_option maxRecDepth 20000 in
theorem lq_244 : GoodIn wsL_law (wsL_goes_r1 : List Cond) := goodIn_r _ [4, 206, 152, 153, 154, 2, 155, 14, 156, 157, 158, 159, 30, 160, 127, 128, 133, 129, 130, 131, 132, 134, 58, 161] (by decide +kernel) (by decide +kernel)
set_option maxRecDepth 20000 in
theorem lq_245 : GoodIn wsL_law (wsL_goes_r2 : List Cond) := goodIn_r _ [162, 163, 365, 366, 367, 368, 211, 305, 92, 93, 95, 96, 97, 369, 370, 371, 372, 373, 62, 63, 374, 375, 376, 377] (by decide +kernel) (by decide +kernel)
set_option maxRecDepth 20000 in
theorem lq_246 : GoodIn wsL_law (wsL_goes_r3 : List Cond) := goodIn_r _ [378, 379, 380, 57, 381, 140, 382, 383, 384, 385, 386, 387, 192, 388, 355, 356, 357, 199, 200, 201, 61, 202, 149, 150] (by decide +kernel) (by decide +kernel)
set_option maxRecDepth 20000 in
theorem lq_247 : GoodIn wsL_law (wsL_goes_r4 : List Cond) := goodIn_r _ [389, 390, 391, 392, 193, 393, 394, 120, 121, 122, 395, 396, 397, 26, 398, 399, 400, 401, 402, 107, 39, 289, 217, 218] (by decide +kernel) (by decide +kernel)
set_option maxRecDepth 20000 in
theorem lq_248 : GoodIn wsL_law (wsL_goes_r5 : List Cond) := goodIn_r _ [219, 220, 106, 37, 403, 404, 405, 41, 406, 51, 250, 251, 252, 253, 113, 50, 236, 254, 255, 256, 257, 407, 286, 287] (by decide +kernel) (by decide +kernel)
set_option maxRecDepth 20000 in
theorem lq_249 : GoodIn wsL_law (wsL_goes_r6 : List Cond) := goodIn_r _ [288, 38, 408, 409, 410, 411, 412, 338, 339, 340, 341, 142, 67, 342, 334, 335, 336, 141, 413, 344, 345, 346, 143, 68] (by decide +kernel) (by decide +kernel)
set_option maxRecDepth 20000 in
theorem lq_250 : GoodIn wsL_law (wsL_goes_r7 : List Cond) := goodIn_r _ [414, 415, 416, 417, 418, 419, 420, 421, 422, 423, 144, 44, 45, 46, 424, 425, 426, 427, 428, 429, 430, 431, 432, 433] (by decide +kernel) (by decide +kernel)
set_option maxRecDepth 20000 in
theorem lq_251 : GoodIn wsL_law (wsL_goes_r8 : List Cond) := goodIn_r _ [434, 435, 436, 437, 438, 439, 135, 440, 441, 442, 443, 151, 444, 445, 446, 447, 448, 449, 450, 451, 452, 453, 454, 455] (by decide +kernel) (by decide +kernel)
set_option maxRecDepth 20000 in
theorem lq_252 : GoodIn wsL_law (wsL_goes_r9 : List Cond) := goodIn_r _ [456, 457, 458, 459, 318, 319, 460, 461, 462, 463, 464, 465, 466, 467, 194, 468, 469, 470, 471, 472, 473, 474, 475, 476] (by decide +kernel) (by decide +kernel)
set_option maxRecDepth 20000 in
theorem lq_253 : GoodIn wsL_law (wsL_goes_r10 : List Cond) := goodIn_r _ [477, 478, 479, 480, 481, 482, 483, 484, 485, 486, 487, 488, 489, 490, 491, 492, 91, 15, 98, 99, 100, 13, 101, 27] (by decide +kernel) (by decide +kernel)
set_option maxRecDepth 20000 in
theorem lq_254 : GoodIn wsL_law (wsL_goes_r11 : List Cond) := goodIn_r _ [31, 102, 103, 104, 105, 43, 108, 109, 110, 111, 112, 114, 115, 116, 117, 118, 119, 123, 124, 125, 126, 136, 137, 138] (by decide +kernel) (by decide +kernel)
set_option maxRecDepth 20000 in
theorem lq_255 : GoodIn wsL_law (wsL_goes_r12 : List Cond) := goodIn_r _ [139, 145, 146, 147, 148, 493, 494, 495, 496, 304, 497, 498, 499, 500, 501, 502, 503, 504, 505, 506, 507, 508, 509, 510] (by decide +kernel) (by decide +kernel)
set_option maxRecDepth 20000 in
theorem lq_256 : GoodIn wsL_law (wsL_goes_r13 : List Cond) := goodIn_r _ [94, 187, 511, 512, 513, 514, 515, 516, 517, 518, 519, 226, 227, 228, 229, 230, 231, 232, 233, 234, 235, 520, 521, 522] (by decide +kernel) (by decide +kernel)
set_option maxRecDepth 20000 in
theorem lq_257 : GoodIn wsL_law (wsL_goes_r14 : List Cond) := goodIn_r _ [523, 524, 525, 526, 527, 528, 529, 530, 531, 532, 533, 534, 535, 536, 332, 537, 538, 348, 349, 350, 351, 352, 353, 354] (by decide +kernel) (by decide +kernel)
set_option maxRecDepth 20000 in
theorem lq_258 : GoodIn wsL_law (wsL_goes_r15 : List Cond) := goodIn_r _ [358, 359, 360, 361, 333, 539, 329, 330, 331, 337, 343, 540, 541, 542, 543, 16, 11, 12, 21, 22, 23, 9, 10, 24] (by decide +kernel) (by decide +kernel)
set_option maxRecDepth 20000 in
theorem lq_259 : GoodIn wsL_law (wsL_goes_r16 : List Cond) := goodIn_r _ [25, 28, 29, 32, 33, 34, 35, 36, 3, 40, 42, 47, 48, 49, 52, 53, 54, 55, 56, 59, 60, 64, 65, 66] (by decide +kernel) (by decide +kernel)
set_option maxRecDepth 20000 in
theorem lq_260 : GoodIn wsL_law (wsL_goes_r17 : List Cond) := goodIn_r _ [69, 70, 71, 87, 88, 89, 90, 347] (by decide +kernel) (by decide +kernel)
set_option maxRecDepth 20000 in
theorem lq_261 : GoodIn wsL_law ([.code yL_refuses cL_refuses 5 (some .boolean)] : List Cond) := goodIn_r _ [546] (by decide +kernel) (by decide +kernel)
set_option maxRecDepth 20000 in
theorem lq_262 : GoodIn wsL_law (wsL_refuses_r1 : List Cond) := goodIn_r _ [261, 262, 502, 503, 504, 2, 505, 506, 14, 156, 305, 15, 93, 507, 508, 509, 510, 94, 187, 511, 512, 513, 514, 515] (by decide +kernel) (by decide +kernel)
set_option maxRecDepth 20000 in
theorem lq_263 : GoodIn wsL_law (wsL_refuses_r2 : List Cond) := goodIn_r _ [516, 517, 518, 519, 226, 227, 228, 91, 229, 230, 211, 231, 218, 219, 26, 220, 106, 37, 232, 233, 234, 41, 235, 236] (by decide +kernel) (by decide +kernel)
set_option maxRecDepth 20000 in
theorem lq_264 : GoodIn wsL_law (wsL_refuses_r3 : List Cond) := goodIn_r _ [113, 51, 520, 521, 522, 523, 524, 525, 526, 255, 256, 257, 527, 286, 287, 288, 38, 289, 528, 529, 530, 531, 532, 400] (by decide +kernel) (by decide +kernel)
set_option maxRecDepth 20000 in
theorem lq_265 : GoodIn wsL_law (wsL_refuses_r4 : List Cond) := goodIn_r _ [401, 402, 107, 39, 533, 534, 535, 536, 332, 537, 153, 154, 155, 157, 158, 159, 30, 160, 127, 128, 133, 129, 130, 131] (by decide +kernel) (by decide +kernel)
set_option maxRecDepth 20000 in
theorem lq_266 : GoodIn wsL_law (wsL_refuses_r5 : List Cond) := goodIn_r _ [132, 134, 58, 161, 162, 163, 538, 348, 349, 350, 351, 304, 352, 353, 95, 96, 97, 354, 355, 356, 357, 62, 63, 358] (by decide +kernel) (by decide +kernel)
set_option maxRecDepth 20000 in
theorem lq_267 : GoodIn wsL_law (wsL_refuses_r6 : List Cond) := goodIn_r _ [359, 360, 61, 361, 149, 333, 334, 335, 57, 336, 140, 141, 539, 329, 330, 331, 337, 338, 339, 340, 341, 142, 67, 342] (by decide +kernel) (by decide +kernel)
set_option maxRecDepth 20000 in
theorem lq_268 : GoodIn wsL_law (wsL_refuses_r7 : List Cond) := goodIn_r _ [343, 344, 345, 346, 143, 68, 98, 99, 100, 13, 101, 27, 31, 102, 103, 104, 105, 43, 44, 45, 46, 108, 109, 110] (by decide +kernel) (by decide +kernel)
set_option maxRecDepth 20000 in
theorem lq_269 : GoodIn wsL_law (wsL_refuses_r8 : List Cond) := goodIn_r _ [111, 112, 50, 114, 115, 116, 117, 118, 119, 120, 121, 122, 123, 124, 125, 126, 135, 136, 137, 138, 139, 144, 145, 146] (by decide +kernel) (by decide +kernel)
set_option maxRecDepth 20000 in
theorem lq_270 : GoodIn wsL_law (wsL_refuses_r9 : List Cond) := goodIn_r _ [147, 148, 150, 151, 369, 370, 371, 372, 373, 374, 375, 376, 377, 378, 379, 380, 381, 382, 383, 384, 385, 386, 387, 192] (by decide +kernel) (by decide +kernel)
set_option maxRecDepth 20000 in
theorem lq_271 : GoodIn wsL_law (wsL_refuses_r10 : List Cond) := goodIn_r _ [388, 199, 200, 201, 202, 389, 390, 391, 392, 193, 393, 394, 395, 396, 397, 398, 399, 217, 403, 404, 405, 406, 250, 251] (by decide +kernel) (by decide +kernel)
set_option maxRecDepth 20000 in
theorem lq_272 : GoodIn wsL_law (wsL_refuses_r11 : List Cond) := goodIn_r _ [252, 253, 254, 407, 408, 409, 410, 411, 412, 413, 414, 415, 416, 417, 418, 419, 420, 421, 422, 423, 424, 425, 426, 427] (by decide +kernel) (by decide +kernel)
set_option maxRecDepth 20000 in
theorem lq_273 : GoodIn wsL_law (wsL_refuses_r12 : List Cond) := goodIn_r _ [428, 429, 430, 431, 432, 433, 434, 435, 436, 437, 438, 439, 440, 441, 442, 443, 444, 445, 446, 447, 448, 449, 450, 451] (by decide +kernel) (by decide +kernel)
set_option maxRecDepth 20000 in
theorem lq_274 : GoodIn wsL_law (wsL_refuses_r13 : List Cond) := goodIn_r _ [452, 453, 454, 455, 456, 457, 458, 459, 318, 319, 460, 461, 462, 463, 464, 465, 466, 467, 194, 468, 469, 470, 471, 472] (by decide +kernel) (by decide +kernel)
set_option maxRecDepth 20000 in
theorem lq_275 : GoodIn wsL_law (wsL_refuses_r14 : List Cond) := goodIn_r _ [473, 474, 475, 476, 477, 478, 479, 480, 481, 482, 483, 484, 485, 486, 487, 488, 493, 494, 495, 496, 497, 498, 499, 500] (by decide +kernel) (by decide +kernel)
set_option maxRecDepth 20000 in
theorem lq_276 : GoodIn wsL_law (wsL_refuses_r15 : List Cond) := goodIn_r _ [501, 207, 208, 209, 210, 212, 213, 214, 215, 216, 221, 222, 223, 224, 241, 242, 243, 244, 245, 246, 247, 248, 249, 547] (by decide +kernel) (by decide +kernel)
set_option maxRecDepth 20000 in
theorem lq_277 : GoodIn wsL_law (wsL_refuses_r16 : List Cond) := goodIn_r _ [548, 549, 550, 551, 552, 553, 554, 225, 555, 269, 270, 271, 272, 273, 274, 275, 276, 277, 278, 279, 280, 281, 282, 283] (by decide +kernel) (by decide +kernel)
set_option maxRecDepth 20000 in
theorem lq_278 : GoodIn wsL_law (wsL_refuses_r17 : List Cond) := goodIn_r _ [284, 285, 290, 291, 292, 293, 294, 20, 295, 296, 297, 19, 298, 174, 299, 76, 556, 365, 366, 367, 368, 92, 152, 347] (by decide +kernel) (by decide +kernel)
set_option maxRecDepth 20000 in
theorem lq_279 : GoodIn wsL_law (wsL_refuses_r18 : List Cond) := goodIn_r _ [328, 489, 490, 491, 492, 557, 558, 559, 560, 188, 189, 190, 191, 195, 196, 197, 198, 540, 541, 542, 543, 16, 11, 12] (by decide +kernel) (by decide +kernel)
set_option maxRecDepth 20000 in
theorem lq_280 : GoodIn wsL_law (wsL_refuses_r19 : List Cond) := goodIn_r _ [21, 22, 23, 9, 10, 24, 25, 28, 29, 32, 33, 34, 35, 36, 3, 40, 42, 47, 48, 49, 52, 53, 54, 55] (by decide +kernel) (by decide +kernel)
set_option maxRecDepth 20000 in
theorem lq_281 : GoodIn wsL_law (wsL_refuses_r20 : List Cond) := goodIn_r _ [56, 59, 60, 64, 65, 66, 69, 70, 71, 87, 88, 89, 90] (by decide +kernel) (by decide +kernel)
set_option maxRecDepth 20000 in
theorem lq_282 : GoodIn wsL_law ([.code yX7_mend cX7_mend 4 (some .int)] : List Cond) := goodIn_r _ [550] (by decide +kernel) (by decide +kernel)
set_option maxRecDepth 20000 in
theorem lq_283 : GoodIn wsL_law ([.fieldLink RX7 10 "ReelChanger" "room" "LReelChanger$Room;", .fieldLink RX7 35 "ReelChanger$Room" "stock" "LReelChanger$Stock;", .constant RX7 49 (-100001), .constant RX7 34 (-100002), .methodLink RX7 45 yX6_reelNumbered, .instanceMethod yX6_reelNumbered, .selects RX6 yX6_reelNumbered yX6_reelNumbered, .initialized RX6, .code yX6_reelNumbered cX6_reelNumbered 2 (some (.object "ReelChanger$Reel")), .fieldLink RX6 34 "ReelChanger$Stock" "reelCount" "I", .fieldLink RX6 13 "ReelChanger$Stock" "reels" "[LReelChanger$Reel;", .methodLink RX7 30 yX7_isWithin, .static yX7_isWithin, .initialized RX7, .code yX7_isWithin cX7_isWithin 3 (some .boolean), .methodLink RX7 60 yX3_removeWeaker, .instanceMethod yX3_removeWeaker, .selects RX3 yX3_removeWeaker yX3_removeWeaker, .initialized RX3, .code yX3_removeWeaker cX3_removeWeaker 5 (some .int), .fieldLink RX3 22 "ReelChanger$Reel" "spliceCount" "I", .fieldLink RX3 15 "ReelChanger$Reel" "strengths" "[I", .fieldLink RX3 11 "ReelChanger$Reel" "frames" "[I"] : List Cond) := goodIn_r _ [14, 93, 91, 211, 231, 218, 219, 26, 220, 106, 37, 95, 96, 2, 97, 551, 552, 553, 41, 554, 113, 51, 50] (by decide +kernel) (by decide +kernel)
set_option maxRecDepth 20000 in
theorem lq_284 : GoodIn wsL_law ([.code yX7_reel cX7_reel 4 (some .int)] : List Cond) := goodIn_r _ [228] (by decide +kernel) (by decide +kernel)
set_option maxRecDepth 20000 in
theorem lq_285 : GoodIn wsL_law ([.fieldLink RX7 10 "ReelChanger" "room" "LReelChanger$Room;", .fieldLink RX7 35 "ReelChanger$Room" "stock" "LReelChanger$Stock;", .constant RX7 49 (-100001), .fieldLink RX7 50 "ReelChanger$Reel" "length" "I", .fieldLink RX7 63 "ReelChanger$Reel" "spliceCount" "I", .constant RX7 34 (-100002), .methodLink RX7 45 yX6_reelNumbered, .instanceMethod yX6_reelNumbered, .selects RX6 yX6_reelNumbered yX6_reelNumbered, .initialized RX6, .code yX6_reelNumbered cX6_reelNumbered 2 (some (.object "ReelChanger$Reel")), .fieldLink RX6 34 "ReelChanger$Stock" "reelCount" "I", .fieldLink RX6 13 "ReelChanger$Stock" "reels" "[LReelChanger$Reel;", .methodLink RX7 66 yX3_leastStrength, .instanceMethod yX3_leastStrength, .selects RX3 yX3_leastStrength yX3_leastStrength, .initialized RX3, .code yX3_leastStrength cX3_leastStrength 3 (some .int), .constant RX3 31 (-100005), .fieldLink RX3 22 "ReelChanger$Reel" "spliceCount" "I", .fieldLink RX3 15 "ReelChanger$Reel" "strengths" "[I"] : List Cond) := goodIn_r _ [14, 93, 91, 229, 230, 211, 231, 218, 219, 26, 220, 106, 37, 232, 233, 234, 41, 235, 236, 113, 51] (by decide +kernel) (by decide +kernel)
set_option maxRecDepth 20000 in
theorem lq_286 : GoodIn wsL_law ([.code yX7_splice cX7_splice 5 (some .int)] : List Cond) := goodIn_r _ [244] (by decide +kernel) (by decide +kernel)
set_option maxRecDepth 20000 in
theorem lq_287 : GoodIn wsL_law (wsX7_splice_r1 : List Cond) := goodIn_r _ [14, 93, 91, 229, 211, 231, 218, 219, 26, 220, 106, 37, 95, 96, 2, 97, 245, 246, 247, 41, 248, 51, 113, 249] (by decide +kernel) (by decide +kernel)
set_option maxRecDepth 20000 in
theorem lq_288 : GoodIn wsL_law (wsX7_splice_r2 : List Cond) := goodIn_r _ [50, 250, 251, 252, 253, 236, 254, 255, 256, 257] (by decide +kernel) (by decide +kernel)
set_option maxRecDepth 20000 in
theorem lq_289 : GoodIn wsL_law ([.code yX7_checksum cX7_checksum 3 (some .long)] : List Cond) := goodIn_r _ [505] (by decide +kernel) (by decide +kernel)
set_option maxRecDepth 20000 in
theorem lq_290 : GoodIn wsL_law (wsX7_checksum_r1 : List Cond) := goodIn_r _ [506, 14, 156, 305, 15, 93, 507, 508, 509, 2, 510, 94, 187, 511, 512, 513, 514, 515, 516, 517, 518, 519, 226, 227] (by decide +kernel) (by decide +kernel)
set_option maxRecDepth 20000 in
theorem lq_291 : GoodIn wsL_law (wsX7_checksum_r2 : List Cond) := goodIn_r _ [228, 91, 229, 230, 211, 231, 218, 219, 26, 220, 106, 37, 232, 233, 234, 41, 235, 236, 113, 51, 520, 521, 522, 523] (by decide +kernel) (by decide +kernel)
set_option maxRecDepth 20000 in
theorem lq_292 : GoodIn wsL_law (wsX7_checksum_r3 : List Cond) := goodIn_r _ [524, 525, 526, 255, 256, 257, 527, 286, 287, 288, 38, 289, 528, 529, 530, 531, 532, 400, 401, 402, 107, 39, 533, 534] (by decide +kernel) (by decide +kernel)
set_option maxRecDepth 20000 in
theorem lq_293 : GoodIn wsL_law (wsX7_checksum_r4 : List Cond) := goodIn_r _ [535, 536, 332, 537, 153, 154, 155, 157, 158, 159, 30, 160, 127, 128, 133, 129, 130, 131, 132, 134, 58, 161, 162, 163] (by decide +kernel) (by decide +kernel)
set_option maxRecDepth 20000 in
theorem lq_294 : GoodIn wsL_law (wsX7_checksum_r5 : List Cond) := goodIn_r _ [538, 348, 349, 350, 351, 304, 352, 353, 95, 96, 97, 354, 355, 356, 357, 62, 63, 358, 359, 360, 61, 361, 149, 333] (by decide +kernel) (by decide +kernel)
set_option maxRecDepth 20000 in
theorem lq_295 : GoodIn wsL_law (wsX7_checksum_r6 : List Cond) := goodIn_r _ [334, 335, 57, 336, 140, 141, 539, 329, 330, 331, 337, 338, 339, 340, 341, 142, 67, 342, 343, 344, 345, 346, 143, 68] (by decide +kernel) (by decide +kernel)
set_option maxRecDepth 20000 in
theorem lq_296 : GoodIn wsL_law (wsX7_checksum_r7 : List Cond) := goodIn_r _ [98, 99, 100, 13, 101, 27, 31, 102, 103, 104, 105, 43, 44, 45, 46, 108, 109, 110, 111, 112, 50, 114, 115, 116] (by decide +kernel) (by decide +kernel)
set_option maxRecDepth 20000 in
theorem lq_297 : GoodIn wsL_law (wsX7_checksum_r8 : List Cond) := goodIn_r _ [117, 118, 119, 120, 121, 122, 123, 124, 125, 126, 135, 136, 137, 138, 139, 144, 145, 146, 147, 148, 150, 151, 369, 370] (by decide +kernel) (by decide +kernel)
set_option maxRecDepth 20000 in
theorem lq_298 : GoodIn wsL_law (wsX7_checksum_r9 : List Cond) := goodIn_r _ [371, 372, 373, 374, 375, 376, 377, 378, 379, 380, 381, 382, 383, 384, 385, 386, 387, 192, 388, 199, 200, 201, 202, 389] (by decide +kernel) (by decide +kernel)
set_option maxRecDepth 20000 in
theorem lq_299 : GoodIn wsL_law (wsX7_checksum_r10 : List Cond) := goodIn_r _ [390, 391, 392, 193, 393, 394, 395, 396, 397, 398, 399, 217, 403, 404, 405, 406, 250, 251, 252, 253, 254, 407, 408, 409] (by decide +kernel) (by decide +kernel)
set_option maxRecDepth 20000 in
theorem lq_300 : GoodIn wsL_law (wsX7_checksum_r11 : List Cond) := goodIn_r _ [410, 411, 412, 413, 414, 415, 416, 417, 418, 419, 420, 421, 422, 423, 424, 425, 426, 427, 428, 429, 430, 431, 432, 433] (by decide +kernel) (by decide +kernel)
set_option maxRecDepth 20000 in
theorem lq_301 : GoodIn wsL_law (wsX7_checksum_r12 : List Cond) := goodIn_r _ [434, 435, 436, 437, 438, 439, 440, 441, 442, 443, 444, 445, 446, 447, 448, 449, 450, 451, 452, 453, 454, 455, 456, 457] (by decide +kernel) (by decide +kernel)
set_option maxRecDepth 20000 in
theorem lq_302 : GoodIn wsL_law (wsX7_checksum_r13 : List Cond) := goodIn_r _ [458, 459, 318, 319, 460, 461, 462, 463, 464, 465, 466, 467, 194, 468, 469, 470, 471, 472, 473, 474, 475, 476, 477, 478] (by decide +kernel) (by decide +kernel)
set_option maxRecDepth 20000 in
theorem lq_303 : GoodIn wsL_law (wsX7_checksum_r14 : List Cond) := goodIn_r _ [479, 480, 481, 482, 483, 484, 485, 486, 487, 488, 493, 494, 495, 496, 497, 498, 499, 500, 501] (by decide +kernel) (by decide +kernel)
set_option maxRecDepth 20000 in
theorem lq_304 : GoodIn wsL_law ([.code yX7_save cX7_save 3 (some .int)] : List Cond) := goodIn_r _ [543] (by decide +kernel) (by decide +kernel)
set_option maxRecDepth 20000 in
theorem lq_305 : GoodIn wsL_law (wsX7_save_r1 : List Cond) := goodIn_r _ [91, 16, 11, 12, 13, 14, 93, 94, 95, 96, 2, 97, 21, 22, 23, 9, 10, 24, 25, 26, 27, 28, 29, 30] (by decide +kernel) (by decide +kernel)
set_option maxRecDepth 20000 in
theorem lq_306 : GoodIn wsL_law (wsX7_save_r2 : List Cond) := goodIn_r _ [31, 32, 33, 34, 35, 36, 37, 3, 38, 39, 40, 41, 42, 43, 44, 45, 46, 47, 48, 49, 50, 51, 52, 53] (by decide +kernel) (by decide +kernel)
set_option maxRecDepth 20000 in
theorem lq_307 : GoodIn wsL_law (wsX7_save_r3 : List Cond) := goodIn_r _ [54, 55, 56, 57, 58, 59, 60, 61, 62, 63, 64, 65, 66, 67, 68, 69, 70, 71, 98, 99, 100, 101, 102, 103] (by decide +kernel) (by decide +kernel)
set_option maxRecDepth 20000 in
theorem lq_308 : GoodIn wsL_law (wsX7_save_r4 : List Cond) := goodIn_r _ [104, 105, 106, 107, 108, 109, 110, 111, 112, 113, 114, 115, 116, 117, 118, 119, 120, 121, 122, 123, 124, 125, 126, 127] (by decide +kernel) (by decide +kernel)
set_option maxRecDepth 20000 in
theorem lq_309 : GoodIn wsL_law (wsX7_save_r5 : List Cond) := goodIn_r _ [128, 129, 130, 131, 132, 133, 134, 135, 136, 137, 138, 139, 140, 141, 142, 143, 144, 145, 146, 147, 148, 149, 150, 151] (by decide +kernel) (by decide +kernel)
set_option maxRecDepth 20000 in
theorem lq_310 : GoodIn wsL_law ([.code yX7_set cX7_set 4 (some .int)] : List Cond) := goodIn_r _ [272] (by decide +kernel) (by decide +kernel)
set_option maxRecDepth 20000 in
theorem lq_311 : GoodIn wsL_law (wsX7_set_r1 : List Cond) := goodIn_r _ [14, 93, 273, 274, 2, 275, 91, 211, 95, 96, 97, 276, 277, 26, 278, 279, 280, 281, 282, 283, 284, 38, 285, 286] (by decide +kernel) (by decide +kernel)
set_option maxRecDepth 20000 in
theorem lq_312 : GoodIn wsL_law (wsX7_set_r2 : List Cond) := goodIn_r _ [287, 288, 289, 290] (by decide +kernel) (by decide +kernel)
