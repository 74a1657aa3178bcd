set_option maxRecDepth 20000 in
theorem lq_39 : GoodIn wsL_goes ([.code yX7_tell cX7_tell 2 (some .int)] : List Cond) := goodIn_r _ [7] (by decide +kernel) (by decide +kernel)
set_option maxRecDepth 20000 in
theorem lq_40 : GoodIn wsL_goes ([.fieldLink RX7 10 "ReelChanger" "room" "LReelChanger$Room;", .fieldLink RX7 106 "ReelChanger$Room" "show" "LReelChanger$Show;", .methodLink RX7 142 yX5_count, .instanceMethod yX5_count, .selects RX5 yX5_count yX5_count, .initialized RX5, .code yX5_count cX5_count 2 (some .int), .fieldLink RX5 28 "ReelChanger$Show" "running" "Z", .fieldLink RX5 32 "ReelChanger$Show" "time" "I", .fieldLink RX5 52 "ReelChanger$Show" "front" "I", .fieldLink RX5 36 "ReelChanger$Show" "dark" "I", .fieldLink RX5 39 "ReelChanger$Show" "missed" "I", .fieldLink RX5 42 "ReelChanger$Show" "late" "I", .fieldLink RX5 45 "ReelChanger$Show" "breaks" "I", .fieldLink RX5 55 "ReelChanger$Show" "threaded" "I", .fieldLink RX5 12 "ReelChanger$Show" "operator" "LReelChanger$Operator;", .fieldLink RX5 64 "ReelChanger$Operator" "rowCount" "I", .fieldLink RX5 67 "ReelChanger$Operator" "ticksLeft" "I", .constant RX5 70 (-100001)] : List Cond) := goodIn_r _ [8, 9, 10, 11, 12, 13, 14, 15, 16, 17, 18, 19, 20, 21, 22, 23, 24, 25, 26] (by decide +kernel) (by decide +kernel)
set_option maxRecDepth 20000 in
theorem lq_41 : GoodIn wsL_goes (wsX70 : List Cond) := goodIn_r _ [393, 394, 395, 396] (by decide +kernel) (by decide +kernel)
set_option maxRecDepth 20000 in
theorem lq_42 : GoodIn wsL_goes (wsX40 : List Cond) := goodIn_r _ [397, 398] (by decide +kernel) (by decide +kernel)
set_option maxRecDepth 20000 in
theorem lq_43 : GoodIn wsL_goes (wsX50 : List Cond) := goodIn_r _ [399, 400, 401, 402, 403, 404, 405, 406, 407, 408, 409, 410] (by decide +kernel) (by decide +kernel)
set_option maxRecDepth 20000 in
theorem lq_44 : GoodIn wsL_goes (wsX00 : List Cond) := goodIn_r _ [411, 412, 413, 414, 415, 416] (by decide +kernel) (by decide +kernel)
set_option maxRecDepth 20000 in
theorem lq_45 : GoodIn wsL_goes ([.code yX7_pass cX7_pass 2 (some .int)] : List Cond) := goodIn_r _ [30] (by decide +kernel) (by decide +kernel)
set_option maxRecDepth 20000 in
theorem lq_46 : GoodIn wsL_goes (wsX7_pass_r1 : List Cond) := goodIn_r _ [31, 8, 9, 32, 33, 34, 35, 36, 6, 37, 38, 39, 40, 13, 41, 15, 42, 43, 44, 45, 46, 47, 48, 23] (by decide +kernel) (by decide +kernel)
set_option maxRecDepth 20000 in
theorem lq_47 : GoodIn wsL_goes (wsX7_pass_r2 : List Cond) := goodIn_r _ [25, 24, 49, 50, 51, 52, 53, 54, 55, 56, 57, 58, 59, 60, 61, 22, 62, 63, 64, 65, 66, 67, 68, 69] (by decide +kernel) (by decide +kernel)
set_option maxRecDepth 20000 in
theorem lq_48 : GoodIn wsL_goes (wsX7_pass_r3 : List Cond) := goodIn_r _ [70, 71, 72, 73, 74, 75, 76, 77, 78, 79, 80, 81, 82, 83, 84, 85, 86, 87, 88, 89, 90, 91, 92, 93] (by decide +kernel) (by decide +kernel)
set_option maxRecDepth 20000 in
theorem lq_49 : GoodIn wsL_goes (wsX7_pass_r4 : List Cond) := goodIn_r _ [94, 95, 96, 97, 98, 99, 100, 101, 102, 103, 104, 105, 106, 107, 108, 109, 110, 111, 112, 113, 114, 115, 116, 117] (by decide +kernel) (by decide +kernel)
set_option maxRecDepth 20000 in
theorem lq_50 : GoodIn wsL_goes (wsX7_pass_r5 : List Cond) := goodIn_r _ [118, 119, 120, 121, 122, 123, 124, 125, 126, 127, 128, 129, 130, 131, 132, 133, 134, 135, 136, 137, 138, 139, 140, 141] (by decide +kernel) (by decide +kernel)
set_option maxRecDepth 20000 in
theorem lq_51 : GoodIn wsL_goes (wsX7_pass_r6 : List Cond) := goodIn_r _ [142, 143, 144, 145, 146, 147, 148, 149, 150, 151, 152, 153, 154, 155, 156, 157, 158, 159, 160, 161, 162, 17, 163, 164] (by decide +kernel) (by decide +kernel)
set_option maxRecDepth 20000 in
theorem lq_52 : GoodIn wsL_goes (wsX7_pass_r7 : List Cond) := goodIn_r _ [165, 166, 20, 167, 168, 169, 170, 171, 172, 173, 174, 175, 176, 177, 178, 179, 180, 181, 182, 183, 184, 185, 186, 187] (by decide +kernel) (by decide +kernel)
set_option maxRecDepth 20000 in
theorem lq_53 : GoodIn wsL_goes (wsX7_pass_r8 : List Cond) := goodIn_r _ [188, 189, 190, 191, 21, 192, 193, 194, 195, 196, 197, 198, 199, 200, 201, 202, 203, 204, 205, 206, 207, 208, 209, 210] (by decide +kernel) (by decide +kernel)
set_option maxRecDepth 20000 in
theorem lq_54 : GoodIn wsL_goes (wsX7_pass_r9 : List Cond) := goodIn_r _ [211, 212, 213, 214, 215, 216, 217, 218, 219, 220, 221, 222, 223, 224, 19, 225, 226, 227, 228, 16, 18] (by decide +kernel) (by decide +kernel)
set_option maxRecDepth 20000 in
theorem lq_55 : GoodIn wsL_goes (wsX20 : List Cond) := goodIn_r _ [417, 418, 419] (by decide +kernel) (by decide +kernel)
set_option maxRecDepth 20000 in
theorem lq_56 : GoodIn wsL_goes (wsX30 : List Cond) := goodIn_r _ [420, 421, 422, 423] (by decide +kernel) (by decide +kernel)
set_option maxRecDepth 20000 in
theorem lq_57 : GoodIn wsL_goes (wsX60 : List Cond) := goodIn_r _ [424, 425, 426, 427, 428] (by decide +kernel) (by decide +kernel)
set_option maxRecDepth 20000 in
theorem lq_58 : GoodIn wsL_goes ([.code yX7_forecast cX7_forecast 2 (some .int)] : List Cond) := goodIn_r _ [232] (by decide +kernel) (by decide +kernel)
set_option maxRecDepth 20000 in
theorem lq_59 : GoodIn wsL_goes (wsX7_forecast_r1 : List Cond) := goodIn_r _ [233, 8, 9, 32, 33, 234, 34, 35, 36, 6, 37, 235, 236, 237, 238, 239, 240, 241, 242, 243, 244, 86, 245, 99] (by decide +kernel) (by decide +kernel)
set_option maxRecDepth 20000 in
theorem lq_60 : GoodIn wsL_goes (wsX7_forecast_r2 : List Cond) := goodIn_r _ [100, 122, 246, 156, 157, 158, 93, 92, 247, 248, 249, 104, 250, 251, 111, 112, 252, 106, 253, 254, 255, 256, 257, 80] (by decide +kernel) (by decide +kernel)
set_option maxRecDepth 20000 in
theorem lq_61 : GoodIn wsL_goes (wsX7_forecast_r3 : List Cond) := goodIn_r _ [81, 82, 258, 259, 260, 13, 261, 15, 16, 18, 19, 20, 21, 23, 17, 22, 175, 43, 44, 262, 263, 264, 52, 265] (by decide +kernel) (by decide +kernel)
set_option maxRecDepth 20000 in
theorem lq_62 : GoodIn wsL_goes (wsX7_forecast_r4 : List Cond) := goodIn_r _ [54, 138, 132, 143, 133, 155, 144, 266, 267, 268, 69, 269, 71, 72, 180, 38, 39, 40, 41, 42, 45, 46, 47, 48] (by decide +kernel) (by decide +kernel)
set_option maxRecDepth 20000 in
theorem lq_63 : GoodIn wsL_goes (wsX7_forecast_r5 : List Cond) := goodIn_r _ [25, 24, 49, 50, 51, 53, 55, 56, 57, 58, 59, 60, 61, 62, 63, 64, 65, 66, 67, 68, 70, 73, 74, 75] (by decide +kernel) (by decide +kernel)
set_option maxRecDepth 20000 in
theorem lq_64 : GoodIn wsL_goes (wsX7_forecast_r6 : List Cond) := goodIn_r _ [76, 77, 78, 79, 83, 84, 85, 87, 88, 89, 90, 91, 94, 95, 96, 97, 98, 101, 102, 103, 105, 107, 108, 109] (by decide +kernel) (by decide +kernel)
set_option maxRecDepth 20000 in
theorem lq_65 : GoodIn wsL_goes (wsX7_forecast_r7 : List Cond) := goodIn_r _ [110, 113, 114, 115, 116, 117, 118, 119, 120, 121, 123, 124, 125, 126, 127, 128, 129, 130, 131, 134, 135, 136, 137, 139] (by decide +kernel) (by decide +kernel)
set_option maxRecDepth 20000 in
theorem lq_66 : GoodIn wsL_goes (wsX7_forecast_r8 : List Cond) := goodIn_r _ [140, 141, 142, 145, 146, 147, 148, 149, 150, 151, 152, 153, 154, 159, 160, 161, 162, 163, 164, 165, 166, 167, 168, 169] (by decide +kernel) (by decide +kernel)
set_option maxRecDepth 20000 in
theorem lq_67 : GoodIn wsL_goes (wsX7_forecast_r9 : List Cond) := goodIn_r _ [170, 171, 172, 173, 174, 176, 177, 178, 179, 181, 182, 183, 184, 185, 186, 187, 188, 189, 190, 191, 192, 193, 194, 195] (by decide +kernel) (by decide +kernel)
set_option maxRecDepth 20000 in
theorem lq_68 : GoodIn wsL_goes (wsX7_forecast_r10 : List Cond) := goodIn_r _ [196, 197, 198, 199, 200, 201, 202, 203, 204, 205, 206, 207, 208, 209, 210, 211, 212, 213, 214, 215, 216, 217, 218, 219] (by decide +kernel) (by decide +kernel)
set_option maxRecDepth 20000 in
theorem lq_69 : GoodIn wsL_goes (wsX7_forecast_r11 : List Cond) := goodIn_r _ [220, 221, 222, 223, 224, 225, 226, 227, 228, 270, 271, 272, 273, 274, 275, 276, 277, 278, 279] (by decide +kernel) (by decide +kernel)
set_option maxRecDepth 20000 in
theorem lq_70 : GoodIn wsL_goes ([.code yX7_checksum cX7_checksum 3 (some .long)] : List Cond) := goodIn_r _ [283] (by decide +kernel) (by decide +kernel)
set_option maxRecDepth 20000 in
theorem lq_71 : GoodIn wsL_goes (wsX7_checksum_r1 : List Cond) := goodIn_r _ [284, 8, 9, 32, 234, 34, 285, 286, 287, 6, 288, 289, 290, 291, 292, 293, 294, 295, 296, 297, 298, 299, 300, 301] (by decide +kernel) (by decide +kernel)
set_option maxRecDepth 20000 in
theorem lq_72 : GoodIn wsL_goes (wsX7_checksum_r2 : List Cond) := goodIn_r _ [302, 233, 303, 304, 31, 305, 96, 97, 86, 98, 99, 100, 306, 307, 308, 104, 309, 113, 111, 106, 310, 311, 312, 313] (by decide +kernel) (by decide +kernel)
set_option maxRecDepth 20000 in
theorem lq_73 : GoodIn wsL_goes (wsX7_checksum_r3 : List Cond) := goodIn_r _ [314, 315, 316, 115, 116, 117, 317, 119, 120, 121, 122, 94, 318, 319, 320, 321, 322, 89, 90, 91, 92, 93, 323, 324] (by decide +kernel) (by decide +kernel)
set_option maxRecDepth 20000 in
theorem lq_74 : GoodIn wsL_goes (wsX7_checksum_r4 : List Cond) := goodIn_r _ [325, 326, 327, 328, 4, 5, 7, 10, 11, 12, 13, 14, 15, 16, 17, 18, 19, 20, 21, 22, 23, 24, 25, 26] (by decide +kernel) (by decide +kernel)
set_option maxRecDepth 20000 in
theorem lq_75 : GoodIn wsL_goes (wsX7_checksum_r5 : List Cond) := goodIn_r _ [329, 330, 331, 332, 333, 274, 334, 335, 35, 36, 37, 336, 63, 64, 65, 43, 44, 337, 338, 339, 69, 340, 71, 341] (by decide +kernel) (by decide +kernel)
set_option maxRecDepth 20000 in
theorem lq_76 : GoodIn wsL_goes (wsX7_checksum_r6 : List Cond) := goodIn_r _ [135, 136, 52, 137, 54, 138, 342, 343, 344, 345, 346, 128, 129, 130, 131, 132, 133, 134, 347, 140, 141, 142, 143, 144] (by decide +kernel) (by decide +kernel)
set_option maxRecDepth 20000 in
theorem lq_77 : GoodIn wsL_goes (wsX7_checksum_r7 : List Cond) := goodIn_r _ [235, 236, 237, 238, 239, 240, 241, 242, 243, 244, 245, 246, 156, 157, 158, 247, 248, 249, 250, 251, 112, 252, 253, 254] (by decide +kernel) (by decide +kernel)
set_option maxRecDepth 20000 in
theorem lq_78 : GoodIn wsL_goes (wsX7_checksum_r8 : List Cond) := goodIn_r _ [255, 256, 257, 80, 81, 82, 258, 259, 260, 261, 175, 262, 263, 264, 265, 155, 266, 267, 268, 269, 72, 180, 38, 39] (by decide +kernel) (by decide +kernel)
set_option maxRecDepth 20000 in
theorem lq_79 : GoodIn wsL_goes (wsX7_checksum_r9 : List Cond) := goodIn_r _ [40, 41, 42, 45, 46, 47, 48, 49, 50, 51, 53, 55, 56, 57, 58, 59, 60, 61, 62, 66, 67, 68, 70, 73] (by decide +kernel) (by decide +kernel)
set_option maxRecDepth 20000 in
theorem lq_80 : GoodIn wsL_goes (wsX7_checksum_r10 : List Cond) := goodIn_r _ [74, 75, 76, 77, 78, 79, 83, 84, 85, 87, 88, 95, 101, 102, 103, 105, 107, 108, 109, 110, 114, 118, 123, 124] (by decide +kernel) (by decide +kernel)
set_option maxRecDepth 20000 in
theorem lq_81 : GoodIn wsL_goes (wsX7_checksum_r11 : List Cond) := goodIn_r _ [125, 126, 127, 139, 145, 146, 147, 148, 149, 150, 151, 152, 153, 154, 159, 160, 161, 162, 163, 164, 165, 166, 167, 168] (by decide +kernel) (by decide +kernel)
set_option maxRecDepth 20000 in
theorem lq_82 : GoodIn wsL_goes (wsX7_checksum_r12 : List Cond) := goodIn_r _ [169, 170, 171, 172, 173, 174, 176, 177, 178, 179, 181, 182, 183, 184, 185, 186, 187, 188, 189, 190, 191, 192, 193, 194] (by decide +kernel) (by decide +kernel)
set_option maxRecDepth 20000 in
theorem lq_83 : GoodIn wsL_goes (wsX7_checksum_r13 : List Cond) := goodIn_r _ [195, 196, 197, 198, 199, 200, 201, 202, 203, 204, 205, 206, 207, 208, 209, 210, 211, 212, 213, 214, 215, 216, 217, 218] (by decide +kernel) (by decide +kernel)
set_option maxRecDepth 20000 in
theorem lq_84 : GoodIn wsL_goes (wsX7_checksum_r14 : List Cond) := goodIn_r _ [219, 220, 221, 222, 223, 224, 225, 226, 227, 228, 270, 271, 272, 273, 275, 276, 277, 278, 279] (by decide +kernel) (by decide +kernel)
set_option maxRecDepth 20000 in
theorem lq_85 : GoodIn wsL_goes ([.code yX7_save cX7_save 3 (some .int)] : List Cond) := goodIn_r _ [351] (by decide +kernel) (by decide +kernel)
set_option maxRecDepth 20000 in
theorem lq_86 : GoodIn wsL_goes (wsX7_save_r1 : List Cond) := goodIn_r _ [233, 352, 353, 354, 238, 8, 34, 289, 35, 36, 6, 37, 355, 356, 357, 358, 359, 360, 361, 86, 240, 362, 363, 13] (by decide +kernel) (by decide +kernel)
set_option maxRecDepth 20000 in
theorem lq_87 : GoodIn wsL_goes (wsX7_save_r2 : List Cond) := goodIn_r _ [241, 364, 365, 366, 367, 368, 100, 369, 122, 93, 370, 104, 371, 246, 156, 157, 158, 372, 373, 374, 112, 106, 375, 376] (by decide +kernel) (by decide +kernel)
set_option maxRecDepth 20000 in
theorem lq_88 : GoodIn wsL_goes (wsX7_save_r3 : List Cond) := goodIn_r _ [377, 378, 379, 52, 23, 380, 381, 69, 43, 44, 382, 383, 384, 133, 144, 385, 386, 387, 235, 236, 237, 239, 242, 243] (by decide +kernel) (by decide +kernel)
set_option maxRecDepth 20000 in
theorem lq_89 : GoodIn wsL_goes (wsX7_save_r4 : List Cond) := goodIn_r _ [244, 245, 99, 92, 247, 248, 249, 250, 251, 111, 252, 253, 254, 255, 256, 257, 80, 81, 82, 258, 259, 260, 261, 15] (by decide +kernel) (by decide +kernel)
set_option maxRecDepth 20000 in
theorem lq_90 : GoodIn wsL_goes (wsX7_save_r5 : List Cond) := goodIn_r _ [16, 18, 19, 20, 21, 17, 22, 175, 262, 263, 264, 265, 54, 138, 132, 143, 155, 266, 267, 268, 269, 71, 72, 180] (by decide +kernel) (by decide +kernel)
set_option maxRecDepth 20000 in
theorem lq_91 : GoodIn wsL_goes ([.code yX7_restore cX7_restore 3 (some .int)] : List Cond) := goodIn_r _ [391] (by decide +kernel) (by decide +kernel)
set_option maxRecDepth 20000 in
theorem lq_92 : GoodIn wsL_goes (wsX7_restore_r1 : List Cond) := goodIn_r _ [233, 352, 33, 8, 34, 289, 35, 36, 6, 37, 235, 236, 237, 238, 239, 240, 241, 242, 243, 244, 86, 245, 99, 100] (by decide +kernel) (by decide +kernel)
set_option maxRecDepth 20000 in
theorem lq_93 : GoodIn wsL_goes (wsX7_restore_r2 : List Cond) := goodIn_r _ [122, 246, 156, 157, 158, 93, 92, 247, 248, 249, 104, 250, 251, 111, 112, 252, 106, 253, 254, 255, 256, 257, 80, 81] (by decide +kernel) (by decide +kernel)
set_option maxRecDepth 20000 in
theorem lq_94 : GoodIn wsL_goes (wsX7_restore_r3 : List Cond) := goodIn_r _ [82, 258, 259, 260, 13, 261, 15, 16, 18, 19, 20, 21, 23, 17, 22, 175, 43, 44, 262, 263, 264, 52, 265, 54] (by decide +kernel) (by decide +kernel)
set_option maxRecDepth 20000 in
theorem lq_95 : GoodIn wsL_goes (wsX7_restore_r4 : List Cond) := goodIn_r _ [138, 132, 143, 133, 155, 144, 266, 267, 268, 69, 269, 71, 72, 180] (by decide +kernel) (by decide +kernel)
set_option maxRecDepth 20000 in
theorem lq_96 : GoodIn wsL_goes ([.code yX7_projector cX7_projector 4 (some .int)] : List Cond) := goodIn_r _ [332] (by decide +kernel) (by decide +kernel)
set_option maxRecDepth 20000 in
theorem lq_97 : GoodIn wsL_goes (wsX7_projector_r1 : List Cond) := goodIn_r _ [233, 8, 9, 333, 274, 334, 335, 31, 35, 36, 6, 37, 336, 63, 64, 13, 65, 43, 44, 337, 338, 339, 69, 340] (by decide +kernel) (by decide +kernel)
set_option maxRecDepth 20000 in
theorem lq_98 : GoodIn wsL_goes (wsX7_projector_r2 : List Cond) := goodIn_r _ [71] (by decide +kernel) (by decide +kernel)
