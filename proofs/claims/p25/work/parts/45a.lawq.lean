theorem lq_cons {big : List Cond} {c : Cond} {b : List Cond} (h0 : GoodIn big [c]) (h : GoodIn big b) : GoodIn big (c :: b) := fun w q => (List.mem_cons.mp q).elim (fun e => h0 w (List.mem_cons.mpr (Or.inl e))) (h w)
set_option maxRecDepth 20000 in
theorem lqt_0 : ∀ w ∈ wsL_law_r1, w ∈ lw_tbl := fun w h => (goodIn_p _ [35, 38, 43] (by decide +kernel) (by decide +kernel) w h).1
set_option maxRecDepth 20000 in
theorem lqt_1 : ∀ w ∈ wsL_law_r2, w ∈ lw_tbl := fun w h => (goodIn_p _ [49] (by decide +kernel) (by decide +kernel) w h).1
set_option maxRecDepth 20000 in
theorem lqt_2 : ∀ w ∈ wsL_law_r3, w ∈ lw_tbl := fun w h => (goodIn_p _ [56, 106, 112, 141] (by decide +kernel) (by decide +kernel) w h).1
set_option maxRecDepth 20000 in
theorem lqt_3 : ∀ w ∈ wsL_law_r4, w ∈ lw_tbl := fun w h => (goodIn_p _ [217, 657, 620, 433] (by decide +kernel) (by decide +kernel) w h).1
set_option maxRecDepth 20000 in
theorem lqt_4 : ∀ w ∈ wsL_law_r5, w ∈ lw_tbl := fun w h => (goodIn_p _ [263, 406, 410, 414, 370] (by decide +kernel) (by decide +kernel) w h).1
set_option maxRecDepth 20000 in
theorem lqt_5 : ∀ w ∈ wsL_law_r6, w ∈ lw_tbl := fun w h => (goodIn_p _ [373, 420, 424] (by decide +kernel) (by decide +kernel) w h).1
set_option maxRecDepth 20000 in
theorem lqt_6 : ∀ w ∈ wsL_law_r7, w ∈ lw_tbl := fun w h => (goodIn_p _ [429, 393, 397, 331] (by decide +kernel) (by decide +kernel) w h).1
set_option maxRecDepth 20000 in
theorem lqt_7 : ∀ w ∈ wsL_law_r8, w ∈ lw_tbl := fun w h => (goodIn_p _ [335, 339, 343, 377, 381] (by decide +kernel) (by decide +kernel) w h).1
set_option maxRecDepth 20000 in
theorem lqt_8 : ∀ w ∈ wsL_law_r9, w ∈ lw_tbl := fun w h => (goodIn_p _ [385, 389, 625, 629, 633] (by decide +kernel) (by decide +kernel) w h).1
set_option maxRecDepth 20000 in
theorem lqt_9 : ∀ w ∈ wsL_law_r10, w ∈ lw_tbl := fun w h => (goodIn_p _ [259, 638, 290, 294, 642] (by decide +kernel) (by decide +kernel) w h).1
set_option maxRecDepth 20000 in
theorem lqt_10 : ∀ w ∈ wsL_law_r11, w ∈ lw_tbl := fun w h => (goodIn_p _ [255, 268, 272, 277, 646] (by decide +kernel) (by decide +kernel) w h).1
set_option maxRecDepth 20000 in
theorem lqt_11 : ∀ w ∈ wsL_law_r12, w ∈ lw_tbl := fun w h => (goodIn_p _ [649, 652, 298, 301, 304, 312] (by decide +kernel) (by decide +kernel) w h).1
set_option maxRecDepth 20000 in
theorem lqt_12 : ∀ w ∈ wsL_law_r13, w ∈ lw_tbl := fun w h => (goodIn_p _ [316, 322, 326, 347] (by decide +kernel) (by decide +kernel) w h).1
set_option maxRecDepth 20000 in
theorem lqt_13 : ∀ w ∈ wsL_law_r14, w ∈ lw_tbl := fun w h => (goodIn_p _ [354, 358, 361, 365, 660, 490] (by decide +kernel) (by decide +kernel) w h).1
set_option maxRecDepth 20000 in
theorem lqt_14 : ∀ w ∈ wsL_law_r15, w ∈ lw_tbl := fun w h => (goodIn_p _ [486, 494, 500, 474, 478] (by decide +kernel) (by decide +kernel) w h).1
set_option maxRecDepth 20000 in
theorem lqt_15 : ∀ w ∈ wsL_law_r16, w ∈ lw_tbl := fun w h => (goodIn_p _ [482, 665, 669, 504, 508, 512] (by decide +kernel) (by decide +kernel) w h).1
set_option maxRecDepth 20000 in
theorem lqt_16 : ∀ w ∈ wsL_law_r17, w ∈ lw_tbl := fun w h => (goodIn_p _ [516, 521, 525, 465, 531] (by decide +kernel) (by decide +kernel) w h).1
set_option maxRecDepth 20000 in
theorem lqt_17 : ∀ w ∈ wsL_law_r18, w ∈ lw_tbl := fun w h => (goodIn_p _ [537, 543, 548, 552, 556] (by decide +kernel) (by decide +kernel) w h).1
set_option maxRecDepth 20000 in
theorem lqt_18 : ∀ w ∈ wsL_law_r19, w ∈ lw_tbl := fun w h => (goodIn_p _ [560, 564, 568, 571, 575, 579] (by decide +kernel) (by decide +kernel) w h).1
set_option maxRecDepth 20000 in
theorem lqt_19 : ∀ w ∈ wsL_law_r20, w ∈ lw_tbl := fun w h => (goodIn_p _ [583, 588, 592, 596, 600, 604] (by decide +kernel) (by decide +kernel) w h).1
set_option maxRecDepth 20000 in
theorem lqt_20 : ∀ w ∈ wsL_law_r21, w ∈ lw_tbl := fun w h => (goodIn_p _ [609, 613, 674, 617] (by decide +kernel) (by decide +kernel) w h).1
set_option maxRecDepth 20000 in
theorem lqt_21 : ∀ w ∈ wsL_law_r22, w ∈ lw_tbl := fun w h => (goodIn_p _ [437, 442, 445, 450, 455] (by decide +kernel) (by decide +kernel) w h).1
set_option maxRecDepth 20000 in
theorem lqt_22 : ∀ w ∈ wsL_law_r23, w ∈ lw_tbl := fun w h => (goodIn_p _ [461, 469, 402, 677, 282] (by decide +kernel) (by decide +kernel) w h).1
set_option maxRecDepth 20000 in
theorem lqt_23 : ∀ w ∈ wsL_law_r24, w ∈ lw_tbl := fun w h => (goodIn_p _ [286, 683] (by decide +kernel) (by decide +kernel) w h).1
set_option maxRecDepth 20000 in
theorem lqt_24 : ∀ w ∈ wsX70, w ∈ lw_tbl := fun w h => (goodIn_p _ [] (by decide +kernel) (by decide +kernel) w h).1
set_option maxRecDepth 20000 in
theorem lqt_25 : ∀ w ∈ wsX40, w ∈ lw_tbl := fun w h => (goodIn_p _ [] (by decide +kernel) (by decide +kernel) w h).1
set_option maxRecDepth 20000 in
theorem lqt_26 : ∀ w ∈ wsX10, w ∈ lw_tbl := fun w h => (goodIn_p _ [] (by decide +kernel) (by decide +kernel) w h).1
set_option maxRecDepth 20000 in
theorem lqt_27 : ∀ w ∈ wsX60, w ∈ lw_tbl := fun w h => (goodIn_p _ [] (by decide +kernel) (by decide +kernel) w h).1
set_option maxRecDepth 20000 in
theorem lqt_28 : ∀ w ∈ wsX50, w ∈ lw_tbl := fun w h => (goodIn_p _ [] (by decide +kernel) (by decide +kernel) w h).1
set_option maxRecDepth 20000 in
theorem lqt_29 : ∀ w ∈ wsX30, w ∈ lw_tbl := fun w h => (goodIn_p _ [] (by decide +kernel) (by decide +kernel) w h).1
set_option maxRecDepth 20000 in
theorem lqt_30 : ∀ w ∈ wsX00, w ∈ lw_tbl := fun w h => (goodIn_p _ [] (by decide +kernel) (by decide +kernel) w h).1
set_option maxRecDepth 20000 in
theorem lqt_31 : ∀ w ∈ wsX20, w ∈ lw_tbl := fun w h => (goodIn_p _ [] (by decide +kernel) (by decide +kernel) w h).1
set_option maxRecDepth 20000 in
theorem lqt_32 : ∀ w ∈ ([] : List Cond), w ∈ lw_tbl := fun w h => (goodIn_p _ [] (by decide +kernel) (by decide +kernel) w h).1
