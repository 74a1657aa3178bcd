theorem wsL_law_in : ∀ w ∈ wsL_law, w ∈ lw_tbl := List.forall_mem_append.mpr ⟨List.forall_mem_append.mpr ⟨List.forall_mem_append.mpr ⟨List.forall_mem_append.mpr ⟨List.forall_mem_append.mpr ⟨List.forall_mem_append.mpr ⟨List.forall_mem_append.mpr ⟨List.forall_mem_append.mpr ⟨List.forall_mem_append.mpr ⟨List.forall_mem_append.mpr ⟨List.forall_mem_append.mpr ⟨lqt_0, List.forall_mem_append.mpr ⟨lqt_1, List.forall_mem_append.mpr ⟨lqt_2, List.forall_mem_append.mpr ⟨lqt_3, List.forall_mem_append.mpr ⟨lqt_4, List.forall_mem_append.mpr ⟨lqt_5, List.forall_mem_append.mpr ⟨lqt_6, List.forall_mem_append.mpr ⟨lqt_7, List.forall_mem_append.mpr ⟨lqt_8, List.forall_mem_append.mpr ⟨lqt_9, List.forall_mem_append.mpr ⟨lqt_10, List.forall_mem_append.mpr ⟨lqt_11, List.forall_mem_append.mpr ⟨lqt_12, List.forall_mem_append.mpr ⟨lqt_13, List.forall_mem_append.mpr ⟨lqt_14, List.forall_mem_append.mpr ⟨lqt_15, List.forall_mem_append.mpr ⟨lqt_16, List.forall_mem_append.mpr ⟨lqt_17, List.forall_mem_append.mpr ⟨lqt_18, List.forall_mem_append.mpr ⟨lqt_19, List.forall_mem_append.mpr ⟨lqt_20, List.forall_mem_append.mpr ⟨lqt_21, List.forall_mem_append.mpr ⟨lqt_22, List.forall_mem_append.mpr ⟨lqt_23, List.forall_mem_append.mpr ⟨lqt_24, List.forall_mem_append.mpr ⟨lqt_25, List.forall_mem_append.mpr ⟨lqt_26, List.forall_mem_append.mpr ⟨lqt_27, List.forall_mem_append.mpr ⟨lqt_28, List.forall_mem_append.mpr ⟨lqt_29, List.forall_mem_append.mpr ⟨lqt_30, List.forall_mem_append.mpr ⟨lqt_31, List.forall_mem_append.mpr ⟨lqt_32, lqt_33⟩⟩⟩⟩⟩⟩⟩⟩⟩⟩⟩⟩⟩⟩⟩⟩⟩⟩⟩⟩⟩⟩⟩⟩⟩⟩⟩⟩⟩⟩⟩⟩⟩, lqt_34⟩, lqt_35⟩, lqt_36⟩, lqt_37⟩, lqt_38⟩, lqt_39⟩, lqt_40⟩, lqt_41⟩, lqt_42⟩, lqt_43⟩
theorem inlX0 : ∀ w ∈ wsX00, w ∈ wsL_law := fun _ h => List.mem_append_left _ (List.mem_append_left _ (List.mem_append_right _ h))
theorem inX0 : ∀ w ∈ wsX00, w ∈ lw_tbl := fun w h => wsL_law_in w (inlX0 w h)
theorem inlX1 : ∀ w ∈ wsX10, w ∈ wsL_law := fun _ h => List.mem_append_left _ (List.mem_append_left _ (List.mem_append_left _ (List.mem_append_left _ (List.mem_append_left _ (List.mem_append_left _ (List.mem_append_right _ h))))))
theorem inX1 : ∀ w ∈ wsX10, w ∈ lw_tbl := fun w h => wsL_law_in w (inlX1 w h)
theorem inlX2 : ∀ w ∈ wsX20, w ∈ wsL_law := fun _ h => List.mem_append_left _ (List.mem_append_right _ h)
theorem inX2 : ∀ w ∈ wsX20, w ∈ lw_tbl := fun w h => wsL_law_in w (inlX2 w h)
theorem inlX3 : ∀ w ∈ wsX30, w ∈ wsL_law := fun _ h => List.mem_append_left _ (List.mem_append_left _ (List.mem_append_left _ (List.mem_append_right _ h)))
theorem inX3 : ∀ w ∈ wsX30, w ∈ lw_tbl := fun w h => wsL_law_in w (inlX3 w h)
theorem inlX4 : ∀ w ∈ wsX40, w ∈ wsL_law := fun _ h => List.mem_append_left _ (List.mem_append_left _ (List.mem_append_left _ (List.mem_append_left _ (List.mem_append_left _ (List.mem_append_left _ (List.mem_append_left _ (List.mem_append_right _ h)))))))
theorem inX4 : ∀ w ∈ wsX40, w ∈ lw_tbl := fun w h => wsL_law_in w (inlX4 w h)
theorem inlX5 : ∀ w ∈ wsX50, w ∈ wsL_law := fun _ h => List.mem_append_left _ (List.mem_append_left _ (List.mem_append_left _ (List.mem_append_left _ (List.mem_append_right _ h))))
theorem inX5 : ∀ w ∈ wsX50, w ∈ lw_tbl := fun w h => wsL_law_in w (inlX5 w h)
theorem inlX6 : ∀ w ∈ wsX60, w ∈ wsL_law := fun _ h => List.mem_append_left _ (List.mem_append_left _ (List.mem_append_left _ (List.mem_append_left _ (List.mem_append_left _ (List.mem_append_right _ h)))))
theorem inX6 : ∀ w ∈ wsX60, w ∈ lw_tbl := fun w h => wsL_law_in w (inlX6 w h)
theorem inlX7 : ∀ w ∈ wsX70, w ∈ wsL_law := fun _ h => List.mem_append_left _ (List.mem_append_left _ (List.mem_append_left _ (List.mem_append_left _ (List.mem_append_left _ (List.mem_append_left _ (List.mem_append_left _ (List.mem_append_left _ (List.mem_append_left _ (List.mem_append_right _ h)))))))))
theorem inX7 : ∀ w ∈ wsX70, w ∈ lw_tbl := fun w h => wsL_law_in w (inlX7 w h)
theorem inlX8 : ∀ w ∈ wsX80, w ∈ wsL_law := fun _ h => List.mem_append_left _ (List.mem_append_left _ (List.mem_append_left _ (List.mem_append_left _ (List.mem_append_left _ (List.mem_append_left _ (List.mem_append_left _ (List.mem_append_left _ (List.mem_append_right _ h))))))))
theorem inX8 : ∀ w ∈ wsX80, w ∈ lw_tbl := fun w h => wsL_law_in w (inlX8 w h)
theorem ggL_law_X7_init : GoodIn wsL_law wsX7_init := lq_cons (lq_1) (goodIn_app (goodIn_app (goodIn_app (goodIn_app (goodIn_app (goodIn_app (goodIn_app (goodIn_app (goodIn_app (lq_2) (goodIn_app (lq_3) (lq_4))) (lq_5)) (lq_6)) (lq_7)) (lq_8)) (lq_9)) (lq_10)) (lq_11)) (lq_12))
set_option maxRecDepth 20000 in
theorem gL_law_X7_init : GoodIn wsL_law (wsX7_init) := ggL_law_X7_init
theorem ggL_law_X8_init : GoodIn wsL_law wsX8_init := lq_cons (lq_13) (goodIn_app (lq_14) (lq_15))
set_option maxRecDepth 20000 in
theorem gL_law_X8_init : GoodIn wsL_law (wsX8_init) := ggL_law_X8_init
theorem ggL_law_X7_makeReel : GoodIn wsL_law wsX7_makeReel := lq_cons (lq_16) (goodIn_app (goodIn_app (goodIn_app (goodIn_app (goodIn_app (lq_17) (lq_18)) (lq_6)) (lq_5)) (lq_8)) (lq_10))
set_option maxRecDepth 20000 in
theorem gL_law_X7_makeReel : GoodIn wsL_law (wsV RL 13 RX7 yX7_makeReel wsX7_makeReel) := goodIn_app (goodIn_of _ (by decide +kernel)) ggL_law_X7_makeReel
theorem ggL_law_X8_makeReel : GoodIn wsL_law wsX8_makeReel := lq_cons (lq_19) (goodIn_app (lq_20) (lq_15))
set_option maxRecDepth 20000 in
theorem gL_law_X8_makeReel : GoodIn wsL_law (wsV RL 17 RX8 yX8_makeReel wsX8_makeReel) := goodIn_app (goodIn_of _ (by decide +kernel)) ggL_law_X8_makeReel
theorem ggL_law_X7_splice : GoodIn wsL_law wsX7_splice := lq_cons (lq_21) (goodIn_app (goodIn_app (goodIn_app (goodIn_app (goodIn_app (lq_22) (lq_23)) (lq_6)) (lq_5)) (lq_10)) (lq_8))
set_option maxRecDepth 20000 in
theorem gL_law_X7_splice : GoodIn wsL_law (wsV RL 18 RX7 yX7_splice wsX7_splice) := goodIn_app (goodIn_of _ (by decide +kernel)) ggL_law_X7_splice
theorem ggL_law_X8_splice : GoodIn wsL_law wsX8_splice := lq_cons (lq_24) (goodIn_app (lq_25) (lq_15))
set_option maxRecDepth 20000 in
theorem gL_law_X8_splice : GoodIn wsL_law (wsV RL 22 RX8 yX8_splice wsX8_splice) := goodIn_app (goodIn_of _ (by decide +kernel)) ggL_law_X8_splice
theorem ggL_law_X7_mend : GoodIn wsL_law wsX7_mend := lq_cons (lq_26) (goodIn_app (goodIn_app (goodIn_app (goodIn_app (lq_27) (lq_6)) (lq_5)) (lq_8)) (lq_10))
set_option maxRecDepth 20000 in
theorem gL_law_X7_mend : GoodIn wsL_law (wsV RL 23 RX7 yX7_mend wsX7_mend) := goodIn_app (goodIn_of _ (by decide +kernel)) ggL_law_X7_mend
theorem ggL_law_X8_mend : GoodIn wsL_law wsX8_mend := lq_cons (lq_28) (goodIn_app (lq_29) (lq_15))
set_option maxRecDepth 20000 in
theorem gL_law_X8_mend : GoodIn wsL_law (wsV RL 27 RX8 yX8_mend wsX8_mend) := goodIn_app (goodIn_of _ (by decide +kernel)) ggL_law_X8_mend
theorem ggL_law_X7_reel : GoodIn wsL_law wsX7_reel := lq_cons (lq_30) (goodIn_app (goodIn_app (goodIn_app (goodIn_app (lq_31) (lq_6)) (lq_5)) (lq_10)) (lq_8))
set_option maxRecDepth 20000 in
theorem gL_law_X7_reel : GoodIn wsL_law (wsV RL 28 RX7 yX7_reel wsX7_reel) := goodIn_app (goodIn_of _ (by decide +kernel)) ggL_law_X7_reel
theorem ggL_law_X8_reel : GoodIn wsL_law wsX8_reel := lq_cons (lq_32) (goodIn_app (lq_33) (lq_15))
set_option maxRecDepth 20000 in
theorem gL_law_X8_reel : GoodIn wsL_law (wsV RL 31 RX8 yX8_reel wsX8_reel) := goodIn_app (goodIn_of _ (by decide +kernel)) ggL_law_X8_reel
theorem ggL_law_X7_spliceAt : GoodIn wsL_law wsX7_spliceAt := lq_cons (lq_34) (goodIn_app (goodIn_app (goodIn_app (goodIn_app (lq_35) (lq_6)) (lq_5)) (lq_10)) (lq_8))
set_option maxRecDepth 20000 in
theorem gL_law_X7_spliceAt : GoodIn wsL_law (wsV RL 32 RX7 yX7_spliceAt wsX7_spliceAt) := goodIn_app (goodIn_of _ (by decide +kernel)) ggL_law_X7_spliceAt
theorem ggL_law_X8_spliceAt : GoodIn wsL_law wsX8_spliceAt := lq_cons (lq_36) (goodIn_app (lq_37) (lq_15))
set_option maxRecDepth 20000 in
theorem gL_law_X8_spliceAt : GoodIn wsL_law (wsV RL 36 RX8 yX8_spliceAt wsX8_spliceAt) := goodIn_app (goodIn_of _ (by decide +kernel)) ggL_law_X8_spliceAt
theorem ggL_law_X7_set : GoodIn wsL_law wsX7_set := lq_cons (lq_38) (goodIn_app (goodIn_app (goodIn_app (goodIn_app (lq_39) (lq_40)) (lq_6)) (lq_5)) (lq_8))
set_option maxRecDepth 20000 in
theorem gL_law_X7_set : GoodIn wsL_law (wsV RL 37 RX7 yX7_set wsX7_set) := goodIn_app (goodIn_of _ (by decide +kernel)) ggL_law_X7_set
theorem ggL_law_X8_set : GoodIn wsL_law wsX8_set := lq_cons (lq_41) (goodIn_app (lq_42) (lq_15))
set_option maxRecDepth 20000 in
theorem gL_law_X8_set : GoodIn wsL_law (wsV RL 40 RX8 yX8_set wsX8_set) := goodIn_app (goodIn_of _ (by decide +kernel)) ggL_law_X8_set
theorem ggL_law_X7_append : GoodIn wsL_law wsX7_append := lq_cons (lq_43) (goodIn_app (goodIn_app (lq_44) (lq_6)) (lq_7))
set_option maxRecDepth 20000 in
theorem gL_law_X7_append : GoodIn wsL_law (wsV RL 41 RX7 yX7_append wsX7_append) := goodIn_app (goodIn_of _ (by decide +kernel)) ggL_law_X7_append
theorem ggL_law_X8_append : GoodIn wsL_law wsX8_append := lq_cons (lq_45) (goodIn_app (lq_46) (lq_15))
set_option maxRecDepth 20000 in
theorem gL_law_X8_append : GoodIn wsL_law (wsV RL 44 RX8 yX8_append wsX8_append) := goodIn_app (goodIn_of _ (by decide +kernel)) ggL_law_X8_append
theorem ggL_law_X7_clearText : GoodIn wsL_law wsX7_clearText := lq_cons (lq_47) (goodIn_app (goodIn_app (lq_48) (lq_6)) (lq_7))
set_option maxRecDepth 20000 in
theorem gL_law_X7_clearText : GoodIn wsL_law (wsV RL 45 RX7 yX7_clearText wsX7_clearText) := goodIn_app (goodIn_of _ (by decide +kernel)) ggL_law_X7_clearText
theorem ggL_law_X8_clearText : GoodIn wsL_law wsX8_clearText := lq_cons (lq_49) (goodIn_app (lq_50) (lq_15))
set_option maxRecDepth 20000 in
theorem gL_law_X8_clearText : GoodIn wsL_law (wsV RL 49 RX8 yX8_clearText wsX8_clearText) := goodIn_app (goodIn_of _ (by decide +kernel)) ggL_law_X8_clearText
theorem ggL_law_X7_faultPosition : GoodIn wsL_law wsX7_faultPosition := lq_cons (lq_51) (goodIn_app (goodIn_app (goodIn_app (goodIn_app (lq_52) (lq_6)) (lq_5)) (lq_8)) (lq_7))
set_option maxRecDepth 20000 in
theorem gL_law_X7_faultPosition : GoodIn wsL_law (wsV RL 50 RX7 yX7_faultPosition wsX7_faultPosition) := goodIn_app (goodIn_of _ (by decide +kernel)) ggL_law_X7_faultPosition
theorem ggL_law_X8_faultPosition : GoodIn wsL_law wsX8_faultPosition := lq_cons (lq_53) (goodIn_app (goodIn_app (lq_54) (lq_55)) (lq_15))
set_option maxRecDepth 20000 in
theorem gL_law_X8_faultPosition : GoodIn wsL_law (wsV RL 53 RX8 yX8_faultPosition wsX8_faultPosition) := goodIn_app (goodIn_of _ (by decide +kernel)) ggL_law_X8_faultPosition
theorem ggL_law_X7_faultDepth : GoodIn wsL_law wsX7_faultDepth := lq_cons (lq_56) (goodIn_app (goodIn_app (goodIn_app (goodIn_app (lq_57) (lq_6)) (lq_5)) (lq_8)) (lq_7))
set_option maxRecDepth 20000 in
theorem gL_law_X7_faultDepth : GoodIn wsL_law (wsV RL 54 RX7 yX7_faultDepth wsX7_faultDepth) := goodIn_app (goodIn_of _ (by decide +kernel)) ggL_law_X7_faultDepth
theorem ggL_law_X8_faultDepth : GoodIn wsL_law wsX8_faultDepth := lq_cons (lq_58) (goodIn_app (goodIn_app (lq_59) (lq_60)) (lq_15))
set_option maxRecDepth 20000 in
theorem gL_law_X8_faultDepth : GoodIn wsL_law (wsV RL 57 RX8 yX8_faultDepth wsX8_faultDepth) := goodIn_app (goodIn_of _ (by decide +kernel)) ggL_law_X8_faultDepth
theorem ggL_law_X7_setProgram : GoodIn wsL_law wsX7_setProgram := lq_cons (lq_61) (goodIn_app (goodIn_app (goodIn_app (goodIn_app (goodIn_app (goodIn_app (lq_62) (goodIn_app (lq_63) (lq_64))) (lq_6)) (lq_5)) (lq_9)) (lq_7)) (lq_8))
set_option maxRecDepth 20000 in
theorem gL_law_X7_setProgram : GoodIn wsL_law (wsV RL 58 RX7 yX7_setProgram wsX7_setProgram) := goodIn_app (goodIn_of _ (by decide +kernel)) ggL_law_X7_setProgram
theorem ggL_law_X8_setProgram : GoodIn wsL_law wsX8_setProgram := lq_cons (lq_65) (goodIn_app (goodIn_app (lq_66) (lq_67)) (lq_15))
set_option maxRecDepth 20000 in
theorem gL_law_X8_setProgram : GoodIn wsL_law (wsV RL 61 RX8 yX8_setProgram wsX8_setProgram) := goodIn_app (goodIn_of _ (by decide +kernel)) ggL_law_X8_setProgram
theorem ggL_law_X7_program : GoodIn wsL_law wsX7_program := lq_cons (lq_68) (goodIn_app (goodIn_app (goodIn_app (lq_69) (lq_6)) (lq_5)) (lq_8))
set_option maxRecDepth 20000 in
theorem gL_law_X7_program : GoodIn wsL_law (wsV RL 62 RX7 yX7_program wsX7_program) := goodIn_app (goodIn_of _ (by decide +kernel)) ggL_law_X7_program
theorem ggL_law_X8_program : GoodIn wsL_law wsX8_program := lq_cons (lq_70) (goodIn_app (lq_71) (lq_15))
set_option maxRecDepth 20000 in
theorem gL_law_X8_program : GoodIn wsL_law (wsV RL 65 RX8 yX8_program wsX8_program) := goodIn_app (goodIn_of _ (by decide +kernel)) ggL_law_X8_program
theorem ggL_law_X7_begin : GoodIn wsL_law wsX7_begin := lq_cons (lq_72) (goodIn_app (goodIn_app (goodIn_app (goodIn_app (goodIn_app (goodIn_app (goodIn_app (lq_73) (lq_74)) (lq_6)) (lq_5)) (lq_8)) (lq_9)) (lq_12)) (lq_11))
set_option maxRecDepth 20000 in
theorem gL_law_X7_begin : GoodIn wsL_law (wsV RL 66 RX7 yX7_begin wsX7_begin) := goodIn_app (goodIn_of _ (by decide +kernel)) ggL_law_X7_begin
theorem ggL_law_X8_begin : GoodIn wsL_law wsX8_begin := lq_cons (lq_75) (goodIn_app (lq_76) (lq_15))
set_option maxRecDepth 20000 in
theorem gL_law_X8_begin : GoodIn wsL_law (wsV RL 69 RX8 yX8_begin wsX8_begin) := goodIn_app (goodIn_of _ (by decide +kernel)) ggL_law_X8_begin
theorem ggL_law_X7_pass : GoodIn wsL_law wsX7_pass := lq_cons (lq_77) (goodIn_app (goodIn_app (goodIn_app (goodIn_app (goodIn_app (goodIn_app (goodIn_app (goodIn_app (lq_78) (goodIn_app (lq_79) (goodIn_app (lq_80) (goodIn_app (lq_81) (goodIn_app (lq_82) (goodIn_app (lq_83) (goodIn_app (lq_84) (goodIn_app (lq_85) (lq_86))))))))) (lq_6)) (lq_5)) (lq_9)) (lq_12)) (lq_11)) (lq_10)) (lq_8))
set_option maxRecDepth 20000 in
theorem gL_law_X7_pass : GoodIn wsL_law (wsV RL 70 RX7 yX7_pass wsX7_pass) := goodIn_app (goodIn_of _ (by decide +kernel)) ggL_law_X7_pass
theorem ggL_law_X8_pass : GoodIn wsL_law wsX8_pass := lq_cons (lq_87) (goodIn_app (goodIn_app (lq_88) (goodIn_app (lq_89) (goodIn_app (lq_90) (lq_91)))) (lq_15))
set_option maxRecDepth 20000 in
theorem gL_law_X8_pass : GoodIn wsL_law (wsV RL 73 RX8 yX8_pass wsX8_pass) := goodIn_app (goodIn_of _ (by decide +kernel)) ggL_law_X8_pass
theorem ggL_law_X7_tell : GoodIn wsL_law wsX7_tell := lq_cons (lq_92) (goodIn_app (goodIn_app (goodIn_app (goodIn_app (lq_93) (lq_6)) (lq_5)) (lq_9)) (lq_11))
set_option maxRecDepth 20000 in
theorem gL_law_X7_tell : GoodIn wsL_law (wsV RL 74 RX7 yX7_tell wsX7_tell) := goodIn_app (goodIn_of _ (by decide +kernel)) ggL_law_X7_tell
theorem ggL_law_X8_tell : GoodIn wsL_law wsX8_tell := lq_cons (lq_94) (goodIn_app (lq_95) (lq_15))
set_option maxRecDepth 20000 in
theorem gL_law_X8_tell : GoodIn wsL_law (wsV RL 77 RX8 yX8_tell wsX8_tell) := goodIn_app (goodIn_of _ (by decide +kernel)) ggL_law_X8_tell
theorem ggL_law_X7_projector : GoodIn wsL_law wsX7_projector := lq_cons (lq_96) (goodIn_app (goodIn_app (goodIn_app (goodIn_app (goodIn_app (lq_97) (lq_98)) (lq_6)) (lq_5)) (lq_12)) (lq_9))
set_option maxRecDepth 20000 in
theorem gL_law_X7_projector : GoodIn wsL_law (wsV RL 78 RX7 yX7_projector wsX7_projector) := goodIn_app (goodIn_of _ (by decide +kernel)) ggL_law_X7_projector
theorem ggL_law_X8_projector : GoodIn wsL_law wsX8_projector := lq_cons (lq_99) (goodIn_app (lq_100) (lq_15))
set_option maxRecDepth 20000 in
theorem gL_law_X8_projector : GoodIn wsL_law (wsV RL 81 RX8 yX8_projector wsX8_projector) := goodIn_app (goodIn_of _ (by decide +kernel)) ggL_law_X8_projector
theorem ggL_law_X7_task : GoodIn wsL_law wsX7_task := lq_cons (lq_101) (goodIn_app (goodIn_app (goodIn_app (goodIn_app (goodIn_app (lq_102) (lq_103)) (lq_6)) (lq_5)) (lq_9)) (lq_11))
set_option maxRecDepth 20000 in
theorem gL_law_X7_task : GoodIn wsL_law (wsV RL 82 RX7 yX7_task wsX7_task) := goodIn_app (goodIn_of _ (by decide +kernel)) ggL_law_X7_task
theorem ggL_law_X8_task : GoodIn wsL_law wsX8_task := lq_cons (lq_104) (goodIn_app (lq_105) (lq_15))
set_option maxRecDepth 20000 in
theorem gL_law_X8_task : GoodIn wsL_law (wsV RL 85 RX8 yX8_task wsX8_task) := goodIn_app (goodIn_of _ (by decide +kernel)) ggL_law_X8_task
theorem ggL_law_X7_forecast : GoodIn wsL_law wsX7_forecast := lq_cons (lq_106) (goodIn_app (goodIn_app (goodIn_app (goodIn_app (goodIn_app (goodIn_app (goodIn_app (goodIn_app (lq_107) (goodIn_app (lq_108) (goodIn_app (lq_109) (goodIn_app (lq_110) (goodIn_app (lq_111) (goodIn_app (lq_112) (goodIn_app (lq_113) (goodIn_app (lq_114) (goodIn_app (lq_115) (goodIn_app (lq_116) (lq_117))))))))))) (lq_6)) (lq_5)) (lq_9)) (lq_8)) (lq_10)) (lq_11)) (lq_12))
set_option maxRecDepth 20000 in
theorem gL_law_X7_forecast : GoodIn wsL_law (wsV RL 86 RX7 yX7_forecast wsX7_forecast) := goodIn_app (goodIn_of _ (by decide +kernel)) ggL_law_X7_forecast
theorem ggL_law_X8_forecast : GoodIn wsL_law wsX8_forecast := lq_cons (lq_118) (goodIn_app (goodIn_app (lq_119) (goodIn_app (lq_120) (goodIn_app (lq_121) (goodIn_app (lq_122) (lq_123))))) (lq_15))
set_option maxRecDepth 20000 in
theorem gL_law_X8_forecast : GoodIn wsL_law (wsV RL 89 RX8 yX8_forecast wsX8_forecast) := goodIn_app (goodIn_of _ (by decide +kernel)) ggL_law_X8_forecast
theorem ggL_law_X7_darkWith : GoodIn wsL_law wsX7_darkWith := lq_cons (lq_124) (goodIn_app (goodIn_app (goodIn_app (goodIn_app (goodIn_app (goodIn_app (goodIn_app (goodIn_app (lq_125) (goodIn_app (lq_126) (goodIn_app (lq_127) (goodIn_app (lq_128) (goodIn_app (lq_129) (goodIn_app (lq_130) (goodIn_app (lq_131) (goodIn_app (lq_132) (goodIn_app (lq_133) (goodIn_app (lq_134) (goodIn_app (lq_135) (lq_136)))))))))))) (lq_6)) (lq_5)) (lq_8)) (lq_10)) (lq_9)) (lq_11)) (lq_12))
set_option maxRecDepth 20000 in
theorem gL_law_X7_darkWith : GoodIn wsL_law (wsV RL 90 RX7 yX7_darkWith wsX7_darkWith) := goodIn_app (goodIn_of _ (by decide +kernel)) ggL_law_X7_darkWith
theorem ggL_law_X8_darkWith : GoodIn wsL_law wsX8_darkWith := lq_cons (lq_137) (goodIn_app (goodIn_app (lq_138) (goodIn_app (lq_139) (goodIn_app (lq_140) (goodIn_app (lq_141) (lq_142))))) (lq_15))
set_option maxRecDepth 20000 in
theorem gL_law_X8_darkWith : GoodIn wsL_law (wsV RL 93 RX8 yX8_darkWith wsX8_darkWith) := goodIn_app (goodIn_of _ (by decide +kernel)) ggL_law_X8_darkWith
theorem ggL_law_X7_save : GoodIn wsL_law wsX7_save := lq_cons (lq_143) (goodIn_app (goodIn_app (goodIn_app (goodIn_app (goodIn_app (goodIn_app (goodIn_app (goodIn_app (lq_144) (goodIn_app (lq_145) (goodIn_app (lq_146) (goodIn_app (lq_147) (lq_148))))) (lq_6)) (lq_5)) (lq_8)) (lq_9)) (lq_10)) (lq_11)) (lq_12))
set_option maxRecDepth 20000 in
theorem gL_law_X7_save : GoodIn wsL_law (wsV RL 94 RX7 yX7_save wsX7_save) := goodIn_app (goodIn_of _ (by decide +kernel)) ggL_law_X7_save
theorem ggL_law_X8_save : GoodIn wsL_law wsX8_save := lq_cons (lq_149) (goodIn_app (lq_150) (lq_15))
set_option maxRecDepth 20000 in
theorem gL_law_X8_save : GoodIn wsL_law (wsV RL 97 RX8 yX8_save wsX8_save) := goodIn_app (goodIn_of _ (by decide +kernel)) ggL_law_X8_save
theorem ggL_law_X7_restore : GoodIn wsL_law wsX7_restore := lq_cons (lq_151) (goodIn_app (goodIn_app (goodIn_app (goodIn_app (goodIn_app (goodIn_app (goodIn_app (goodIn_app (lq_152) (goodIn_app (lq_153) (goodIn_app (lq_154) (lq_155)))) (lq_6)) (lq_5)) (lq_8)) (lq_10)) (lq_9)) (lq_11)) (lq_12))
set_option maxRecDepth 20000 in
theorem gL_law_X7_restore : GoodIn wsL_law (wsV RL 98 RX7 yX7_restore wsX7_restore) := goodIn_app (goodIn_of _ (by decide +kernel)) ggL_law_X7_restore
theorem ggL_law_X8_restore : GoodIn wsL_law wsX8_restore := lq_cons (lq_156) (goodIn_app (lq_157) (lq_15))
set_option maxRecDepth 20000 in
theorem gL_law_X8_restore : GoodIn wsL_law (wsV RL 101 RX8 yX8_restore wsX8_restore) := goodIn_app (goodIn_of _ (by decide +kernel)) ggL_law_X8_restore
theorem ggL_law_X7_checksum : GoodIn wsL_law wsX7_checksum := lq_cons (lq_158) (goodIn_app (goodIn_app (goodIn_app (goodIn_app (goodIn_app (goodIn_app (goodIn_app (goodIn_app (lq_159) (goodIn_app (lq_160) (goodIn_app (lq_161) (goodIn_app (lq_162) (goodIn_app (lq_163) (goodIn_app (lq_164) (goodIn_app (lq_165) (goodIn_app (lq_166) (goodIn_app (lq_167) (goodIn_app (lq_168) (goodIn_app (lq_169) (goodIn_app (lq_170) (goodIn_app (lq_171) (lq_172)))))))))))))) (lq_6)) (lq_5)) (lq_9)) (lq_8)) (lq_10)) (lq_11)) (lq_12))
set_option maxRecDepth 20000 in
theorem gL_law_X7_checksum : GoodIn wsL_law (wsV RL 102 RX7 yX7_checksum wsX7_checksum) := goodIn_app (goodIn_of _ (by decide +kernel)) ggL_law_X7_checksum
theorem ggL_law_X8_checksum : GoodIn wsL_law wsX8_checksum := lq_cons (lq_173) (goodIn_app (goodIn_app (lq_174) (goodIn_app (lq_175) (goodIn_app (lq_176) (goodIn_app (lq_177) (lq_178))))) (lq_15))
set_option maxRecDepth 20000 in
theorem gL_law_X8_checksum : GoodIn wsL_law (wsV RL 106 RX8 yX8_checksum wsX8_checksum) := goodIn_app (goodIn_of _ (by decide +kernel)) ggL_law_X8_checksum

