theorem wsL_law_in : ∀ w ∈ wsL_law, w ∈ lw_tbl := List.forall_mem_append.mpr ⟨List.forall_mem_append.mpr ⟨List.forall_mem_append.mpr ⟨List.forall_mem_append.mpr ⟨List.forall_mem_append.mpr ⟨List.forall_mem_append.mpr ⟨List.forall_mem_append.mpr ⟨List.forall_mem_append.mpr ⟨List.forall_mem_append.mpr ⟨List.forall_mem_append.mpr ⟨lqt_0, List.forall_mem_append.mpr ⟨lqt_1, List.forall_mem_append.mpr ⟨lqt_2, List.forall_mem_append.mpr ⟨lqt_3, List.forall_mem_append.mpr ⟨lqt_4, List.forall_mem_append.mpr ⟨lqt_5, List.forall_mem_append.mpr ⟨lqt_6, List.forall_mem_append.mpr ⟨lqt_7, List.forall_mem_append.mpr ⟨lqt_8, List.forall_mem_append.mpr ⟨lqt_9, List.forall_mem_append.mpr ⟨lqt_10, List.forall_mem_append.mpr ⟨lqt_11, List.forall_mem_append.mpr ⟨lqt_12, List.forall_mem_append.mpr ⟨lqt_13, List.forall_mem_append.mpr ⟨lqt_14, List.forall_mem_append.mpr ⟨lqt_15, List.forall_mem_append.mpr ⟨lqt_16, List.forall_mem_append.mpr ⟨lqt_17, List.forall_mem_append.mpr ⟨lqt_18, List.forall_mem_append.mpr ⟨lqt_19, List.forall_mem_append.mpr ⟨lqt_20, List.forall_mem_append.mpr ⟨lqt_21, List.forall_mem_append.mpr ⟨lqt_22, lqt_23⟩⟩⟩⟩⟩⟩⟩⟩⟩⟩⟩⟩⟩⟩⟩⟩⟩⟩⟩⟩⟩⟩⟩, lqt_24⟩, lqt_25⟩, lqt_26⟩, lqt_27⟩, lqt_28⟩, lqt_29⟩, lqt_30⟩, lqt_31⟩, lqt_32⟩
theorem inlX0 : ∀ w ∈ wsX00, w ∈ wsL_law := fun _ h => List.mem_append_left _ (List.mem_append_left _ (List.mem_append_right _ h))
theorem inX0 : ∀ w ∈ wsX00, w ∈ lw_tbl := fun w h => wsL_law_in w (inlX0 w h)
theorem inlX1 : ∀ w ∈ wsX10, w ∈ wsL_law := fun _ h => List.mem_append_left _ (List.mem_append_left _ (List.mem_append_left _ (List.mem_append_left _ (List.mem_append_left _ (List.mem_append_left _ (List.mem_append_right _ h))))))
theorem inX1 : ∀ w ∈ wsX10, w ∈ lw_tbl := fun w h => wsL_law_in w (inlX1 w h)
theorem inlX2 : ∀ w ∈ wsX20, w ∈ wsL_law := fun _ h => List.mem_append_left _ (List.mem_append_right _ h)
theorem inX2 : ∀ w ∈ wsX20, w ∈ lw_tbl := fun w h => wsL_law_in w (inlX2 w h)
theorem inlX3 : ∀ w ∈ wsX30, w ∈ wsL_law := fun _ h => List.mem_append_left _ (List.mem_append_left _ (List.mem_append_left _ (List.mem_append_right _ h)))
theorem inX3 : ∀ w ∈ wsX30, w ∈ lw_tbl := fun w h => wsL_law_in w (inlX3 w h)
theorem inlX4 : ∀ w ∈ wsX40, w ∈ wsL_law := fun _ h => List.mem_append_left _ (List.mem_append_left _ (List.mem_append_left _ (List.mem_append_left _ (List.mem_append_left _ (List.mem_append_left _ (List.mem_append_left _ (List.mem_append_right _ h)))))))
theorem inX4 : ∀ w ∈ wsX40, w ∈ lw_tbl := fun w h => wsL_law_in w (inlX4 w h)
theorem inlX5 : ∀ w ∈ wsX50, w ∈ wsL_law := fun _ h => List.mem_append_left _ (List.mem_append_left _ (List.mem_append_left _ (List.mem_append_left _ (List.mem_append_right _ h))))
theorem inX5 : ∀ w ∈ wsX50, w ∈ lw_tbl := fun w h => wsL_law_in w (inlX5 w h)
theorem inlX6 : ∀ w ∈ wsX60, w ∈ wsL_law := fun _ h => List.mem_append_left _ (List.mem_append_left _ (List.mem_append_left _ (List.mem_append_left _ (List.mem_append_left _ (List.mem_append_right _ h)))))
theorem inX6 : ∀ w ∈ wsX60, w ∈ lw_tbl := fun w h => wsL_law_in w (inlX6 w h)
theorem inlX7 : ∀ w ∈ wsX70, w ∈ wsL_law := fun _ h => List.mem_append_left _ (List.mem_append_left _ (List.mem_append_left _ (List.mem_append_left _ (List.mem_append_left _ (List.mem_append_left _ (List.mem_append_left _ (List.mem_append_left _ (List.mem_append_right _ h))))))))
theorem inX7 : ∀ w ∈ wsX70, w ∈ lw_tbl := fun w h => wsL_law_in w (inlX7 w h)
theorem inX8 : ∀ w ∈ wsX80, w ∈ lw_tbl := by decide +kernel
theorem ggL_makes_X7_makeReel : GoodIn wsL_makes wsX7_makeReel := lq_cons (lq_1) (goodIn_app (goodIn_app (goodIn_app (goodIn_app (goodIn_app (lq_2) (lq_3)) (lq_4)) (lq_5)) (lq_6)) (lq_7))
set_option maxRecDepth 20000 in
theorem gL_makes_X7_makeReel : GoodIn wsL_makes (wsV RL 9 RX7 yX7_makeReel wsX7_makeReel) := goodIn_app (goodIn_of _ (by decide +kernel)) ggL_makes_X7_makeReel
theorem ggL_makes_X7_reel : GoodIn wsL_makes wsX7_reel := lq_cons (lq_8) (goodIn_app (goodIn_app (goodIn_app (goodIn_app (lq_9) (lq_4)) (lq_5)) (lq_7)) (lq_6))
set_option maxRecDepth 20000 in
theorem gL_makes_X7_reel : GoodIn wsL_makes (wsV RL 15 RX7 yX7_reel wsX7_reel) := goodIn_app (goodIn_of _ (by decide +kernel)) ggL_makes_X7_reel
theorem ggL_splices_X7_splice : GoodIn wsL_splices wsX7_splice := lq_cons (lq_10) (goodIn_app (goodIn_app (goodIn_app (goodIn_app (goodIn_app (lq_11) (lq_12)) (lq_13)) (lq_14)) (lq_15)) (lq_16))
set_option maxRecDepth 20000 in
theorem gL_splices_X7_splice : GoodIn wsL_splices (wsV RL 20 RX7 yX7_splice wsX7_splice) := goodIn_app (goodIn_of _ (by decide +kernel)) ggL_splices_X7_splice
theorem ggL_sets_L_low : GoodIn wsL_sets wsL_low := lq_cons (lq_17) (lq_18)
set_option maxRecDepth 20000 in
theorem gL_sets_L_low : GoodIn wsL_sets (va_wsS RL 25 yL_low wsL_low) := goodIn_app (goodIn_of _ (by decide +kernel)) ggL_sets_L_low
theorem ggL_sets_L_high : GoodIn wsL_sets wsL_high := lq_cons (lq_19) (lq_18)
set_option maxRecDepth 20000 in
theorem gL_sets_L_high : GoodIn wsL_sets (va_wsS RL 30 yL_high wsL_high) := goodIn_app (goodIn_of _ (by decide +kernel)) ggL_sets_L_high
theorem ggL_sets_X7_set : GoodIn wsL_sets wsX7_set := lq_cons (lq_20) (goodIn_app (goodIn_app (goodIn_app (goodIn_app (lq_21) (lq_22)) (lq_23)) (lq_24)) (lq_25))
set_option maxRecDepth 20000 in
theorem gL_sets_X7_set : GoodIn wsL_sets (wsV RL 33 RX7 yX7_set wsX7_set) := goodIn_app (goodIn_of _ (by decide +kernel)) ggL_sets_X7_set
theorem ggL_sound_X7_tell : GoodIn wsL_sound wsX7_tell := lq_cons (lq_26) (goodIn_app (goodIn_app (goodIn_app (goodIn_app (lq_27) (lq_28)) (lq_29)) (lq_30)) (lq_31))
set_option maxRecDepth 20000 in
theorem gL_sound_X7_tell : GoodIn wsL_sound (wsV RL 38 RX7 yX7_tell wsX7_tell) := goodIn_app (goodIn_of _ (by decide +kernel)) ggL_sound_X7_tell
theorem ggL_sound_X7_task : GoodIn wsL_sound wsX7_task := lq_cons (lq_32) (goodIn_app (goodIn_app (goodIn_app (goodIn_app (goodIn_app (lq_33) (lq_34)) (lq_28)) (lq_29)) (lq_30)) (lq_31))
set_option maxRecDepth 20000 in
theorem gL_sound_X7_task : GoodIn wsL_sound (wsV RL 41 RX7 yX7_task wsX7_task) := goodIn_app (goodIn_of _ (by decide +kernel)) ggL_sound_X7_task
theorem ggL_sound_X7_projector : GoodIn wsL_sound wsX7_projector := lq_cons (lq_35) (goodIn_app (goodIn_app (goodIn_app (goodIn_app (goodIn_app (lq_36) (lq_37)) (lq_28)) (lq_29)) (lq_38)) (lq_30))
set_option maxRecDepth 20000 in
theorem gL_sound_X7_projector : GoodIn wsL_sound (wsV RL 44 RX7 yX7_projector wsX7_projector) := goodIn_app (goodIn_of _ (by decide +kernel)) ggL_sound_X7_projector
theorem ggL_goes_X7_tell : GoodIn wsL_goes wsX7_tell := lq_cons (lq_39) (goodIn_app (goodIn_app (goodIn_app (goodIn_app (lq_40) (lq_41)) (lq_42)) (lq_43)) (lq_44))
set_option maxRecDepth 20000 in
theorem gL_goes_X7_tell : GoodIn wsL_goes (wsV RL 38 RX7 yX7_tell wsX7_tell) := goodIn_app (goodIn_of _ (by decide +kernel)) ggL_goes_X7_tell
theorem ggL_goes_X7_pass : GoodIn wsL_goes wsX7_pass := lq_cons (lq_45) (goodIn_app (goodIn_app (goodIn_app (goodIn_app (goodIn_app (goodIn_app (goodIn_app (goodIn_app (lq_46) (goodIn_app (lq_47) (goodIn_app (lq_48) (goodIn_app (lq_49) (goodIn_app (lq_50) (goodIn_app (lq_51) (goodIn_app (lq_52) (goodIn_app (lq_53) (lq_54))))))))) (lq_41)) (lq_42)) (lq_43)) (lq_55)) (lq_44)) (lq_56)) (lq_57))
set_option maxRecDepth 20000 in
theorem gL_goes_X7_pass : GoodIn wsL_goes (wsV RL 47 RX7 yX7_pass wsX7_pass) := goodIn_app (goodIn_of _ (by decide +kernel)) ggL_goes_X7_pass
theorem ggL_goes_X7_forecast : GoodIn wsL_goes wsX7_forecast := lq_cons (lq_58) (goodIn_app (goodIn_app (goodIn_app (goodIn_app (goodIn_app (goodIn_app (goodIn_app (goodIn_app (lq_59) (goodIn_app (lq_60) (goodIn_app (lq_61) (goodIn_app (lq_62) (goodIn_app (lq_63) (goodIn_app (lq_64) (goodIn_app (lq_65) (goodIn_app (lq_66) (goodIn_app (lq_67) (goodIn_app (lq_68) (lq_69))))))))))) (lq_41)) (lq_42)) (lq_43)) (lq_57)) (lq_56)) (lq_44)) (lq_55))
set_option maxRecDepth 20000 in
theorem gL_goes_X7_forecast : GoodIn wsL_goes (wsV RL 51 RX7 yX7_forecast wsX7_forecast) := goodIn_app (goodIn_of _ (by decide +kernel)) ggL_goes_X7_forecast
theorem ggL_goes_X7_checksum : GoodIn wsL_goes wsX7_checksum := lq_cons (lq_70) (goodIn_app (goodIn_app (goodIn_app (goodIn_app (goodIn_app (goodIn_app (goodIn_app (goodIn_app (lq_71) (goodIn_app (lq_72) (goodIn_app (lq_73) (goodIn_app (lq_74) (goodIn_app (lq_75) (goodIn_app (lq_76) (goodIn_app (lq_77) (goodIn_app (lq_78) (goodIn_app (lq_79) (goodIn_app (lq_80) (goodIn_app (lq_81) (goodIn_app (lq_82) (goodIn_app (lq_83) (lq_84)))))))))))))) (lq_41)) (lq_42)) (lq_43)) (lq_57)) (lq_56)) (lq_44)) (lq_55))
set_option maxRecDepth 20000 in
theorem gL_goes_X7_checksum : GoodIn wsL_goes (wsV RL 54 RX7 yX7_checksum wsX7_checksum) := goodIn_app (goodIn_of _ (by decide +kernel)) ggL_goes_X7_checksum
theorem ggL_goes_X7_save : GoodIn wsL_goes wsX7_save := lq_cons (lq_85) (goodIn_app (goodIn_app (goodIn_app (goodIn_app (goodIn_app (goodIn_app (goodIn_app (goodIn_app (lq_86) (goodIn_app (lq_87) (goodIn_app (lq_88) (goodIn_app (lq_89) (lq_90))))) (lq_41)) (lq_42)) (lq_57)) (lq_43)) (lq_56)) (lq_44)) (lq_55))
set_option maxRecDepth 20000 in
theorem gL_goes_X7_save : GoodIn wsL_goes (wsV RL 58 RX7 yX7_save wsX7_save) := goodIn_app (goodIn_of _ (by decide +kernel)) ggL_goes_X7_save
theorem ggL_goes_X7_restore : GoodIn wsL_goes wsX7_restore := lq_cons (lq_91) (goodIn_app (goodIn_app (goodIn_app (goodIn_app (goodIn_app (goodIn_app (goodIn_app (goodIn_app (lq_92) (goodIn_app (lq_93) (goodIn_app (lq_94) (lq_95)))) (lq_41)) (lq_42)) (lq_57)) (lq_56)) (lq_43)) (lq_44)) (lq_55))
set_option maxRecDepth 20000 in
theorem gL_goes_X7_restore : GoodIn wsL_goes (wsV RL 61 RX7 yX7_restore wsX7_restore) := goodIn_app (goodIn_of _ (by decide +kernel)) ggL_goes_X7_restore
theorem ggL_goes_X7_projector : GoodIn wsL_goes wsX7_projector := lq_cons (lq_96) (goodIn_app (goodIn_app (goodIn_app (goodIn_app (goodIn_app (lq_97) (lq_98)) (lq_41)) (lq_42)) (lq_55)) (lq_43))
set_option maxRecDepth 20000 in
theorem gL_goes_X7_projector : GoodIn wsL_goes (wsV RL 44 RX7 yX7_projector wsX7_projector) := goodIn_app (goodIn_of _ (by decide +kernel)) ggL_goes_X7_projector
theorem ggL_refuses_X7_checksum : GoodIn wsL_refuses wsX7_checksum := lq_cons (lq_99) (goodIn_app (goodIn_app (goodIn_app (goodIn_app (goodIn_app (goodIn_app (goodIn_app (goodIn_app (lq_100) (goodIn_app (lq_101) (goodIn_app (lq_102) (goodIn_app (lq_103) (goodIn_app (lq_104) (goodIn_app (lq_105) (goodIn_app (lq_106) (goodIn_app (lq_107) (goodIn_app (lq_108) (goodIn_app (lq_109) (goodIn_app (lq_110) (goodIn_app (lq_111) (goodIn_app (lq_112) (lq_113)))))))))))))) (lq_114)) (lq_115)) (lq_116)) (lq_117)) (lq_118)) (lq_119)) (lq_120))
set_option maxRecDepth 20000 in
theorem gL_refuses_X7_checksum : GoodIn wsL_refuses (wsV RL 54 RX7 yX7_checksum wsX7_checksum) := goodIn_app (goodIn_of _ (by decide +kernel)) ggL_refuses_X7_checksum
theorem ggL_refuses_X7_makeReel : GoodIn wsL_refuses wsX7_makeReel := lq_cons (lq_121) (goodIn_app (goodIn_app (goodIn_app (goodIn_app (goodIn_app (lq_122) (lq_123)) (lq_114)) (lq_115)) (lq_117)) (lq_118))
set_option maxRecDepth 20000 in
theorem gL_refuses_X7_makeReel : GoodIn wsL_refuses (wsV RL 9 RX7 yX7_makeReel wsX7_makeReel) := goodIn_app (goodIn_of _ (by decide +kernel)) ggL_refuses_X7_makeReel
theorem ggL_refuses_X7_splice : GoodIn wsL_refuses wsX7_splice := lq_cons (lq_124) (goodIn_app (goodIn_app (goodIn_app (goodIn_app (goodIn_app (lq_125) (lq_126)) (lq_114)) (lq_115)) (lq_118)) (lq_117))
set_option maxRecDepth 20000 in
theorem gL_refuses_X7_splice : GoodIn wsL_refuses (wsV RL 20 RX7 yX7_splice wsX7_splice) := goodIn_app (goodIn_of _ (by decide +kernel)) ggL_refuses_X7_splice
theorem ggL_refuses_X7_mend : GoodIn wsL_refuses wsX7_mend := lq_cons (lq_127) (goodIn_app (goodIn_app (goodIn_app (goodIn_app (lq_128) (lq_114)) (lq_115)) (lq_117)) (lq_118))
set_option maxRecDepth 20000 in
theorem gL_refuses_X7_mend : GoodIn wsL_refuses (wsV RL 64 RX7 yX7_mend wsX7_mend) := goodIn_app (goodIn_of _ (by decide +kernel)) ggL_refuses_X7_mend
theorem ggL_refuses_X7_reel : GoodIn wsL_refuses wsX7_reel := lq_cons (lq_129) (goodIn_app (goodIn_app (goodIn_app (goodIn_app (lq_130) (lq_114)) (lq_115)) (lq_118)) (lq_117))
set_option maxRecDepth 20000 in
theorem gL_refuses_X7_reel : GoodIn wsL_refuses (wsV RL 15 RX7 yX7_reel wsX7_reel) := goodIn_app (goodIn_of _ (by decide +kernel)) ggL_refuses_X7_reel
theorem ggL_refuses_X7_spliceAt : GoodIn wsL_refuses wsX7_spliceAt := lq_cons (lq_131) (goodIn_app (goodIn_app (goodIn_app (goodIn_app (lq_132) (lq_114)) (lq_115)) (lq_118)) (lq_117))
set_option maxRecDepth 20000 in
theorem gL_refuses_X7_spliceAt : GoodIn wsL_refuses (wsV RL 67 RX7 yX7_spliceAt wsX7_spliceAt) := goodIn_app (goodIn_of _ (by decide +kernel)) ggL_refuses_X7_spliceAt
theorem ggL_refuses_X7_set : GoodIn wsL_refuses wsX7_set := lq_cons (lq_133) (goodIn_app (goodIn_app (goodIn_app (goodIn_app (lq_134) (lq_135)) (lq_114)) (lq_115)) (lq_117))
set_option maxRecDepth 20000 in
theorem gL_refuses_X7_set : GoodIn wsL_refuses (wsV RL 33 RX7 yX7_set wsX7_set) := goodIn_app (goodIn_of _ (by decide +kernel)) ggL_refuses_X7_set
theorem ggL_refuses_X7_append : GoodIn wsL_refuses wsX7_append := lq_cons (lq_136) (goodIn_app (goodIn_app (lq_137) (lq_114)) (lq_138))
set_option maxRecDepth 20000 in
theorem gL_refuses_X7_append : GoodIn wsL_refuses (wsV RL 71 RX7 yX7_append wsX7_append) := goodIn_app (goodIn_of _ (by decide +kernel)) ggL_refuses_X7_append
theorem ggL_refuses_X7_program : GoodIn wsL_refuses wsX7_program := lq_cons (lq_139) (goodIn_app (goodIn_app (goodIn_app (lq_140) (lq_114)) (lq_115)) (lq_117))
set_option maxRecDepth 20000 in
theorem gL_refuses_X7_program : GoodIn wsL_refuses (wsV RL 74 RX7 yX7_program wsX7_program) := goodIn_app (goodIn_of _ (by decide +kernel)) ggL_refuses_X7_program
theorem ggL_refuses_X7_pass : GoodIn wsL_refuses wsX7_pass := lq_cons (lq_141) (goodIn_app (goodIn_app (goodIn_app (goodIn_app (goodIn_app (goodIn_app (goodIn_app (goodIn_app (lq_142) (goodIn_app (lq_143) (goodIn_app (lq_144) (goodIn_app (lq_145) (goodIn_app (lq_146) (goodIn_app (lq_147) (goodIn_app (lq_148) (goodIn_app (lq_149) (lq_150))))))))) (lq_114)) (lq_115)) (lq_116)) (lq_120)) (lq_119)) (lq_118)) (lq_117))
set_option maxRecDepth 20000 in
theorem gL_refuses_X7_pass : GoodIn wsL_refuses (wsV RL 47 RX7 yX7_pass wsX7_pass) := goodIn_app (goodIn_of _ (by decide +kernel)) ggL_refuses_X7_pass
theorem ggL_refuses_X7_tell : GoodIn wsL_refuses wsX7_tell := lq_cons (lq_151) (goodIn_app (goodIn_app (goodIn_app (goodIn_app (lq_152) (lq_114)) (lq_115)) (lq_116)) (lq_119))
set_option maxRecDepth 20000 in
theorem gL_refuses_X7_tell : GoodIn wsL_refuses (wsV RL 38 RX7 yX7_tell wsX7_tell) := goodIn_app (goodIn_of _ (by decide +kernel)) ggL_refuses_X7_tell
theorem ggL_refuses_X7_projector : GoodIn wsL_refuses wsX7_projector := lq_cons (lq_153) (goodIn_app (goodIn_app (goodIn_app (goodIn_app (goodIn_app (lq_154) (lq_155)) (lq_114)) (lq_115)) (lq_120)) (lq_116))
set_option maxRecDepth 20000 in
theorem gL_refuses_X7_projector : GoodIn wsL_refuses (wsV RL 44 RX7 yX7_projector wsX7_projector) := goodIn_app (goodIn_of _ (by decide +kernel)) ggL_refuses_X7_projector
theorem ggL_refuses_X7_task : GoodIn wsL_refuses wsX7_task := lq_cons (lq_156) (goodIn_app (goodIn_app (goodIn_app (goodIn_app (goodIn_app (lq_157) (lq_158)) (lq_114)) (lq_115)) (lq_116)) (lq_119))
set_option maxRecDepth 20000 in
theorem gL_refuses_X7_task : GoodIn wsL_refuses (wsV RL 41 RX7 yX7_task wsX7_task) := goodIn_app (goodIn_of _ (by decide +kernel)) ggL_refuses_X7_task
theorem ggL_refuses_X7_forecast : GoodIn wsL_refuses wsX7_forecast := lq_cons (lq_159) (goodIn_app (goodIn_app (goodIn_app (goodIn_app (goodIn_app (goodIn_app (goodIn_app (goodIn_app (lq_160) (goodIn_app (lq_161) (goodIn_app (lq_162) (goodIn_app (lq_163) (goodIn_app (lq_164) (goodIn_app (lq_165) (goodIn_app (lq_166) (goodIn_app (lq_167) (goodIn_app (lq_168) (goodIn_app (lq_169) (lq_170))))))))))) (lq_114)) (lq_115)) (lq_116)) (lq_117)) (lq_118)) (lq_119)) (lq_120))
set_option maxRecDepth 20000 in
theorem gL_refuses_X7_forecast : GoodIn wsL_refuses (wsV RL 51 RX7 yX7_forecast wsX7_forecast) := goodIn_app (goodIn_of _ (by decide +kernel)) ggL_refuses_X7_forecast
theorem ggL_refuses_X7_darkWith : GoodIn wsL_refuses wsX7_darkWith := lq_cons (lq_171) (goodIn_app (goodIn_app (goodIn_app (goodIn_app (goodIn_app (goodIn_app (goodIn_app (goodIn_app (lq_172) (goodIn_app (lq_173) (goodIn_app (lq_174) (goodIn_app (lq_175) (goodIn_app (lq_176) (goodIn_app (lq_177) (goodIn_app (lq_178) (goodIn_app (lq_179) (goodIn_app (lq_180) (goodIn_app (lq_181) (goodIn_app (lq_182) (lq_183)))))))))))) (lq_114)) (lq_115)) (lq_117)) (lq_118)) (lq_116)) (lq_119)) (lq_120))
set_option maxRecDepth 20000 in
theorem gL_refuses_X7_darkWith : GoodIn wsL_refuses (wsV RL 77 RX7 yX7_darkWith wsX7_darkWith) := goodIn_app (goodIn_of _ (by decide +kernel)) ggL_refuses_X7_darkWith
theorem ggL_refuses_X7_save : GoodIn wsL_refuses wsX7_save := lq_cons (lq_184) (goodIn_app (goodIn_app (goodIn_app (goodIn_app (goodIn_app (goodIn_app (goodIn_app (goodIn_app (lq_185) (goodIn_app (lq_186) (goodIn_app (lq_187) (goodIn_app (lq_188) (lq_189))))) (lq_114)) (lq_115)) (lq_117)) (lq_116)) (lq_118)) (lq_119)) (lq_120))
set_option maxRecDepth 20000 in
theorem gL_refuses_X7_save : GoodIn wsL_refuses (wsV RL 58 RX7 yX7_save wsX7_save) := goodIn_app (goodIn_of _ (by decide +kernel)) ggL_refuses_X7_save
theorem ggL_refuses_X7_restore : GoodIn wsL_refuses wsX7_restore := lq_cons (lq_190) (goodIn_app (goodIn_app (goodIn_app (goodIn_app (goodIn_app (goodIn_app (goodIn_app (goodIn_app (lq_191) (goodIn_app (lq_192) (goodIn_app (lq_193) (lq_194)))) (lq_114)) (lq_115)) (lq_117)) (lq_118)) (lq_116)) (lq_119)) (lq_120))
set_option maxRecDepth 20000 in
theorem gL_refuses_X7_restore : GoodIn wsL_refuses (wsV RL 61 RX7 yX7_restore wsX7_restore) := goodIn_app (goodIn_of _ (by decide +kernel)) ggL_refuses_X7_restore
theorem ggL_law_X7_init : GoodIn wsL_law wsX7_init := lq_cons (lq_195) (goodIn_app (goodIn_app (goodIn_app (goodIn_app (goodIn_app (goodIn_app (goodIn_app (goodIn_app (goodIn_app (lq_196) (goodIn_app (lq_197) (lq_198))) (lq_199)) (lq_200)) (lq_201)) (lq_202)) (lq_203)) (lq_204)) (lq_205)) (lq_206))
set_option maxRecDepth 20000 in
theorem gL_law_X7_init : GoodIn wsL_law (wsX7_init) := ggL_law_X7_init
theorem ggL_law_L_first : GoodIn wsL_law wsL_first := lq_cons (lq_207) (lq_208)
set_option maxRecDepth 20000 in
theorem gL_law_L_first : GoodIn wsL_law (va_wsS RL 81 yL_first wsL_first) := goodIn_app (goodIn_of _ (by decide +kernel)) ggL_law_L_first
theorem ggL_law_L_cell : GoodIn wsL_law wsL_cell := lq_cons (lq_209) (lq_210)
set_option maxRecDepth 20000 in
theorem gL_law_L_cell : GoodIn wsL_law (va_wsS RL 85 yL_cell wsL_cell) := goodIn_app (goodIn_of _ (by decide +kernel)) ggL_law_L_cell
theorem ggL_law_X7_restore : GoodIn wsL_law wsX7_restore := lq_cons (lq_211) (goodIn_app (goodIn_app (goodIn_app (goodIn_app (goodIn_app (goodIn_app (goodIn_app (goodIn_app (lq_212) (goodIn_app (lq_213) (goodIn_app (lq_214) (lq_215)))) (lq_200)) (lq_199)) (lq_202)) (lq_204)) (lq_203)) (lq_205)) (lq_206))
set_option maxRecDepth 20000 in
theorem gL_law_X7_restore : GoodIn wsL_law (wsV RL 61 RX7 yX7_restore wsX7_restore) := goodIn_app (goodIn_of _ (by decide +kernel)) ggL_law_X7_restore
theorem ggL_law_X7_tell : GoodIn wsL_law wsX7_tell := lq_cons (lq_216) (goodIn_app (goodIn_app (goodIn_app (goodIn_app (lq_217) (lq_200)) (lq_199)) (lq_203)) (lq_205))
set_option maxRecDepth 20000 in
theorem gL_law_X7_tell : GoodIn wsL_law (wsV RL 38 RX7 yX7_tell wsX7_tell) := goodIn_app (goodIn_of _ (by decide +kernel)) ggL_law_X7_tell
theorem ggL_law_X7_faultPosition : GoodIn wsL_law wsX7_faultPosition := lq_cons (lq_218) (goodIn_app (goodIn_app (goodIn_app (goodIn_app (lq_219) (lq_200)) (lq_199)) (lq_202)) (lq_201))
set_option maxRecDepth 20000 in
theorem gL_law_X7_faultPosition : GoodIn wsL_law (wsV RL 89 RX7 yX7_faultPosition wsX7_faultPosition) := goodIn_app (goodIn_of _ (by decide +kernel)) ggL_law_X7_faultPosition
theorem ggL_law_X7_begin : GoodIn wsL_law wsX7_begin := lq_cons (lq_220) (goodIn_app (goodIn_app (goodIn_app (goodIn_app (goodIn_app (goodIn_app (goodIn_app (lq_221) (lq_222)) (lq_200)) (lq_199)) (lq_202)) (lq_203)) (lq_206)) (lq_205))
set_option maxRecDepth 20000 in
theorem gL_law_X7_begin : GoodIn wsL_law (wsV RL 93 RX7 yX7_begin wsX7_begin) := goodIn_app (goodIn_of _ (by decide +kernel)) ggL_law_X7_begin
theorem ggL_law_L_makes : GoodIn wsL_law wsL_makes := lq_cons (lq_223) (goodIn_app (goodIn_app (goodIn_app (goodIn_app (goodIn_app (lq_224) (lq_225)) (lq_200)) (lq_199)) (lq_202)) (lq_204))
set_option maxRecDepth 20000 in
theorem gL_law_L_makes : GoodIn wsL_law (va_wsS RL 96 yL_makes wsL_makes) := goodIn_app (goodIn_of _ (by decide +kernel)) ggL_law_L_makes
theorem ggL_law_L_splices : GoodIn wsL_law wsL_splices := lq_cons (lq_226) (goodIn_app (goodIn_app (goodIn_app (goodIn_app (goodIn_app (lq_227) (lq_228)) (lq_200)) (lq_199)) (lq_204)) (lq_202))
set_option maxRecDepth 20000 in
theorem gL_law_L_splices : GoodIn wsL_law (va_wsS RL 100 yL_splices wsL_splices) := goodIn_app (goodIn_of _ (by decide +kernel)) ggL_law_L_splices
theorem ggL_law_L_sets : GoodIn wsL_law wsL_sets := lq_cons (lq_229) (goodIn_app (goodIn_app (goodIn_app (goodIn_app (lq_230) (lq_231)) (lq_200)) (lq_199)) (lq_202))
set_option maxRecDepth 20000 in
theorem gL_law_L_sets : GoodIn wsL_law (va_wsS RL 104 yL_sets wsL_sets) := goodIn_app (goodIn_of _ (by decide +kernel)) ggL_law_L_sets
theorem ggL_law_X7_append : GoodIn wsL_law wsX7_append := lq_cons (lq_232) (goodIn_app (goodIn_app (lq_233) (lq_200)) (lq_201))
set_option maxRecDepth 20000 in
theorem gL_law_X7_append : GoodIn wsL_law (wsV RL 71 RX7 yX7_append wsX7_append) := goodIn_app (goodIn_of _ (by decide +kernel)) ggL_law_X7_append
theorem ggL_law_X7_setProgram : GoodIn wsL_law wsX7_setProgram := lq_cons (lq_234) (goodIn_app (goodIn_app (goodIn_app (goodIn_app (goodIn_app (goodIn_app (lq_235) (goodIn_app (lq_236) (lq_237))) (lq_200)) (lq_199)) (lq_203)) (lq_201)) (lq_202))
set_option maxRecDepth 20000 in
theorem gL_law_X7_setProgram : GoodIn wsL_law (wsV RL 107 RX7 yX7_setProgram wsX7_setProgram) := goodIn_app (goodIn_of _ (by decide +kernel)) ggL_law_X7_setProgram
theorem ggL_law_L_sound : GoodIn wsL_law wsL_sound := lq_cons (lq_238) (goodIn_app (goodIn_app (goodIn_app (goodIn_app (goodIn_app (goodIn_app (lq_239) (goodIn_app (lq_240) (goodIn_app (lq_241) (lq_242)))) (lq_200)) (lq_199)) (lq_203)) (lq_205)) (lq_206))
set_option maxRecDepth 20000 in
theorem gL_law_L_sound : GoodIn wsL_law (va_wsS RL 110 yL_sound wsL_sound) := goodIn_app (goodIn_of _ (by decide +kernel)) ggL_law_L_sound
theorem ggL_law_L_goes : GoodIn wsL_law wsL_goes := lq_cons (lq_243) (goodIn_app (goodIn_app (goodIn_app (goodIn_app (goodIn_app (goodIn_app (goodIn_app (goodIn_app (lq_244) (goodIn_app (lq_245) (goodIn_app (lq_246) (goodIn_app (lq_247) (goodIn_app (lq_248) (goodIn_app (lq_249) (goodIn_app (lq_250) (goodIn_app (lq_251) (goodIn_app (lq_252) (goodIn_app (lq_253) (goodIn_app (lq_254) (goodIn_app (lq_255) (goodIn_app (lq_256) (goodIn_app (lq_257) (goodIn_app (lq_258) (goodIn_app (lq_259) (lq_260))))))))))))))))) (lq_200)) (lq_199)) (lq_203)) (lq_205)) (lq_206)) (lq_204)) (lq_202))
set_option maxRecDepth 20000 in
theorem gL_law_L_goes : GoodIn wsL_law (va_wsS RL 114 yL_goes wsL_goes) := goodIn_app (goodIn_of _ (by decide +kernel)) ggL_law_L_goes
theorem ggL_law_L_refuses : GoodIn wsL_law wsL_refuses := lq_cons (lq_261) (goodIn_app (goodIn_app (goodIn_app (goodIn_app (goodIn_app (goodIn_app (goodIn_app (goodIn_app (goodIn_app (lq_262) (goodIn_app (lq_263) (goodIn_app (lq_264) (goodIn_app (lq_265) (goodIn_app (lq_266) (goodIn_app (lq_267) (goodIn_app (lq_268) (goodIn_app (lq_269) (goodIn_app (lq_270) (goodIn_app (lq_271) (goodIn_app (lq_272) (goodIn_app (lq_273) (goodIn_app (lq_274) (goodIn_app (lq_275) (goodIn_app (lq_276) (goodIn_app (lq_277) (goodIn_app (lq_278) (goodIn_app (lq_279) (goodIn_app (lq_280) (lq_281)))))))))))))))))))) (lq_200)) (lq_199)) (lq_203)) (lq_202)) (lq_204)) (lq_205)) (lq_206)) (lq_201))
set_option maxRecDepth 20000 in
theorem gL_law_L_refuses : GoodIn wsL_law (va_wsS RL 117 yL_refuses wsL_refuses) := goodIn_app (goodIn_of _ (by decide +kernel)) ggL_law_L_refuses
theorem ggL_law_X7_mend : GoodIn wsL_law wsX7_mend := lq_cons (lq_282) (goodIn_app (goodIn_app (goodIn_app (goodIn_app (lq_283) (lq_200)) (lq_199)) (lq_202)) (lq_204))
set_option maxRecDepth 20000 in
theorem gL_law_X7_mend : GoodIn wsL_law (wsV RL 64 RX7 yX7_mend wsX7_mend) := goodIn_app (goodIn_of _ (by decide +kernel)) ggL_law_X7_mend
theorem ggL_law_X7_reel : GoodIn wsL_law wsX7_reel := lq_cons (lq_284) (goodIn_app (goodIn_app (goodIn_app (goodIn_app (lq_285) (lq_200)) (lq_199)) (lq_204)) (lq_202))
set_option maxRecDepth 20000 in
theorem gL_law_X7_reel : GoodIn wsL_law (wsV RL 15 RX7 yX7_reel wsX7_reel) := goodIn_app (goodIn_of _ (by decide +kernel)) ggL_law_X7_reel
theorem ggL_law_X7_splice : GoodIn wsL_law wsX7_splice := lq_cons (lq_286) (goodIn_app (goodIn_app (goodIn_app (goodIn_app (goodIn_app (lq_287) (lq_288)) (lq_200)) (lq_199)) (lq_204)) (lq_202))
set_option maxRecDepth 20000 in
theorem gL_law_X7_splice : GoodIn wsL_law (wsV RL 20 RX7 yX7_splice wsX7_splice) := goodIn_app (goodIn_of _ (by decide +kernel)) ggL_law_X7_splice
theorem ggL_law_X7_checksum : GoodIn wsL_law wsX7_checksum := lq_cons (lq_289) (goodIn_app (goodIn_app (goodIn_app (goodIn_app (goodIn_app (goodIn_app (goodIn_app (goodIn_app (lq_290) (goodIn_app (lq_291) (goodIn_app (lq_292) (goodIn_app (lq_293) (goodIn_app (lq_294) (goodIn_app (lq_295) (goodIn_app (lq_296) (goodIn_app (lq_297) (goodIn_app (lq_298) (goodIn_app (lq_299) (goodIn_app (lq_300) (goodIn_app (lq_301) (goodIn_app (lq_302) (lq_303)))))))))))))) (lq_200)) (lq_199)) (lq_203)) (lq_202)) (lq_204)) (lq_205)) (lq_206))
set_option maxRecDepth 20000 in
theorem gL_law_X7_checksum : GoodIn wsL_law (wsV RL 54 RX7 yX7_checksum wsX7_checksum) := goodIn_app (goodIn_of _ (by decide +kernel)) ggL_law_X7_checksum
theorem ggL_law_X7_save : GoodIn wsL_law wsX7_save := lq_cons (lq_304) (goodIn_app (goodIn_app (goodIn_app (goodIn_app (goodIn_app (goodIn_app (goodIn_app (goodIn_app (lq_305) (goodIn_app (lq_306) (goodIn_app (lq_307) (goodIn_app (lq_308) (lq_309))))) (lq_200)) (lq_199)) (lq_202)) (lq_203)) (lq_204)) (lq_205)) (lq_206))
set_option maxRecDepth 20000 in
theorem gL_law_X7_save : GoodIn wsL_law (wsV RL 58 RX7 yX7_save wsX7_save) := goodIn_app (goodIn_of _ (by decide +kernel)) ggL_law_X7_save
theorem ggL_law_X7_set : GoodIn wsL_law wsX7_set := lq_cons (lq_310) (goodIn_app (goodIn_app (goodIn_app (goodIn_app (lq_311) (lq_312)) (lq_200)) (lq_199)) (lq_202))
set_option maxRecDepth 20000 in
theorem gL_law_X7_set : GoodIn wsL_law (wsV RL 33 RX7 yX7_set wsX7_set) := goodIn_app (goodIn_of _ (by decide +kernel)) ggL_law_X7_set

