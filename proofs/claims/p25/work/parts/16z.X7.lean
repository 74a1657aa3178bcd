set_option maxRecDepth 20000 in
theorem ggX7_init_X4_init : GoodIn wsX7_init wsX4_init := goodIn_r _ [15, 16, 2, 3, 17, 18, 19, 20, 21, 22, 23, 24, 25, 26, 27, 28, 29, 30, 31, 32, 33, 34, 35, 36, 37, 38, 39, 40, 41, 42, 43, 44, 45, 46, 47, 48, 49, 50, 51, 52, 53, 54, 55, 56, 57, 58, 59, 60, 61, 62, 63, 64, 65, 84, 85, 86, 87, 88, 72, 73, 89, 90, 91, 92, 93, 94, 95, 96, 97, 98, 99, 100, 101, 102, 103, 104, 105, 106, 107, 108, 109, 110, 111, 112, 113] (by decide +kernel) (by decide +kernel)
set_option maxRecDepth 20000 in
theorem gX7_init_X4_init_n9 : GoodIn wsX7_init (wsX4_init) := ggX7_init_X4_init
set_option maxRecDepth 20000 in
theorem ggX7_init_X1_init : GoodIn wsX7_init wsX1_init := goodIn_r _ [67, 68, 2, 3, 31, 69, 70, 71, 78, 79, 80, 81, 82, 83] (by decide +kernel) (by decide +kernel)
set_option maxRecDepth 20000 in
theorem gX7_init_X1_init_n25 : GoodIn wsX7_init (wsX1_init) := ggX7_init_X1_init
theorem dX7_init_0 : decode cX7_init 0 = .ok (.aload_n 0, 1) := by decide +kernel
theorem dX7_init_1 : decode cX7_init 1 = .ok (.invokespecial 1, 3) := by decide +kernel
theorem dX7_init_4 : decode cX7_init 4 = .ok (.aload_n 0, 1) := by decide +kernel
theorem dX7_init_5 : decode cX7_init 5 = .ok (.new 7, 3) := by decide +kernel
theorem dX7_init_8 : decode cX7_init 8 = .ok (.dup, 1) := by decide +kernel
theorem dX7_init_9 : decode cX7_init 9 = .ok (.invokespecial 9, 3) := by decide +kernel
theorem dX7_init_12 : decode cX7_init 12 = .ok (.putfield 10, 3) := by decide +kernel
theorem dX7_init_15 : decode cX7_init 15 = .ok (.aload_n 0, 1) := by decide +kernel
theorem dX7_init_16 : decode cX7_init 16 = .ok (.new 7, 3) := by decide +kernel
theorem dX7_init_19 : decode cX7_init 19 = .ok (.dup, 1) := by decide +kernel
theorem dX7_init_20 : decode cX7_init 20 = .ok (.invokespecial 9, 3) := by decide +kernel
theorem dX7_init_23 : decode cX7_init 23 = .ok (.putfield 16, 3) := by decide +kernel
theorem dX7_init_26 : decode cX7_init 26 = .ok (.aload_n 0, 1) := by decide +kernel
theorem dX7_init_27 : decode cX7_init 27 = .ok (.iconst 2, 1) := by decide +kernel
theorem dX7_init_28 : decode cX7_init 28 = .ok (.anewarray 7, 3) := by decide +kernel
theorem dX7_init_31 : decode cX7_init 31 = .ok (.putfield 19, 3) := by decide +kernel
theorem dX7_init_34 : decode cX7_init 34 = .ok (.aload_n 0, 1) := by decide +kernel
theorem dX7_init_35 : decode cX7_init 35 = .ok (.new 23, 3) := by decide +kernel
theorem dX7_init_38 : decode cX7_init 38 = .ok (.dup, 1) := by decide +kernel
theorem dX7_init_39 : decode cX7_init 39 = .ok (.invokespecial 25, 3) := by decide +kernel
theorem dX7_init_42 : decode cX7_init 42 = .ok (.putfield 26, 3) := by decide +kernel
theorem dX7_init_45 : decode cX7_init 45 = .ok (.return_, 1) := by decide +kernel
set_option maxRecDepth 20000 in
theorem ggX7_makeReel_X7_isWithin : GoodIn wsX7_makeReel wsX7_isWithin := goodIn_r _ [7] (by decide +kernel) (by decide +kernel)
set_option maxRecDepth 20000 in
theorem gX7_makeReel_X7_isWithin : GoodIn wsX7_makeReel (va_wsS RX7 30 yX7_isWithin wsX7_isWithin) := goodIn_app (goodIn_of _ (by decide +kernel)) ggX7_makeReel_X7_isWithin
set_option maxRecDepth 20000 in
theorem ggX7_makeReel_X6_addReel : GoodIn wsX7_makeReel wsX6_addReel := goodIn_r _ [12, 13, 14, 15, 16, 17, 11, 18, 19, 20, 21, 22, 23, 24, 25, 26, 33, 34, 35, 36, 37, 38, 39, 40, 41] (by decide +kernel) (by decide +kernel)
set_option maxRecDepth 20000 in
theorem gX7_makeReel_X6_addReel : GoodIn wsX7_makeReel (wsV RX7 39 RX6 yX6_addReel wsX6_addReel) := goodIn_app (goodIn_of _ (by decide +kernel)) ggX7_makeReel_X6_addReel
theorem dX7_makeReel_0 : decode cX7_makeReel 0 = .ok (.iload_n 1, 1) := by decide +kernel
theorem dX7_makeReel_1 : decode cX7_makeReel 1 = .ok (.bipush 100, 2) := by decide +kernel
theorem dX7_makeReel_3 : decode cX7_makeReel 3 = .ok (.sipush 3000, 3) := by decide +kernel
theorem dX7_makeReel_6 : decode cX7_makeReel 6 = .ok (.invokestatic 30, 3) := by decide +kernel
theorem dX7_makeReel_9 : decode cX7_makeReel 9 = .ok (.ifCond .ne 6, 3) := by decide +kernel
theorem dX7_makeReel_12 : decode cX7_makeReel 12 = .ok (.ldc 34, 2) := by decide +kernel
theorem dX7_makeReel_14 : decode cX7_makeReel 14 = .ok (.ireturn, 1) := by decide +kernel
theorem dX7_makeReel_15 : decode cX7_makeReel 15 = .ok (.aload_n 0, 1) := by decide +kernel
theorem dX7_makeReel_16 : decode cX7_makeReel 16 = .ok (.getfield 10, 3) := by decide +kernel
theorem dX7_makeReel_19 : decode cX7_makeReel 19 = .ok (.getfield 35, 3) := by decide +kernel
theorem dX7_makeReel_22 : decode cX7_makeReel 22 = .ok (.iload_n 1, 1) := by decide +kernel
theorem dX7_makeReel_23 : decode cX7_makeReel 23 = .ok (.invokevirtual 39, 3) := by decide +kernel
theorem dX7_makeReel_26 : decode cX7_makeReel 26 = .ok (.ireturn, 1) := by decide +kernel
set_option maxRecDepth 20000 in
theorem ggX7_splice_X6_reelNumbered : GoodIn wsX7_splice wsX6_reelNumbered := goodIn_r _ [10, 11, 12, 45, 46, 47, 48, 49] (by decide +kernel) (by decide +kernel)
set_option maxRecDepth 20000 in
theorem gX7_splice_X6_reelNumbered : GoodIn wsX7_splice (wsV RX7 45 RX6 yX6_reelNumbered wsX6_reelNumbered) := goodIn_app (goodIn_of _ (by decide +kernel)) ggX7_splice_X6_reelNumbered
set_option maxRecDepth 20000 in
theorem ggX7_splice_X7_isWithin : GoodIn wsX7_splice wsX7_isWithin := goodIn_r _ [16] (by decide +kernel) (by decide +kernel)
set_option maxRecDepth 20000 in
theorem gX7_splice_X7_isWithin : GoodIn wsX7_splice (va_wsS RX7 30 yX7_isWithin wsX7_isWithin) := goodIn_app (goodIn_of _ (by decide +kernel)) ggX7_splice_X7_isWithin
set_option maxRecDepth 20000 in
theorem ggX7_splice_X3_join : GoodIn wsX7_splice wsX3_join := goodIn_r _ [21, 22, 23, 24, 25, 26, 27, 28, 20, 29, 30, 31, 32, 33, 34, 41, 42, 43, 44] (by decide +kernel) (by decide +kernel)
set_option maxRecDepth 20000 in
theorem gX7_splice_X3_join : GoodIn wsX7_splice (wsV RX7 56 RX3 yX3_join wsX3_join) := goodIn_app (goodIn_of _ (by decide +kernel)) ggX7_splice_X3_join
theorem dX7_splice_0 : decode cX7_splice 0 = .ok (.aload_n 0, 1) := by decide +kernel
theorem dX7_splice_1 : decode cX7_splice 1 = .ok (.getfield 10, 3) := by decide +kernel
theorem dX7_splice_4 : decode cX7_splice 4 = .ok (.getfield 35, 3) := by decide +kernel
theorem dX7_splice_7 : decode cX7_splice 7 = .ok (.iload_n 1, 1) := by decide +kernel
theorem dX7_splice_8 : decode cX7_splice 8 = .ok (.invokevirtual 45, 3) := by decide +kernel
theorem dX7_splice_11 : decode cX7_splice 11 = .ok (.astore 4, 2) := by decide +kernel
theorem dX7_splice_13 : decode cX7_splice 13 = .ok (.aload 4, 2) := by decide +kernel
theorem dX7_splice_15 : decode cX7_splice 15 = .ok (.ifnonnull 6, 3) := by decide +kernel
theorem dX7_splice_18 : decode cX7_splice 18 = .ok (.ldc 49, 2) := by decide +kernel
theorem dX7_splice_20 : decode cX7_splice 20 = .ok (.ireturn, 1) := by decide +kernel
theorem dX7_splice_21 : decode cX7_splice 21 = .ok (.iload_n 2, 1) := by decide +kernel
theorem dX7_splice_22 : decode cX7_splice 22 = .ok (.iconst 1, 1) := by decide +kernel
theorem dX7_splice_23 : decode cX7_splice 23 = .ok (.aload 4, 2) := by decide +kernel
theorem dX7_splice_25 : decode cX7_splice 25 = .ok (.getfield 50, 3) := by decide +kernel
theorem dX7_splice_28 : decode cX7_splice 28 = .ok (.iconst 1, 1) := by decide +kernel
theorem dX7_splice_29 : decode cX7_splice 29 = .ok (.isub, 1) := by decide +kernel
theorem dX7_splice_30 : decode cX7_splice 30 = .ok (.invokestatic 30, 3) := by decide +kernel
theorem dX7_splice_33 : decode cX7_splice 33 = .ok (.ifCond .eq 13, 3) := by decide +kernel
theorem dX7_splice_36 : decode cX7_splice 36 = .ok (.iload_n 3, 1) := by decide +kernel
theorem dX7_splice_37 : decode cX7_splice 37 = .ok (.iconst 1, 1) := by decide +kernel
theorem dX7_splice_38 : decode cX7_splice 38 = .ok (.bipush 9, 2) := by decide +kernel
theorem dX7_splice_40 : decode cX7_splice 40 = .ok (.invokestatic 30, 3) := by decide +kernel
theorem dX7_splice_43 : decode cX7_splice 43 = .ok (.ifCond .ne 6, 3) := by decide +kernel
theorem dX7_splice_46 : decode cX7_splice 46 = .ok (.ldc 34, 2) := by decide +kernel
theorem dX7_splice_48 : decode cX7_splice 48 = .ok (.ireturn, 1) := by decide +kernel
theorem dX7_splice_49 : decode cX7_splice 49 = .ok (.aload 4, 2) := by decide +kernel
theorem dX7_splice_51 : decode cX7_splice 51 = .ok (.iload_n 2, 1) := by decide +kernel
theorem dX7_splice_52 : decode cX7_splice 52 = .ok (.iload_n 3, 1) := by decide +kernel
theorem dX7_splice_53 : decode cX7_splice 53 = .ok (.invokevirtual 56, 3) := by decide +kernel
theorem dX7_splice_56 : decode cX7_splice 56 = .ok (.ireturn, 1) := by decide +kernel
set_option maxRecDepth 20000 in
theorem ggX7_mend_X6_reelNumbered : GoodIn wsX7_mend wsX6_reelNumbered := goodIn_r _ [9, 10, 11, 30, 31, 32, 33, 34] (by decide +kernel) (by decide +kernel)
set_option maxRecDepth 20000 in
theorem gX7_mend_X6_reelNumbered : GoodIn wsX7_mend (wsV RX7 45 RX6 yX6_reelNumbered wsX6_reelNumbered) := goodIn_app (goodIn_of _ (by decide +kernel)) ggX7_mend_X6_reelNumbered
set_option maxRecDepth 20000 in
theorem ggX7_mend_X7_isWithin : GoodIn wsX7_mend wsX7_isWithin := goodIn_r _ [15] (by decide +kernel) (by decide +kernel)
set_option maxRecDepth 20000 in
theorem gX7_mend_X7_isWithin : GoodIn wsX7_mend (va_wsS RX7 30 yX7_isWithin wsX7_isWithin) := goodIn_app (goodIn_of _ (by decide +kernel)) ggX7_mend_X7_isWithin
set_option maxRecDepth 20000 in
theorem ggX7_mend_X3_removeWeaker : GoodIn wsX7_mend wsX3_removeWeaker := goodIn_r _ [20, 21, 22, 23, 35, 36, 37, 38] (by decide +kernel) (by decide +kernel)
set_option maxRecDepth 20000 in
theorem gX7_mend_X3_removeWeaker : GoodIn wsX7_mend (wsV RX7 60 RX3 yX3_removeWeaker wsX3_removeWeaker) := goodIn_app (goodIn_of _ (by decide +kernel)) ggX7_mend_X3_removeWeaker
theorem dX7_mend_0 : decode cX7_mend 0 = .ok (.aload_n 0, 1) := by decide +kernel
theorem dX7_mend_1 : decode cX7_mend 1 = .ok (.getfield 10, 3) := by decide +kernel
theorem dX7_mend_4 : decode cX7_mend 4 = .ok (.getfield 35, 3) := by decide +kernel
theorem dX7_mend_7 : decode cX7_mend 7 = .ok (.iload_n 1, 1) := by decide +kernel
theorem dX7_mend_8 : decode cX7_mend 8 = .ok (.invokevirtual 45, 3) := by decide +kernel
theorem dX7_mend_11 : decode cX7_mend 11 = .ok (.astore_n 3, 1) := by decide +kernel
theorem dX7_mend_12 : decode cX7_mend 12 = .ok (.aload_n 3, 1) := by decide +kernel
theorem dX7_mend_13 : decode cX7_mend 13 = .ok (.ifnonnull 6, 3) := by decide +kernel
theorem dX7_mend_16 : decode cX7_mend 16 = .ok (.ldc 49, 2) := by decide +kernel
theorem dX7_mend_18 : decode cX7_mend 18 = .ok (.ireturn, 1) := by decide +kernel
theorem dX7_mend_19 : decode cX7_mend 19 = .ok (.iload_n 2, 1) := by decide +kernel
theorem dX7_mend_20 : decode cX7_mend 20 = .ok (.iconst 1, 1) := by decide +kernel
theorem dX7_mend_21 : decode cX7_mend 21 = .ok (.bipush 10, 2) := by decide +kernel
theorem dX7_mend_23 : decode cX7_mend 23 = .ok (.invokestatic 30, 3) := by decide +kernel
theorem dX7_mend_26 : decode cX7_mend 26 = .ok (.ifCond .ne 6, 3) := by decide +kernel
theorem dX7_mend_29 : decode cX7_mend 29 = .ok (.ldc 34, 2) := by decide +kernel
theorem dX7_mend_31 : decode cX7_mend 31 = .ok (.ireturn, 1) := by decide +kernel
theorem dX7_mend_32 : decode cX7_mend 32 = .ok (.aload_n 3, 1) := by decide +kernel
theorem dX7_mend_33 : decode cX7_mend 33 = .ok (.iload_n 2, 1) := by decide +kernel
theorem dX7_mend_34 : decode cX7_mend 34 = .ok (.invokevirtual 60, 3) := by decide +kernel
theorem dX7_mend_37 : decode cX7_mend 37 = .ok (.ireturn, 1) := by decide +kernel
set_option maxRecDepth 20000 in
theorem ggX7_reel_X6_reelNumbered : GoodIn wsX7_reel wsX6_reelNumbered := goodIn_r _ [11, 12, 13, 32, 33, 34, 35, 36] (by decide +kernel) (by decide +kernel)
set_option maxRecDepth 20000 in
theorem gX7_reel_X6_reelNumbered : GoodIn wsX7_reel (wsV RX7 45 RX6 yX6_reelNumbered wsX6_reelNumbered) := goodIn_app (goodIn_of _ (by decide +kernel)) ggX7_reel_X6_reelNumbered
set_option maxRecDepth 20000 in
theorem ggX7_reel_X3_leastStrength : GoodIn wsX7_reel wsX3_leastStrength := goodIn_r _ [18, 19, 20, 21, 28, 29, 30, 31] (by decide +kernel) (by decide +kernel)
set_option maxRecDepth 20000 in
theorem gX7_reel_X3_leastStrength : GoodIn wsX7_reel (wsV RX7 66 RX3 yX3_leastStrength wsX3_leastStrength) := goodIn_app (goodIn_of _ (by decide +kernel)) ggX7_reel_X3_leastStrength
theorem dX7_reel_0 : decode cX7_reel 0 = .ok (.aload_n 0, 1) := by decide +kernel
theorem dX7_reel_1 : decode cX7_reel 1 = .ok (.getfield 10, 3) := by decide +kernel
theorem dX7_reel_4 : decode cX7_reel 4 = .ok (.getfield 35, 3) := by decide +kernel
theorem dX7_reel_7 : decode cX7_reel 7 = .ok (.iload_n 1, 1) := by decide +kernel
theorem dX7_reel_8 : decode cX7_reel 8 = .ok (.invokevirtual 45, 3) := by decide +kernel
theorem dX7_reel_11 : decode cX7_reel 11 = .ok (.astore_n 3, 1) := by decide +kernel
theorem dX7_reel_12 : decode cX7_reel 12 = .ok (.aload_n 3, 1) := by decide +kernel
theorem dX7_reel_13 : decode cX7_reel 13 = .ok (.ifnonnull 6, 3) := by decide +kernel
theorem dX7_reel_16 : decode cX7_reel 16 = .ok (.ldc 49, 2) := by decide +kernel
theorem dX7_reel_18 : decode cX7_reel 18 = .ok (.ireturn, 1) := by decide +kernel
theorem dX7_reel_19 : decode cX7_reel 19 = .ok (.iload_n 2, 1) := by decide +kernel
theorem dX7_reel_20 : decode cX7_reel 20 = .ok (.tableswitch 43 0 2 #[28, 33, 38], 28) := by decide +kernel
theorem dX7_reel_48 : decode cX7_reel 48 = .ok (.aload_n 3, 1) := by decide +kernel
theorem dX7_reel_49 : decode cX7_reel 49 = .ok (.getfield 50, 3) := by decide +kernel
theorem dX7_reel_52 : decode cX7_reel 52 = .ok (.ireturn, 1) := by decide +kernel
theorem dX7_reel_53 : decode cX7_reel 53 = .ok (.aload_n 3, 1) := by decide +kernel
theorem dX7_reel_54 : decode cX7_reel 54 = .ok (.getfield 63, 3) := by decide +kernel
theorem dX7_reel_57 : decode cX7_reel 57 = .ok (.ireturn, 1) := by decide +kernel
theorem dX7_reel_58 : decode cX7_reel 58 = .ok (.aload_n 3, 1) := by decide +kernel
theorem dX7_reel_59 : decode cX7_reel 59 = .ok (.invokevirtual 66, 3) := by decide +kernel
theorem dX7_reel_62 : decode cX7_reel 62 = .ok (.ireturn, 1) := by decide +kernel
theorem dX7_reel_63 : decode cX7_reel 63 = .ok (.ldc 34, 2) := by decide +kernel
theorem dX7_reel_65 : decode cX7_reel 65 = .ok (.ireturn, 1) := by decide +kernel
set_option maxRecDepth 20000 in
theorem ggX7_spliceAt_X6_reelNumbered : GoodIn wsX7_spliceAt wsX6_reelNumbered := goodIn_r _ [10, 11, 12, 29, 30, 31, 32, 33] (by decide +kernel) (by decide +kernel)
set_option maxRecDepth 20000 in
theorem gX7_spliceAt_X6_reelNumbered : GoodIn wsX7_spliceAt (wsV RX7 45 RX6 yX6_reelNumbered wsX6_reelNumbered) := goodIn_app (goodIn_of _ (by decide +kernel)) ggX7_spliceAt_X6_reelNumbered
set_option maxRecDepth 20000 in
theorem ggX7_spliceAt_X3_hasSplice : GoodIn wsX7_spliceAt wsX3_hasSplice := goodIn_r _ [17, 18, 25, 26, 27, 28] (by decide +kernel) (by decide +kernel)
set_option maxRecDepth 20000 in
theorem gX7_spliceAt_X3_hasSplice : GoodIn wsX7_spliceAt (wsV RX7 70 RX3 yX3_hasSplice wsX3_hasSplice) := goodIn_app (goodIn_of _ (by decide +kernel)) ggX7_spliceAt_X3_hasSplice
theorem dX7_spliceAt_0 : decode cX7_spliceAt 0 = .ok (.aload_n 0, 1) := by decide +kernel
theorem dX7_spliceAt_1 : decode cX7_spliceAt 1 = .ok (.getfield 10, 3) := by decide +kernel
theorem dX7_spliceAt_4 : decode cX7_spliceAt 4 = .ok (.getfield 35, 3) := by decide +kernel
theorem dX7_spliceAt_7 : decode cX7_spliceAt 7 = .ok (.iload_n 1, 1) := by decide +kernel
theorem dX7_spliceAt_8 : decode cX7_spliceAt 8 = .ok (.invokevirtual 45, 3) := by decide +kernel
theorem dX7_spliceAt_11 : decode cX7_spliceAt 11 = .ok (.astore 4, 2) := by decide +kernel
theorem dX7_spliceAt_13 : decode cX7_spliceAt 13 = .ok (.aload 4, 2) := by decide +kernel
theorem dX7_spliceAt_15 : decode cX7_spliceAt 15 = .ok (.ifnull 12, 3) := by decide +kernel
theorem dX7_spliceAt_18 : decode cX7_spliceAt 18 = .ok (.aload 4, 2) := by decide +kernel
theorem dX7_spliceAt_20 : decode cX7_spliceAt 20 = .ok (.iload_n 2, 1) := by decide +kernel
theorem dX7_spliceAt_21 : decode cX7_spliceAt 21 = .ok (.invokevirtual 70, 3) := by decide +kernel
theorem dX7_spliceAt_24 : decode cX7_spliceAt 24 = .ok (.ifCond .ne 6, 3) := by decide +kernel
theorem dX7_spliceAt_27 : decode cX7_spliceAt 27 = .ok (.ldc 49, 2) := by decide +kernel
theorem dX7_spliceAt_29 : decode cX7_spliceAt 29 = .ok (.ireturn, 1) := by decide +kernel
theorem dX7_spliceAt_30 : decode cX7_spliceAt 30 = .ok (.iload_n 3, 1) := by decide +kernel
theorem dX7_spliceAt_31 : decode cX7_spliceAt 31 = .ok (.ifCond .eq 13, 3) := by decide +kernel
theorem dX7_spliceAt_34 : decode cX7_spliceAt 34 = .ok (.aload 4, 2) := by decide +kernel
theorem dX7_spliceAt_36 : decode cX7_spliceAt 36 = .ok (.getfield 74, 3) := by decide +kernel
theorem dX7_spliceAt_39 : decode cX7_spliceAt 39 = .ok (.iload_n 2, 1) := by decide +kernel
theorem dX7_spliceAt_40 : decode cX7_spliceAt 40 = .ok (.iaload, 1) := by decide +kernel
theorem dX7_spliceAt_41 : decode cX7_spliceAt 41 = .ok (.goto 10, 3) := by decide +kernel
theorem dX7_spliceAt_44 : decode cX7_spliceAt 44 = .ok (.aload 4, 2) := by decide +kernel
theorem dX7_spliceAt_46 : decode cX7_spliceAt 46 = .ok (.getfield 78, 3) := by decide +kernel
theorem dX7_spliceAt_49 : decode cX7_spliceAt 49 = .ok (.iload_n 2, 1) := by decide +kernel
theorem dX7_spliceAt_50 : decode cX7_spliceAt 50 = .ok (.iaload, 1) := by decide +kernel
theorem dX7_spliceAt_51 : decode cX7_spliceAt 51 = .ok (.ireturn, 1) := by decide +kernel
set_option maxRecDepth 20000 in
theorem ggX7_set_X7_settingError : GoodIn wsX7_set wsX7_settingError := goodIn_r _ [6, 7, 8, 9, 10, 5, 11, 12, 13, 14, 15, 16, 17] (by decide +kernel) (by decide +kernel)
set_option maxRecDepth 20000 in
theorem gX7_set_X7_settingError : GoodIn wsX7_set (va_wsS RX7 81 yX7_settingError wsX7_settingError) := goodIn_app (goodIn_of _ (by decide +kernel)) ggX7_set_X7_settingError
set_option maxRecDepth 20000 in
theorem ggX7_set_X6_changeSetting : GoodIn wsX7_set wsX6_changeSetting := goodIn_r _ [21, 22, 23, 24, 25, 14, 26, 27, 28, 13, 15, 16, 17, 35, 36, 37, 38, 39] (by decide +kernel) (by decide +kernel)
set_option maxRecDepth 20000 in
theorem gX7_set_X6_changeSetting : GoodIn wsX7_set (wsV RX7 84 RX6 yX6_changeSetting wsX6_changeSetting) := goodIn_app (goodIn_of _ (by decide +kernel)) ggX7_set_X6_changeSetting
theorem dX7_set_0 : decode cX7_set 0 = .ok (.iload_n 1, 1) := by decide +kernel
theorem dX7_set_1 : decode cX7_set 1 = .ok (.iload_n 2, 1) := by decide +kernel
theorem dX7_set_2 : decode cX7_set 2 = .ok (.invokestatic 81, 3) := by decide +kernel
theorem dX7_set_5 : decode cX7_set 5 = .ok (.istore_n 3, 1) := by decide +kernel
theorem dX7_set_6 : decode cX7_set 6 = .ok (.iload_n 3, 1) := by decide +kernel
theorem dX7_set_7 : decode cX7_set 7 = .ok (.ifCond .eq 7, 3) := by decide +kernel
theorem dX7_set_10 : decode cX7_set 10 = .ok (.iload_n 3, 1) := by decide +kernel
theorem dX7_set_11 : decode cX7_set 11 = .ok (.goto 15, 3) := by decide +kernel
theorem dX7_set_14 : decode cX7_set 14 = .ok (.aload_n 0, 1) := by decide +kernel
theorem dX7_set_15 : decode cX7_set 15 = .ok (.getfield 10, 3) := by decide +kernel
theorem dX7_set_18 : decode cX7_set 18 = .ok (.getfield 35, 3) := by decide +kernel
theorem dX7_set_21 : decode cX7_set 21 = .ok (.iload_n 1, 1) := by decide +kernel
theorem dX7_set_22 : decode cX7_set 22 = .ok (.iload_n 2, 1) := by decide +kernel
theorem dX7_set_23 : decode cX7_set 23 = .ok (.invokevirtual 84, 3) := by decide +kernel
theorem dX7_set_26 : decode cX7_set 26 = .ok (.ireturn, 1) := by decide +kernel
set_option maxRecDepth 20000 in
theorem ggX7_append_X7_isWithin : GoodIn wsX7_append wsX7_isWithin := goodIn_r _ [6] (by decide +kernel) (by decide +kernel)
set_option maxRecDepth 20000 in
theorem gX7_append_X7_isWithin : GoodIn wsX7_append (va_wsS RX7 30 yX7_isWithin wsX7_isWithin) := goodIn_app (goodIn_of _ (by decide +kernel)) ggX7_append_X7_isWithin
set_option maxRecDepth 20000 in
theorem ggX7_append_X1_add : GoodIn wsX7_append wsX1_add := goodIn_r _ [11, 12, 13, 14, 19, 20, 21, 22, 23, 24] (by decide +kernel) (by decide +kernel)
set_option maxRecDepth 20000 in
theorem gX7_append_X1_add : GoodIn wsX7_append (wsV RX7 87 RX1 yX1_add wsX1_add) := goodIn_app (goodIn_of _ (by decide +kernel)) ggX7_append_X1_add
theorem dX7_append_0 : decode cX7_append 0 = .ok (.iload_n 1, 1) := by decide +kernel
theorem dX7_append_1 : decode cX7_append 1 = .ok (.iconst 0, 1) := by decide +kernel
theorem dX7_append_2 : decode cX7_append 2 = .ok (.bipush 127, 2) := by decide +kernel
theorem dX7_append_4 : decode cX7_append 4 = .ok (.invokestatic 30, 3) := by decide +kernel
theorem dX7_append_7 : decode cX7_append 7 = .ok (.ifCond .ne 6, 3) := by decide +kernel
theorem dX7_append_10 : decode cX7_append 10 = .ok (.ldc 34, 2) := by decide +kernel
theorem dX7_append_12 : decode cX7_append 12 = .ok (.ireturn, 1) := by decide +kernel
theorem dX7_append_13 : decode cX7_append 13 = .ok (.aload_n 0, 1) := by decide +kernel
theorem dX7_append_14 : decode cX7_append 14 = .ok (.getfield 26, 3) := by decide +kernel
theorem dX7_append_17 : decode cX7_append 17 = .ok (.iload_n 1, 1) := by decide +kernel
theorem dX7_append_18 : decode cX7_append 18 = .ok (.invokevirtual 87, 3) := by decide +kernel
theorem dX7_append_21 : decode cX7_append 21 = .ok (.ireturn, 1) := by decide +kernel
set_option maxRecDepth 20000 in
theorem ggX7_faultPosition_X1_findFault : GoodIn wsX7_faultPosition wsX1_findFault := goodIn_r _ [9, 10, 11, 12, 13, 14, 15, 16, 17, 8, 18, 19, 20, 21, 33, 34, 35, 36, 37, 38] (by decide +kernel) (by decide +kernel)
set_option maxRecDepth 20000 in
theorem gX7_faultPosition_X1_findFault : GoodIn wsX7_faultPosition (wsV RX7 96 RX1 yX1_findFault wsX1_findFault) := goodIn_app (goodIn_of _ (by decide +kernel)) ggX7_faultPosition_X1_findFault
theorem dX7_faultPosition_0 : decode cX7_faultPosition 0 = .ok (.aload_n 0, 1) := by decide +kernel
theorem dX7_faultPosition_1 : decode cX7_faultPosition 1 = .ok (.getfield 26, 3) := by decide +kernel
theorem dX7_faultPosition_4 : decode cX7_faultPosition 4 = .ok (.aload_n 0, 1) := by decide +kernel
theorem dX7_faultPosition_5 : decode cX7_faultPosition 5 = .ok (.getfield 10, 3) := by decide +kernel
theorem dX7_faultPosition_8 : decode cX7_faultPosition 8 = .ok (.getfield 35, 3) := by decide +kernel
theorem dX7_faultPosition_11 : decode cX7_faultPosition 11 = .ok (.getfield 93, 3) := by decide +kernel
theorem dX7_faultPosition_14 : decode cX7_faultPosition 14 = .ok (.invokevirtual 96, 3) := by decide +kernel
theorem dX7_faultPosition_17 : decode cX7_faultPosition 17 = .ok (.ireturn, 1) := by decide +kernel
set_option maxRecDepth 20000 in
theorem ggX7_setProgram_X7_faultPosition : GoodIn wsX7_setProgram wsX7_faultPosition := goodIn_r _ [14, 6, 2, 8, 15, 16, 17, 18, 19, 20, 21, 22, 23, 24, 25, 26, 27, 28, 29, 30, 31, 32, 62, 63, 64, 65, 66, 67, 86, 87, 88, 89, 90, 80, 81, 82, 83, 84, 85] (by decide +kernel) (by decide +kernel)
set_option maxRecDepth 20000 in
theorem gX7_setProgram_X7_faultPosition : GoodIn wsX7_setProgram (wsV RX7 103 RX7 yX7_faultPosition wsX7_faultPosition) := goodIn_app (goodIn_of _ (by decide +kernel)) ggX7_setProgram_X7_faultPosition
set_option maxRecDepth 20000 in
theorem ggX7_setProgram_X1_expand : GoodIn wsX7_setProgram wsX1_expand := goodIn_r _ [36, 23, 37, 24, 38, 39, 40, 41, 19, 42, 43, 44, 45, 46, 47, 48, 49, 50, 51, 80, 81, 82, 83, 84, 85] (by decide +kernel) (by decide +kernel)
set_option maxRecDepth 20000 in
theorem gX7_setProgram_X1_expand : GoodIn wsX7_setProgram (wsV RX7 117 RX1 yX1_expand wsX1_expand) := goodIn_app (goodIn_of _ (by decide +kernel)) ggX7_setProgram_X1_expand
set_option maxRecDepth 20000 in
theorem ggX7_setProgram_X6_takeProgram : GoodIn wsX7_setProgram wsX6_takeProgram := goodIn_r _ [56, 57, 58, 45, 59, 60, 61, 86, 87, 88, 89, 90] (by decide +kernel) (by decide +kernel)
set_option maxRecDepth 20000 in
theorem gX7_setProgram_X6_takeProgram : GoodIn wsX7_setProgram (wsV RX7 124 RX6 yX6_takeProgram wsX6_takeProgram) := goodIn_app (goodIn_of _ (by decide +kernel)) ggX7_setProgram_X6_takeProgram
theorem dX7_setProgram_0 : decode cX7_setProgram 0 = .ok (.aload_n 0, 1) := by decide +kernel
theorem dX7_setProgram_1 : decode cX7_setProgram 1 = .ok (.invokevirtual 103, 3) := by decide +kernel
theorem dX7_setProgram_4 : decode cX7_setProgram 4 = .ok (.ldc 99, 2) := by decide +kernel
theorem dX7_setProgram_6 : decode cX7_setProgram 6 = .ok (.if_icmp .ne 16, 3) := by decide +kernel
theorem dX7_setProgram_9 : decode cX7_setProgram 9 = .ok (.aload_n 0, 1) := by decide +kernel
theorem dX7_setProgram_10 : decode cX7_setProgram 10 = .ok (.getfield 10, 3) := by decide +kernel
theorem dX7_setProgram_13 : decode cX7_setProgram 13 = .ok (.getfield 106, 3) := by decide +kernel
theorem dX7_setProgram_16 : decode cX7_setProgram 16 = .ok (.getfield 110, 3) := by decide +kernel
theorem dX7_setProgram_19 : decode cX7_setProgram 19 = .ok (.ifCond .eq 6, 3) := by decide +kernel
theorem dX7_setProgram_22 : decode cX7_setProgram 22 = .ok (.ldc 116, 2) := by decide +kernel
theorem dX7_setProgram_24 : decode cX7_setProgram 24 = .ok (.ireturn, 1) := by decide +kernel
theorem dX7_setProgram_25 : decode cX7_setProgram 25 = .ok (.aload_n 0, 1) := by decide +kernel
theorem dX7_setProgram_26 : decode cX7_setProgram 26 = .ok (.getfield 26, 3) := by decide +kernel
theorem dX7_setProgram_29 : decode cX7_setProgram 29 = .ok (.invokevirtual 117, 3) := by decide +kernel
theorem dX7_setProgram_32 : decode cX7_setProgram 32 = .ok (.istore_n 1, 1) := by decide +kernel
theorem dX7_setProgram_33 : decode cX7_setProgram 33 = .ok (.iload_n 1, 1) := by decide +kernel
theorem dX7_setProgram_34 : decode cX7_setProgram 34 = .ok (.ldc 120, 2) := by decide +kernel
theorem dX7_setProgram_36 : decode cX7_setProgram 36 = .ok (.if_icmp .eq 21, 3) := by decide +kernel
theorem dX7_setProgram_39 : decode cX7_setProgram 39 = .ok (.aload_n 0, 1) := by decide +kernel
theorem dX7_setProgram_40 : decode cX7_setProgram 40 = .ok (.getfield 10, 3) := by decide +kernel
theorem dX7_setProgram_43 : decode cX7_setProgram 43 = .ok (.getfield 35, 3) := by decide +kernel
theorem dX7_setProgram_46 : decode cX7_setProgram 46 = .ok (.aload_n 0, 1) := by decide +kernel
theorem dX7_setProgram_47 : decode cX7_setProgram 47 = .ok (.getfield 26, 3) := by decide +kernel
theorem dX7_setProgram_50 : decode cX7_setProgram 50 = .ok (.getfield 121, 3) := by decide +kernel
theorem dX7_setProgram_53 : decode cX7_setProgram 53 = .ok (.iload_n 1, 1) := by decide +kernel
theorem dX7_setProgram_54 : decode cX7_setProgram 54 = .ok (.invokevirtual 124, 3) := by decide +kernel
theorem dX7_setProgram_57 : decode cX7_setProgram 57 = .ok (.iload_n 1, 1) := by decide +kernel
theorem dX7_setProgram_58 : decode cX7_setProgram 58 = .ok (.ireturn, 1) := by decide +kernel
set_option maxRecDepth 20000 in
theorem ggX7_program_X6_numberAtPlace : GoodIn wsX7_program wsX6_numberAtPlace := goodIn_r _ [7, 8, 9, 10, 17, 18, 19, 20, 21] (by decide +kernel) (by decide +kernel)
set_option maxRecDepth 20000 in
theorem gX7_program_X6_numberAtPlace : GoodIn wsX7_program (wsV RX7 128 RX6 yX6_numberAtPlace wsX6_numberAtPlace) := goodIn_app (goodIn_of _ (by decide +kernel)) ggX7_program_X6_numberAtPlace
theorem dX7_program_0 : decode cX7_program 0 = .ok (.aload_n 0, 1) := by decide +kernel
theorem dX7_program_1 : decode cX7_program 1 = .ok (.getfield 10, 3) := by decide +kernel
theorem dX7_program_4 : decode cX7_program 4 = .ok (.getfield 35, 3) := by decide +kernel
theorem dX7_program_7 : decode cX7_program 7 = .ok (.iload_n 1, 1) := by decide +kernel
theorem dX7_program_8 : decode cX7_program 8 = .ok (.invokevirtual 128, 3) := by decide +kernel
theorem dX7_program_11 : decode cX7_program 11 = .ok (.ireturn, 1) := by decide +kernel
set_option maxRecDepth 20000 in
theorem ggX7_begin_X5_open : GoodIn wsX7_begin wsX5_open := goodIn_r _ [10, 11, 12, 13, 14, 15, 16, 17, 18, 19, 20, 21, 22, 23, 24, 25, 26, 27, 28, 29, 30, 31, 32, 33, 34, 35, 36, 37, 38, 39, 51, 52, 53, 54, 55, 56, 57, 58, 59, 60, 61, 62, 63, 64, 65, 46, 47, 48, 49, 50, 66, 67, 68, 69, 70, 71] (by decide +kernel) (by decide +kernel)
set_option maxRecDepth 20000 in
theorem gX7_begin_X5_open : GoodIn wsX7_begin (wsV RX7 134 RX5 yX5_open wsX5_open) := goodIn_app (goodIn_of _ (by decide +kernel)) ggX7_begin_X5_open
theorem dX7_begin_0 : decode cX7_begin 0 = .ok (.aload_n 0, 1) := by decide +kernel
theorem dX7_begin_1 : decode cX7_begin 1 = .ok (.getfield 10, 3) := by decide +kernel
theorem dX7_begin_4 : decode cX7_begin 4 = .ok (.getfield 35, 3) := by decide +kernel
theorem dX7_begin_7 : decode cX7_begin 7 = .ok (.getfield 131, 3) := by decide +kernel
theorem dX7_begin_10 : decode cX7_begin 10 = .ok (.ifCond .ne 6, 3) := by decide +kernel
theorem dX7_begin_13 : decode cX7_begin 13 = .ok (.ldc 116, 2) := by decide +kernel
theorem dX7_begin_15 : decode cX7_begin 15 = .ok (.ireturn, 1) := by decide +kernel
theorem dX7_begin_16 : decode cX7_begin 16 = .ok (.aload_n 0, 1) := by decide +kernel
theorem dX7_begin_17 : decode cX7_begin 17 = .ok (.getfield 10, 3) := by decide +kernel
theorem dX7_begin_20 : decode cX7_begin 20 = .ok (.getfield 106, 3) := by decide +kernel
theorem dX7_begin_23 : decode cX7_begin 23 = .ok (.aload_n 0, 1) := by decide +kernel
theorem dX7_begin_24 : decode cX7_begin 24 = .ok (.getfield 10, 3) := by decide +kernel
theorem dX7_begin_27 : decode cX7_begin 27 = .ok (.getfield 35, 3) := by decide +kernel
theorem dX7_begin_30 : decode cX7_begin 30 = .ok (.invokevirtual 134, 3) := by decide +kernel
theorem dX7_begin_33 : decode cX7_begin 33 = .ok (.aload_n 0, 1) := by decide +kernel
theorem dX7_begin_34 : decode cX7_begin 34 = .ok (.getfield 10, 3) := by decide +kernel
theorem dX7_begin_37 : decode cX7_begin 37 = .ok (.getfield 35, 3) := by decide +kernel
theorem dX7_begin_40 : decode cX7_begin 40 = .ok (.getfield 131, 3) := by decide +kernel
theorem dX7_begin_43 : decode cX7_begin 43 = .ok (.ireturn, 1) := by decide +kernel
set_option maxRecDepth 20000 in
theorem ggX7_pass_X7_isWithin : GoodIn wsX7_pass wsX7_isWithin := goodIn_r _ [10] (by decide +kernel) (by decide +kernel)
set_option maxRecDepth 20000 in
theorem gX7_pass_X7_isWithin : GoodIn wsX7_pass (va_wsS RX7 30 yX7_isWithin wsX7_isWithin) := goodIn_app (goodIn_of _ (by decide +kernel)) ggX7_pass_X7_isWithin
set_option maxRecDepth 20000 in
theorem ggX7_pass_X5_run : GoodIn wsX7_pass wsX5_run := goodIn_r _ [15, 16, 17, 18, 19, 20, 21, 22, 14, 23, 24, 25, 26, 27, 28, 29, 30, 31, 32, 33, 34, 35, 36, 37, 38, 39, 40, 41, 42, 43, 44, 45, 46, 47, 48, 49, 50, 51, 52, 53, 54, 55, 56, 57, 58, 59, 60, 61, 62, 63, 64, 65, 66, 67, 68, 69, 70, 71, 72, 73, 74, 75, 76, 77, 78, 79, 80, 81, 82, 83, 84, 85, 86, 87, 88, 89, 90, 91, 92, 93, 94, 95, 96, 97, 98, 99, 100, 101, 102, 103, 104, 105, 106, 107, 108, 109, 110, 111, 112, 113, 114, 115, 116, 117, 118, 119, 120, 121, 122, 123, 124, 125, 126, 127, 128, 129, 130, 131, 132, 133, 134, 135, 136, 137, 138, 139, 140, 141, 142, 143, 144, 145, 146, 147, 148, 149, 150, 151, 152, 153, 154, 155, 156, 157, 158, 159, 160, 161, 162, 163, 164, 165, 166, 167, 168, 169, 170, 171, 172, 173, 174, 175, 176, 177, 178, 179, 180, 181, 182, 183, 184, 185, 186, 187, 188, 189, 190, 191, 192, 193, 194, 195, 196, 197, 198, 199, 200, 201, 202, 203, 204, 205, 206, 207, 208, 209, 210, 211, 212, 213, 220, 221, 222, 223, 224, 225, 226, 227, 228, 229, 230, 231, 232, 233, 234, 235, 236, 237, 238, 239, 240, 241, 242, 243, 244, 245, 246, 247, 248, 249] (by decide +kernel) (by decide +kernel)
set_option maxRecDepth 20000 in
theorem gX7_pass_X5_run : GoodIn wsX7_pass (wsV RX7 138 RX5 yX5_run wsX5_run) := goodIn_app (goodIn_of _ (by decide +kernel)) ggX7_pass_X5_run
theorem dX7_pass_0 : decode cX7_pass 0 = .ok (.iload_n 1, 1) := by decide +kernel
theorem dX7_pass_1 : decode cX7_pass 1 = .ok (.iconst 1, 1) := by decide +kernel
theorem dX7_pass_2 : decode cX7_pass 2 = .ok (.sipush 2000, 3) := by decide +kernel
theorem dX7_pass_5 : decode cX7_pass 5 = .ok (.invokestatic 30, 3) := by decide +kernel
theorem dX7_pass_8 : decode cX7_pass 8 = .ok (.ifCond .ne 6, 3) := by decide +kernel
theorem dX7_pass_11 : decode cX7_pass 11 = .ok (.ldc 34, 2) := by decide +kernel
theorem dX7_pass_13 : decode cX7_pass 13 = .ok (.ireturn, 1) := by decide +kernel
theorem dX7_pass_14 : decode cX7_pass 14 = .ok (.aload_n 0, 1) := by decide +kernel
theorem dX7_pass_15 : decode cX7_pass 15 = .ok (.getfield 10, 3) := by decide +kernel
theorem dX7_pass_18 : decode cX7_pass 18 = .ok (.getfield 106, 3) := by decide +kernel
theorem dX7_pass_21 : decode cX7_pass 21 = .ok (.getfield 110, 3) := by decide +kernel
theorem dX7_pass_24 : decode cX7_pass 24 = .ok (.ifCond .ne 6, 3) := by decide +kernel
theorem dX7_pass_27 : decode cX7_pass 27 = .ok (.ldc 116, 2) := by decide +kernel
theorem dX7_pass_29 : decode cX7_pass 29 = .ok (.ireturn, 1) := by decide +kernel
theorem dX7_pass_30 : decode cX7_pass 30 = .ok (.aload_n 0, 1) := by decide +kernel
theorem dX7_pass_31 : decode cX7_pass 31 = .ok (.getfield 10, 3) := by decide +kernel
theorem dX7_pass_34 : decode cX7_pass 34 = .ok (.getfield 106, 3) := by decide +kernel
theorem dX7_pass_37 : decode cX7_pass 37 = .ok (.aload_n 0, 1) := by decide +kernel
theorem dX7_pass_38 : decode cX7_pass 38 = .ok (.getfield 10, 3) := by decide +kernel
theorem dX7_pass_41 : decode cX7_pass 41 = .ok (.getfield 35, 3) := by decide +kernel
theorem dX7_pass_44 : decode cX7_pass 44 = .ok (.iload_n 1, 1) := by decide +kernel
theorem dX7_pass_45 : decode cX7_pass 45 = .ok (.invokevirtual 138, 3) := by decide +kernel
theorem dX7_pass_48 : decode cX7_pass 48 = .ok (.ireturn, 1) := by decide +kernel
set_option maxRecDepth 20000 in
theorem ggX7_tell_X5_count : GoodIn wsX7_tell wsX5_count := goodIn_r _ [7, 8, 9, 10, 11, 12, 13, 14, 15, 16, 17, 18, 19, 26, 27, 28, 29, 30, 31, 32, 33, 34, 35, 36, 37, 38, 39, 40, 41, 42, 43] (by decide +kernel) (by decide +kernel)
set_option maxRecDepth 20000 in
theorem gX7_tell_X5_count : GoodIn wsX7_tell (wsV RX7 142 RX5 yX5_count wsX5_count) := goodIn_app (goodIn_of _ (by decide +kernel)) ggX7_tell_X5_count
theorem dX7_tell_0 : decode cX7_tell 0 = .ok (.aload_n 0, 1) := by decide +kernel
theorem dX7_tell_1 : decode cX7_tell 1 = .ok (.getfield 10, 3) := by decide +kernel
theorem dX7_tell_4 : decode cX7_tell 4 = .ok (.getfield 106, 3) := by decide +kernel
theorem dX7_tell_7 : decode cX7_tell 7 = .ok (.iload_n 1, 1) := by decide +kernel
theorem dX7_tell_8 : decode cX7_tell 8 = .ok (.invokevirtual 142, 3) := by decide +kernel
theorem dX7_tell_11 : decode cX7_tell 11 = .ok (.ireturn, 1) := by decide +kernel
set_option maxRecDepth 20000 in
theorem ggX7_projector_X7_isWithin : GoodIn wsX7_projector wsX7_isWithin := goodIn_r _ [12] (by decide +kernel) (by decide +kernel)
set_option maxRecDepth 20000 in
theorem gX7_projector_X7_isWithin : GoodIn wsX7_projector (va_wsS RX7 30 yX7_isWithin wsX7_isWithin) := goodIn_app (goodIn_of _ (by decide +kernel)) ggX7_projector_X7_isWithin
set_option maxRecDepth 20000 in
theorem ggX7_projector_X5_projectorNumbered : GoodIn wsX7_projector wsX5_projectorNumbered := goodIn_r _ [17, 18, 19, 35, 36, 37, 38, 39, 40, 41, 42, 43, 44, 45, 46] (by decide +kernel) (by decide +kernel)
set_option maxRecDepth 20000 in
theorem gX7_projector_X5_projectorNumbered : GoodIn wsX7_projector (wsV RX7 145 RX5 yX5_projectorNumbered wsX5_projectorNumbered) := goodIn_app (goodIn_of _ (by decide +kernel)) ggX7_projector_X5_projectorNumbered
set_option maxRecDepth 20000 in
theorem ggX7_projector_X2_isAtFrame : GoodIn wsX7_projector wsX2_isAtFrame := goodIn_r _ [24, 25, 32, 33, 34] (by decide +kernel) (by decide +kernel)
set_option maxRecDepth 20000 in
theorem gX7_projector_X2_isAtFrame : GoodIn wsX7_projector (wsV RX7 157 RX2 yX2_isAtFrame wsX2_isAtFrame) := goodIn_app (goodIn_of _ (by decide +kernel)) ggX7_projector_X2_isAtFrame
theorem dX7_projector_0 : decode cX7_projector 0 = .ok (.iload_n 1, 1) := by decide +kernel
theorem dX7_projector_1 : decode cX7_projector 1 = .ok (.iconst 0, 1) := by decide +kernel
theorem dX7_projector_2 : decode cX7_projector 2 = .ok (.iconst 1, 1) := by decide +kernel
theorem dX7_projector_3 : decode cX7_projector 3 = .ok (.invokestatic 30, 3) := by decide +kernel
theorem dX7_projector_6 : decode cX7_projector 6 = .ok (.ifCond .ne 6, 3) := by decide +kernel
theorem dX7_projector_9 : decode cX7_projector 9 = .ok (.ldc 49, 2) := by decide +kernel
theorem dX7_projector_11 : decode cX7_projector 11 = .ok (.ireturn, 1) := by decide +kernel
theorem dX7_projector_12 : decode cX7_projector 12 = .ok (.aload_n 0, 1) := by decide +kernel
theorem dX7_projector_13 : decode cX7_projector 13 = .ok (.getfield 10, 3) := by decide +kernel
theorem dX7_projector_16 : decode cX7_projector 16 = .ok (.getfield 106, 3) := by decide +kernel
theorem dX7_projector_19 : decode cX7_projector 19 = .ok (.iload_n 1, 1) := by decide +kernel
theorem dX7_projector_20 : decode cX7_projector 20 = .ok (.invokevirtual 145, 3) := by decide +kernel
theorem dX7_projector_23 : decode cX7_projector 23 = .ok (.astore_n 3, 1) := by decide +kernel
theorem dX7_projector_24 : decode cX7_projector 24 = .ok (.iload_n 2, 1) := by decide +kernel
theorem dX7_projector_25 : decode cX7_projector 25 = .ok (.tableswitch 66 0 2 #[27, 32, 49], 27) := by decide +kernel
theorem dX7_projector_52 : decode cX7_projector 52 = .ok (.aload_n 3, 1) := by decide +kernel
theorem dX7_projector_53 : decode cX7_projector 53 = .ok (.getfield 149, 3) := by decide +kernel
theorem dX7_projector_56 : decode cX7_projector 56 = .ok (.ireturn, 1) := by decide +kernel
theorem dX7_projector_57 : decode cX7_projector 57 = .ok (.aload_n 3, 1) := by decide +kernel
theorem dX7_projector_58 : decode cX7_projector 58 = .ok (.getfield 149, 3) := by decide +kernel
theorem dX7_projector_61 : decode cX7_projector 61 = .ok (.ifCond .ne 8, 3) := by decide +kernel
theorem dX7_projector_64 : decode cX7_projector 64 = .ok (.ldc 99, 2) := by decide +kernel
theorem dX7_projector_66 : decode cX7_projector 66 = .ok (.goto 7, 3) := by decide +kernel
theorem dX7_projector_69 : decode cX7_projector 69 = .ok (.aload_n 3, 1) := by decide +kernel
theorem dX7_projector_70 : decode cX7_projector 70 = .ok (.getfield 154, 3) := by decide +kernel
theorem dX7_projector_73 : decode cX7_projector 73 = .ok (.ireturn, 1) := by decide +kernel
theorem dX7_projector_74 : decode cX7_projector 74 = .ok (.aload_n 3, 1) := by decide +kernel
theorem dX7_projector_75 : decode cX7_projector 75 = .ok (.invokevirtual 157, 3) := by decide +kernel
theorem dX7_projector_78 : decode cX7_projector 78 = .ok (.ifCond .eq 10, 3) := by decide +kernel
theorem dX7_projector_81 : decode cX7_projector 81 = .ok (.aload_n 3, 1) := by decide +kernel
theorem dX7_projector_82 : decode cX7_projector 82 = .ok (.getfield 161, 3) := by decide +kernel
theorem dX7_projector_85 : decode cX7_projector 85 = .ok (.goto 5, 3) := by decide +kernel
theorem dX7_projector_88 : decode cX7_projector 88 = .ok (.ldc 99, 2) := by decide +kernel
theorem dX7_projector_90 : decode cX7_projector 90 = .ok (.ireturn, 1) := by decide +kernel
theorem dX7_projector_91 : decode cX7_projector 91 = .ok (.ldc 34, 2) := by decide +kernel
theorem dX7_projector_93 : decode cX7_projector 93 = .ok (.ireturn, 1) := by decide +kernel
set_option maxRecDepth 20000 in
theorem ggX7_task_X0_hasTask : GoodIn wsX7_task wsX0_hasTask := goodIn_r _ [10, 11, 12, 45, 46, 47, 48, 49, 50] (by decide +kernel) (by decide +kernel)
set_option maxRecDepth 20000 in
theorem gX7_task_X0_hasTask : GoodIn wsX7_task (wsV RX7 168 RX0 yX0_hasTask wsX0_hasTask) := goodIn_app (goodIn_of _ (by decide +kernel)) ggX7_task_X0_hasTask
set_option maxRecDepth 20000 in
theorem ggX7_task_X0_kindOf : GoodIn wsX7_task wsX0_kindOf := goodIn_r _ [16, 17, 18, 19, 20, 7, 8, 9, 10, 11, 12, 45, 46, 47, 48, 49, 50] (by decide +kernel) (by decide +kernel)
set_option maxRecDepth 20000 in
theorem gX7_task_X0_kindOf : GoodIn wsX7_task (wsV RX7 173 RX0 yX0_kindOf wsX0_kindOf) := goodIn_app (goodIn_of _ (by decide +kernel)) ggX7_task_X0_kindOf
set_option maxRecDepth 20000 in
theorem ggX7_task_X0_projectorOf : GoodIn wsX7_task wsX0_projectorOf := goodIn_r _ [24, 17, 25, 26, 20, 7, 8, 9, 10, 11, 12, 45, 46, 47, 48, 49, 50] (by decide +kernel) (by decide +kernel)
set_option maxRecDepth 20000 in
theorem gX7_task_X0_projectorOf : GoodIn wsX7_task (wsV RX7 176 RX0 yX0_projectorOf wsX0_projectorOf) := goodIn_app (goodIn_of _ (by decide +kernel)) ggX7_task_X0_projectorOf
theorem dX7_task_0 : decode cX7_task 0 = .ok (.aload_n 0, 1) := by decide +kernel
theorem dX7_task_1 : decode cX7_task 1 = .ok (.getfield 10, 3) := by decide +kernel
theorem dX7_task_4 : decode cX7_task 4 = .ok (.getfield 106, 3) := by decide +kernel
theorem dX7_task_7 : decode cX7_task 7 = .ok (.getfield 164, 3) := by decide +kernel
theorem dX7_task_10 : decode cX7_task 10 = .ok (.astore_n 3, 1) := by decide +kernel
theorem dX7_task_11 : decode cX7_task 11 = .ok (.aload_n 3, 1) := by decide +kernel
theorem dX7_task_12 : decode cX7_task 12 = .ok (.iload_n 1, 1) := by decide +kernel
theorem dX7_task_13 : decode cX7_task 13 = .ok (.invokevirtual 168, 3) := by decide +kernel
theorem dX7_task_16 : decode cX7_task 16 = .ok (.ifCond .ne 6, 3) := by decide +kernel
theorem dX7_task_19 : decode cX7_task 19 = .ok (.ldc 49, 2) := by decide +kernel
theorem dX7_task_21 : decode cX7_task 21 = .ok (.ireturn, 1) := by decide +kernel
theorem dX7_task_22 : decode cX7_task 22 = .ok (.iload_n 2, 1) := by decide +kernel
theorem dX7_task_23 : decode cX7_task 23 = .ok (.lookupswitch 37 #[(0, 25), (1, 31)], 25) := by decide +kernel
theorem dX7_task_48 : decode cX7_task 48 = .ok (.aload_n 3, 1) := by decide +kernel
theorem dX7_task_49 : decode cX7_task 49 = .ok (.iload_n 1, 1) := by decide +kernel
theorem dX7_task_50 : decode cX7_task 50 = .ok (.invokevirtual 173, 3) := by decide +kernel
theorem dX7_task_53 : decode cX7_task 53 = .ok (.ireturn, 1) := by decide +kernel
theorem dX7_task_54 : decode cX7_task 54 = .ok (.aload_n 3, 1) := by decide +kernel
theorem dX7_task_55 : decode cX7_task 55 = .ok (.iload_n 1, 1) := by decide +kernel
theorem dX7_task_56 : decode cX7_task 56 = .ok (.invokevirtual 176, 3) := by decide +kernel
theorem dX7_task_59 : decode cX7_task 59 = .ok (.ireturn, 1) := by decide +kernel
theorem dX7_task_60 : decode cX7_task 60 = .ok (.ldc 34, 2) := by decide +kernel
theorem dX7_task_62 : decode cX7_task 62 = .ok (.ireturn, 1) := by decide +kernel
set_option maxRecDepth 20000 in
theorem ggX7_forecast_X7_isWithin : GoodIn wsX7_forecast wsX7_isWithin := goodIn_r _ [11] (by decide +kernel) (by decide +kernel)
set_option maxRecDepth 20000 in
theorem gX7_forecast_X7_isWithin : GoodIn wsX7_forecast (va_wsS RX7 30 yX7_isWithin wsX7_isWithin) := goodIn_app (goodIn_of _ (by decide +kernel)) ggX7_forecast_X7_isWithin
set_option maxRecDepth 20000 in
theorem ggX7_forecast_X4_copyFrom : GoodIn wsX7_forecast wsX4_copyFrom := goodIn_r _ [16, 17, 18, 19, 20, 21, 22, 23, 24, 25, 26, 27, 28, 29, 30, 31, 32, 33, 34, 35, 36, 37, 38, 39, 40, 41, 42, 43, 44, 45, 46, 47, 48, 49, 50, 51, 52, 53, 54, 55, 56, 57, 58, 59, 60, 61, 62, 63, 64, 65, 66, 67, 68, 69, 70, 71, 72, 73, 74, 75, 76, 77, 78, 79, 80, 81, 82, 83, 84, 85, 86, 87, 264, 265, 278, 279, 280, 281, 282, 283, 284, 285, 286, 266, 267, 268, 269, 270, 271, 272, 273, 274, 275, 276, 277, 287, 288, 289, 290, 291, 292, 293, 294, 295] (by decide +kernel) (by decide +kernel)
set_option maxRecDepth 20000 in
theorem gX7_forecast_X4_copyFrom : GoodIn wsX7_forecast (wsV RX7 179 RX4 yX4_copyFrom wsX4_copyFrom) := goodIn_app (goodIn_of _ (by decide +kernel)) ggX7_forecast_X4_copyFrom
set_option maxRecDepth 20000 in
theorem ggX7_forecast_X5_run : GoodIn wsX7_forecast wsX5_run := goodIn_r _ [91, 56, 92, 66, 67, 93, 94, 95, 54, 96, 62, 97, 98, 99, 100, 101, 71, 102, 73, 103, 104, 105, 106, 107, 108, 109, 64, 110, 111, 112, 113, 114, 115, 116, 83, 117, 85, 86, 118, 119, 120, 121, 122, 123, 124, 48, 49, 50, 125, 126, 127, 22, 128, 129, 130, 131, 132, 32, 31, 133, 134, 135, 136, 137, 24, 25, 138, 139, 140, 36, 141, 42, 142, 143, 144, 145, 39, 40, 146, 147, 148, 149, 150, 151, 152, 153, 154, 26, 155, 156, 157, 158, 159, 160, 161, 162, 163, 75, 77, 164, 165, 166, 167, 74, 168, 169, 170, 171, 76, 79, 172, 173, 174, 175, 176, 177, 178, 179, 180, 181, 78, 28, 29, 30, 182, 183, 184, 185, 63, 186, 187, 188, 189, 60, 190, 191, 192, 193, 194, 195, 196, 197, 65, 198, 199, 200, 201, 87, 202, 203, 204, 205, 206, 207, 208, 209, 210, 211, 212, 61, 213, 214, 215, 216, 217, 218, 219, 220, 221, 222, 223, 224, 225, 226, 227, 228, 229, 230, 231, 232, 233, 234, 235, 236, 237, 238, 239, 240, 241, 242, 243, 244, 245, 59, 246, 247, 248, 249, 57, 58, 266, 267, 268, 269, 270, 271, 272, 273, 274, 275, 276, 277, 293, 294, 295, 287, 288, 289, 290, 291, 292, 283, 284, 285, 286, 278, 279, 280, 281, 282] (by decide +kernel) (by decide +kernel)
set_option maxRecDepth 20000 in
theorem gX7_forecast_X5_run : GoodIn wsX7_forecast (wsV RX7 138 RX5 yX5_run wsX5_run) := goodIn_app (goodIn_of _ (by decide +kernel)) ggX7_forecast_X5_run
set_option maxRecDepth 20000 in
theorem ggX7_forecast_X7_foretold : GoodIn wsX7_forecast wsX7_foretold := goodIn_r _ [253, 6, 3, 4, 254, 255, 256, 257, 258, 259, 260, 261, 262, 263, 264, 265, 266, 267, 268, 269, 270, 271, 272, 273, 274, 275, 276, 277] (by decide +kernel) (by decide +kernel)
set_option maxRecDepth 20000 in
theorem gX7_forecast_X7_foretold : GoodIn wsX7_forecast (wsV RX7 183 RX7 yX7_foretold wsX7_foretold) := goodIn_app (goodIn_of _ (by decide +kernel)) ggX7_forecast_X7_foretold
theorem dX7_forecast_0 : decode cX7_forecast 0 = .ok (.iload_n 1, 1) := by decide +kernel
theorem dX7_forecast_1 : decode cX7_forecast 1 = .ok (.iconst 0, 1) := by decide +kernel
theorem dX7_forecast_2 : decode cX7_forecast 2 = .ok (.iconst 4, 1) := by decide +kernel
theorem dX7_forecast_3 : decode cX7_forecast 3 = .ok (.invokestatic 30, 3) := by decide +kernel
theorem dX7_forecast_6 : decode cX7_forecast 6 = .ok (.ifCond .ne 6, 3) := by decide +kernel
theorem dX7_forecast_9 : decode cX7_forecast 9 = .ok (.ldc 49, 2) := by decide +kernel
theorem dX7_forecast_11 : decode cX7_forecast 11 = .ok (.ireturn, 1) := by decide +kernel
theorem dX7_forecast_12 : decode cX7_forecast 12 = .ok (.aload_n 0, 1) := by decide +kernel
theorem dX7_forecast_13 : decode cX7_forecast 13 = .ok (.getfield 10, 3) := by decide +kernel
theorem dX7_forecast_16 : decode cX7_forecast 16 = .ok (.getfield 106, 3) := by decide +kernel
theorem dX7_forecast_19 : decode cX7_forecast 19 = .ok (.getfield 110, 3) := by decide +kernel
theorem dX7_forecast_22 : decode cX7_forecast 22 = .ok (.ifCond .ne 6, 3) := by decide +kernel
theorem dX7_forecast_25 : decode cX7_forecast 25 = .ok (.ldc 116, 2) := by decide +kernel
theorem dX7_forecast_27 : decode cX7_forecast 27 = .ok (.ireturn, 1) := by decide +kernel
theorem dX7_forecast_28 : decode cX7_forecast 28 = .ok (.aload_n 0, 1) := by decide +kernel
theorem dX7_forecast_29 : decode cX7_forecast 29 = .ok (.getfield 16, 3) := by decide +kernel
theorem dX7_forecast_32 : decode cX7_forecast 32 = .ok (.aload_n 0, 1) := by decide +kernel
theorem dX7_forecast_33 : decode cX7_forecast 33 = .ok (.getfield 10, 3) := by decide +kernel
theorem dX7_forecast_36 : decode cX7_forecast 36 = .ok (.invokevirtual 179, 3) := by decide +kernel
theorem dX7_forecast_39 : decode cX7_forecast 39 = .ok (.aload_n 0, 1) := by decide +kernel
theorem dX7_forecast_40 : decode cX7_forecast 40 = .ok (.getfield 16, 3) := by decide +kernel
theorem dX7_forecast_43 : decode cX7_forecast 43 = .ok (.getfield 106, 3) := by decide +kernel
theorem dX7_forecast_46 : decode cX7_forecast 46 = .ok (.aload_n 0, 1) := by decide +kernel
theorem dX7_forecast_47 : decode cX7_forecast 47 = .ok (.getfield 16, 3) := by decide +kernel
theorem dX7_forecast_50 : decode cX7_forecast 50 = .ok (.getfield 35, 3) := by decide +kernel
theorem dX7_forecast_53 : decode cX7_forecast 53 = .ok (.sipush 20000, 3) := by decide +kernel
theorem dX7_forecast_56 : decode cX7_forecast 56 = .ok (.invokevirtual 138, 3) := by decide +kernel
theorem dX7_forecast_59 : decode cX7_forecast 59 = .ok (.pop, 1) := by decide +kernel
theorem dX7_forecast_60 : decode cX7_forecast 60 = .ok (.aload_n 0, 1) := by decide +kernel
theorem dX7_forecast_61 : decode cX7_forecast 61 = .ok (.iload_n 1, 1) := by decide +kernel
theorem dX7_forecast_62 : decode cX7_forecast 62 = .ok (.invokevirtual 183, 3) := by decide +kernel
theorem dX7_forecast_65 : decode cX7_forecast 65 = .ok (.ireturn, 1) := by decide +kernel
set_option maxRecDepth 20000 in
theorem ggX7_darkWith_X7_settingError : GoodIn wsX7_darkWith wsX7_settingError := goodIn_r _ [10, 11, 12, 13, 14, 9, 15, 16, 17, 18, 19, 20, 21] (by decide +kernel) (by decide +kernel)
set_option maxRecDepth 20000 in
theorem gX7_darkWith_X7_settingError : GoodIn wsX7_darkWith (va_wsS RX7 81 yX7_settingError wsX7_settingError) := goodIn_app (goodIn_of _ (by decide +kernel)) ggX7_darkWith_X7_settingError
set_option maxRecDepth 20000 in
theorem ggX7_darkWith_X4_copyFrom : GoodIn wsX7_darkWith wsX4_copyFrom := goodIn_r _ [26, 27, 28, 29, 30, 31, 18, 32, 33, 34, 35, 36, 37, 38, 39, 40, 41, 42, 43, 44, 45, 46, 47, 48, 49, 50, 51, 52, 53, 54, 55, 56, 57, 58, 59, 60, 61, 62, 63, 64, 65, 66, 67, 68, 69, 70, 71, 72, 73, 74, 75, 76, 77, 78, 79, 80, 81, 82, 83, 84, 85, 86, 87, 88, 89, 90, 91, 92, 93, 94, 95, 96, 288, 289, 290, 291, 292, 293, 294, 295, 296, 297, 298, 299, 300, 301, 302, 303, 304, 305, 306, 307, 308, 309, 310, 311, 312, 313, 314, 315, 316, 317, 318, 319] (by decide +kernel) (by decide +kernel)
set_option maxRecDepth 20000 in
theorem gX7_darkWith_X4_copyFrom : GoodIn wsX7_darkWith (wsV RX7 179 RX4 yX4_copyFrom wsX4_copyFrom) := goodIn_app (goodIn_of _ (by decide +kernel)) ggX7_darkWith_X4_copyFrom
set_option maxRecDepth 20000 in
theorem ggX7_darkWith_X6_changeSetting : GoodIn wsX7_darkWith wsX6_changeSetting := goodIn_r _ [100, 35, 101, 102, 103, 18, 104, 105, 106, 17, 19, 20, 21, 290, 291, 292, 293, 294] (by decide +kernel) (by decide +kernel)
set_option maxRecDepth 20000 in
theorem gX7_darkWith_X6_changeSetting : GoodIn wsX7_darkWith (wsV RX7 84 RX6 yX6_changeSetting wsX6_changeSetting) := goodIn_app (goodIn_of _ (by decide +kernel)) ggX7_darkWith_X6_changeSetting
set_option maxRecDepth 20000 in
theorem ggX7_darkWith_X5_open : GoodIn wsX7_darkWith wsX5_open := goodIn_r _ [110, 65, 66, 67, 68, 69, 70, 72, 74, 71, 75, 111, 112, 76, 73, 113, 114, 115, 116, 80, 117, 82, 83, 118, 119, 120, 92, 121, 94, 95, 299, 300, 301, 302, 303, 304, 305, 306, 307, 308, 309, 310, 317, 318, 319, 290, 291, 292, 293, 294, 311, 312, 313, 314, 315, 316] (by decide +kernel) (by decide +kernel)
set_option maxRecDepth 20000 in
theorem gX7_darkWith_X5_open : GoodIn wsX7_darkWith (wsV RX7 134 RX5 yX5_open wsX5_open) := goodIn_app (goodIn_of _ (by decide +kernel)) ggX7_darkWith_X5_open
set_option maxRecDepth 20000 in
theorem ggX7_darkWith_X5_run : GoodIn wsX7_darkWith wsX5_run := goodIn_r _ [125, 65, 126, 75, 76, 127, 128, 129, 63, 130, 71, 131, 132, 133, 134, 135, 80, 136, 82, 137, 138, 139, 140, 141, 142, 111, 73, 143, 144, 145, 146, 118, 119, 120, 92, 121, 94, 95, 147, 148, 149, 150, 112, 151, 152, 57, 58, 59, 153, 154, 155, 18, 156, 157, 158, 159, 160, 41, 40, 105, 161, 162, 163, 164, 33, 34, 165, 166, 167, 45, 168, 51, 169, 170, 171, 172, 48, 49, 173, 174, 175, 176, 177, 178, 102, 103, 104, 35, 179, 180, 181, 182, 183, 184, 185, 186, 187, 84, 86, 188, 189, 190, 191, 83, 192, 193, 194, 195, 85, 88, 196, 197, 198, 199, 200, 201, 202, 203, 204, 205, 87, 37, 38, 39, 206, 207, 208, 209, 72, 210, 211, 212, 213, 69, 214, 215, 216, 217, 218, 219, 220, 221, 74, 222, 223, 224, 225, 96, 226, 227, 228, 229, 230, 231, 232, 233, 234, 235, 236, 70, 237, 238, 239, 240, 241, 242, 243, 244, 245, 246, 247, 248, 249, 250, 251, 113, 252, 253, 254, 255, 256, 257, 258, 259, 260, 261, 262, 263, 264, 265, 266, 267, 268, 68, 269, 270, 271, 272, 66, 67, 299, 300, 301, 302, 303, 304, 305, 306, 307, 308, 309, 310, 317, 318, 319, 311, 312, 313, 314, 315, 316, 295, 296, 297, 298, 290, 291, 292, 293, 294] (by decide +kernel) (by decide +kernel)
set_option maxRecDepth 20000 in
theorem gX7_darkWith_X5_run : GoodIn wsX7_darkWith (wsV RX7 138 RX5 yX5_run wsX5_run) := goodIn_app (goodIn_of _ (by decide +kernel)) ggX7_darkWith_X5_run
set_option maxRecDepth 20000 in
theorem ggX7_darkWith_X7_foretold : GoodIn wsX7_darkWith wsX7_foretold := goodIn_r _ [276, 5, 6, 277, 278, 279, 280, 281, 282, 283, 284, 285, 286, 287, 288, 289, 299, 300, 301, 302, 303, 304, 305, 306, 307, 308, 309, 310] (by decide +kernel) (by decide +kernel)
set_option maxRecDepth 20000 in
theorem gX7_darkWith_X7_foretold : GoodIn wsX7_darkWith (wsV RX7 183 RX7 yX7_foretold wsX7_foretold) := goodIn_app (goodIn_of _ (by decide +kernel)) ggX7_darkWith_X7_foretold
theorem dX7_darkWith_0 : decode cX7_darkWith 0 = .ok (.iload_n 1, 1) := by decide +kernel
theorem dX7_darkWith_1 : decode cX7_darkWith 1 = .ok (.iload_n 2, 1) := by decide +kernel
theorem dX7_darkWith_2 : decode cX7_darkWith 2 = .ok (.invokestatic 81, 3) := by decide +kernel
theorem dX7_darkWith_5 : decode cX7_darkWith 5 = .ok (.istore_n 3, 1) := by decide +kernel
theorem dX7_darkWith_6 : decode cX7_darkWith 6 = .ok (.iload_n 3, 1) := by decide +kernel
theorem dX7_darkWith_7 : decode cX7_darkWith 7 = .ok (.ifCond .eq 5, 3) := by decide +kernel
theorem dX7_darkWith_10 : decode cX7_darkWith 10 = .ok (.iload_n 3, 1) := by decide +kernel
theorem dX7_darkWith_11 : decode cX7_darkWith 11 = .ok (.ireturn, 1) := by decide +kernel
theorem dX7_darkWith_12 : decode cX7_darkWith 12 = .ok (.aload_n 0, 1) := by decide +kernel
theorem dX7_darkWith_13 : decode cX7_darkWith 13 = .ok (.getfield 10, 3) := by decide +kernel
theorem dX7_darkWith_16 : decode cX7_darkWith 16 = .ok (.getfield 35, 3) := by decide +kernel
theorem dX7_darkWith_19 : decode cX7_darkWith 19 = .ok (.getfield 131, 3) := by decide +kernel
theorem dX7_darkWith_22 : decode cX7_darkWith 22 = .ok (.ifCond .ne 6, 3) := by decide +kernel
theorem dX7_darkWith_25 : decode cX7_darkWith 25 = .ok (.ldc 116, 2) := by decide +kernel
theorem dX7_darkWith_27 : decode cX7_darkWith 27 = .ok (.ireturn, 1) := by decide +kernel
theorem dX7_darkWith_28 : decode cX7_darkWith 28 = .ok (.aload_n 0, 1) := by decide +kernel
theorem dX7_darkWith_29 : decode cX7_darkWith 29 = .ok (.getfield 16, 3) := by decide +kernel
theorem dX7_darkWith_32 : decode cX7_darkWith 32 = .ok (.aload_n 0, 1) := by decide +kernel
theorem dX7_darkWith_33 : decode cX7_darkWith 33 = .ok (.getfield 10, 3) := by decide +kernel
theorem dX7_darkWith_36 : decode cX7_darkWith 36 = .ok (.invokevirtual 179, 3) := by decide +kernel
theorem dX7_darkWith_39 : decode cX7_darkWith 39 = .ok (.aload_n 0, 1) := by decide +kernel
theorem dX7_darkWith_40 : decode cX7_darkWith 40 = .ok (.getfield 16, 3) := by decide +kernel
theorem dX7_darkWith_43 : decode cX7_darkWith 43 = .ok (.getfield 35, 3) := by decide +kernel
theorem dX7_darkWith_46 : decode cX7_darkWith 46 = .ok (.iload_n 1, 1) := by decide +kernel
theorem dX7_darkWith_47 : decode cX7_darkWith 47 = .ok (.iload_n 2, 1) := by decide +kernel
theorem dX7_darkWith_48 : decode cX7_darkWith 48 = .ok (.invokevirtual 84, 3) := by decide +kernel
theorem dX7_darkWith_51 : decode cX7_darkWith 51 = .ok (.pop, 1) := by decide +kernel
theorem dX7_darkWith_52 : decode cX7_darkWith 52 = .ok (.aload_n 0, 1) := by decide +kernel
theorem dX7_darkWith_53 : decode cX7_darkWith 53 = .ok (.getfield 16, 3) := by decide +kernel
theorem dX7_darkWith_56 : decode cX7_darkWith 56 = .ok (.getfield 106, 3) := by decide +kernel
theorem dX7_darkWith_59 : decode cX7_darkWith 59 = .ok (.aload_n 0, 1) := by decide +kernel
theorem dX7_darkWith_60 : decode cX7_darkWith 60 = .ok (.getfield 16, 3) := by decide +kernel
theorem dX7_darkWith_63 : decode cX7_darkWith 63 = .ok (.getfield 35, 3) := by decide +kernel
theorem dX7_darkWith_66 : decode cX7_darkWith 66 = .ok (.invokevirtual 134, 3) := by decide +kernel
theorem dX7_darkWith_69 : decode cX7_darkWith 69 = .ok (.aload_n 0, 1) := by decide +kernel
theorem dX7_darkWith_70 : decode cX7_darkWith 70 = .ok (.getfield 16, 3) := by decide +kernel
theorem dX7_darkWith_73 : decode cX7_darkWith 73 = .ok (.getfield 106, 3) := by decide +kernel
theorem dX7_darkWith_76 : decode cX7_darkWith 76 = .ok (.aload_n 0, 1) := by decide +kernel
theorem dX7_darkWith_77 : decode cX7_darkWith 77 = .ok (.getfield 16, 3) := by decide +kernel
theorem dX7_darkWith_80 : decode cX7_darkWith 80 = .ok (.getfield 35, 3) := by decide +kernel
theorem dX7_darkWith_83 : decode cX7_darkWith 83 = .ok (.sipush 20000, 3) := by decide +kernel
theorem dX7_darkWith_86 : decode cX7_darkWith 86 = .ok (.invokevirtual 138, 3) := by decide +kernel
theorem dX7_darkWith_89 : decode cX7_darkWith 89 = .ok (.pop, 1) := by decide +kernel
theorem dX7_darkWith_90 : decode cX7_darkWith 90 = .ok (.aload_n 0, 1) := by decide +kernel
theorem dX7_darkWith_91 : decode cX7_darkWith 91 = .ok (.iconst 1, 1) := by decide +kernel
theorem dX7_darkWith_92 : decode cX7_darkWith 92 = .ok (.invokevirtual 183, 3) := by decide +kernel
theorem dX7_darkWith_95 : decode cX7_darkWith 95 = .ok (.ireturn, 1) := by decide +kernel
set_option maxRecDepth 20000 in
theorem ggX7_save_X7_isWithin : GoodIn wsX7_save wsX7_isWithin := goodIn_r _ [12] (by decide +kernel) (by decide +kernel)
set_option maxRecDepth 20000 in
theorem gX7_save_X7_isWithin : GoodIn wsX7_save (va_wsS RX7 30 yX7_isWithin wsX7_isWithin) := goodIn_app (goodIn_of _ (by decide +kernel)) ggX7_save_X7_isWithin
set_option maxRecDepth 20000 in
theorem ggX7_save_X4_init : GoodIn wsX7_save wsX4_init := goodIn_r _ [14, 15, 16, 17, 18, 19, 20, 21, 22, 23, 24, 25, 26, 27, 28, 29, 30, 31, 32, 33, 34, 35, 36, 37, 38, 39, 40, 41, 42, 43, 44, 45, 46, 47, 48, 49, 50, 51, 52, 53, 54, 55, 56, 57, 58, 59, 60, 61, 62, 63, 64, 65, 66, 127, 128, 129, 130, 131, 125, 126, 132, 133, 134, 135, 136, 137, 138, 139, 140, 141, 142, 143, 144, 145, 146, 147, 148, 149, 150, 151, 152, 153, 154, 155, 156] (by decide +kernel) (by decide +kernel)
set_option maxRecDepth 20000 in
theorem gX7_save_X4_init_n9 : GoodIn wsX7_save (wsX4_init) := ggX7_save_X4_init
set_option maxRecDepth 20000 in
theorem ggX7_save_X4_copyFrom : GoodIn wsX7_save wsX4_copyFrom := goodIn_r _ [70, 21, 25, 71, 72, 73, 20, 74, 75, 31, 33, 38, 39, 40, 41, 34, 76, 77, 78, 79, 36, 80, 81, 82, 45, 83, 46, 84, 85, 86, 87, 88, 89, 90, 91, 92, 93, 94, 24, 95, 96, 97, 98, 99, 100, 101, 53, 102, 103, 104, 57, 58, 105, 106, 107, 52, 108, 109, 110, 111, 112, 62, 113, 63, 114, 115, 116, 56, 117, 118, 119, 120, 125, 126, 127, 128, 129, 130, 131, 144, 145, 146, 147, 132, 133, 134, 135, 136, 137, 138, 139, 140, 141, 142, 143, 148, 149, 150, 151, 152, 153, 154, 155, 156] (by decide +kernel) (by decide +kernel)
set_option maxRecDepth 20000 in
theorem gX7_save_X4_copyFrom : GoodIn wsX7_save (wsV RX7 179 RX4 yX4_copyFrom wsX4_copyFrom) := goodIn_app (goodIn_of _ (by decide +kernel)) ggX7_save_X4_copyFrom
theorem dX7_save_0 : decode cX7_save 0 = .ok (.iload_n 1, 1) := by decide +kernel
theorem dX7_save_1 : decode cX7_save 1 = .ok (.iconst 0, 1) := by decide +kernel
theorem dX7_save_2 : decode cX7_save 2 = .ok (.iconst 1, 1) := by decide +kernel
theorem dX7_save_3 : decode cX7_save 3 = .ok (.invokestatic 30, 3) := by decide +kernel
theorem dX7_save_6 : decode cX7_save 6 = .ok (.ifCond .ne 6, 3) := by decide +kernel
theorem dX7_save_9 : decode cX7_save 9 = .ok (.ldc 49, 2) := by decide +kernel
theorem dX7_save_11 : decode cX7_save 11 = .ok (.ireturn, 1) := by decide +kernel
theorem dX7_save_12 : decode cX7_save 12 = .ok (.aload_n 0, 1) := by decide +kernel
theorem dX7_save_13 : decode cX7_save 13 = .ok (.getfield 19, 3) := by decide +kernel
theorem dX7_save_16 : decode cX7_save 16 = .ok (.iload_n 1, 1) := by decide +kernel
theorem dX7_save_17 : decode cX7_save 17 = .ok (.aaload, 1) := by decide +kernel
theorem dX7_save_18 : decode cX7_save 18 = .ok (.astore_n 2, 1) := by decide +kernel
theorem dX7_save_19 : decode cX7_save 19 = .ok (.aload_n 2, 1) := by decide +kernel
theorem dX7_save_20 : decode cX7_save 20 = .ok (.ifnonnull 18, 3) := by decide +kernel
theorem dX7_save_23 : decode cX7_save 23 = .ok (.new 7, 3) := by decide +kernel
theorem dX7_save_26 : decode cX7_save 26 = .ok (.dup, 1) := by decide +kernel
theorem dX7_save_27 : decode cX7_save 27 = .ok (.invokespecial 9, 3) := by decide +kernel
theorem dX7_save_30 : decode cX7_save 30 = .ok (.astore_n 2, 1) := by decide +kernel
theorem dX7_save_31 : decode cX7_save 31 = .ok (.aload_n 0, 1) := by decide +kernel
theorem dX7_save_32 : decode cX7_save 32 = .ok (.getfield 19, 3) := by decide +kernel
theorem dX7_save_35 : decode cX7_save 35 = .ok (.iload_n 1, 1) := by decide +kernel
theorem dX7_save_36 : decode cX7_save 36 = .ok (.aload_n 2, 1) := by decide +kernel
theorem dX7_save_37 : decode cX7_save 37 = .ok (.aastore, 1) := by decide +kernel
theorem dX7_save_38 : decode cX7_save 38 = .ok (.aload_n 2, 1) := by decide +kernel
theorem dX7_save_39 : decode cX7_save 39 = .ok (.aload_n 0, 1) := by decide +kernel
theorem dX7_save_40 : decode cX7_save 40 = .ok (.getfield 10, 3) := by decide +kernel
theorem dX7_save_43 : decode cX7_save 43 = .ok (.invokevirtual 179, 3) := by decide +kernel
theorem dX7_save_46 : decode cX7_save 46 = .ok (.aload_n 0, 1) := by decide +kernel
theorem dX7_save_47 : decode cX7_save 47 = .ok (.getfield 10, 3) := by decide +kernel
theorem dX7_save_50 : decode cX7_save 50 = .ok (.getfield 35, 3) := by decide +kernel
theorem dX7_save_53 : decode cX7_save 53 = .ok (.getfield 93, 3) := by decide +kernel
theorem dX7_save_56 : decode cX7_save 56 = .ok (.ireturn, 1) := by decide +kernel
set_option maxRecDepth 20000 in
theorem ggX7_restore_X7_isWithin : GoodIn wsX7_restore wsX7_isWithin := goodIn_r _ [10] (by decide +kernel) (by decide +kernel)
set_option maxRecDepth 20000 in
theorem gX7_restore_X7_isWithin : GoodIn wsX7_restore (va_wsS RX7 30 yX7_isWithin wsX7_isWithin) := goodIn_app (goodIn_of _ (by decide +kernel)) ggX7_restore_X7_isWithin
set_option maxRecDepth 20000 in
theorem ggX7_restore_X4_copyFrom : GoodIn wsX7_restore wsX4_copyFrom := goodIn_r _ [15, 16, 17, 18, 19, 20, 21, 22, 23, 24, 25, 26, 27, 28, 29, 30, 31, 32, 33, 34, 35, 36, 37, 38, 39, 40, 41, 42, 43, 44, 45, 46, 47, 48, 49, 50, 51, 52, 53, 54, 55, 56, 57, 58, 59, 60, 61, 62, 63, 64, 65, 66, 67, 68, 69, 70, 71, 72, 73, 74, 75, 76, 77, 78, 79, 80, 81, 82, 83, 84, 85, 86, 91, 92, 93, 94, 95, 96, 97, 98, 99, 100, 101, 102, 103, 104, 105, 106, 107, 108, 109, 110, 111, 112, 113, 114, 115, 116, 117, 118, 119, 120, 121, 122] (by decide +kernel) (by decide +kernel)
set_option maxRecDepth 20000 in
theorem gX7_restore_X4_copyFrom : GoodIn wsX7_restore (wsV RX7 179 RX4 yX4_copyFrom wsX4_copyFrom) := goodIn_app (goodIn_of _ (by decide +kernel)) ggX7_restore_X4_copyFrom
theorem dX7_restore_0 : decode cX7_restore 0 = .ok (.iload_n 1, 1) := by decide +kernel
theorem dX7_restore_1 : decode cX7_restore 1 = .ok (.iconst 0, 1) := by decide +kernel
theorem dX7_restore_2 : decode cX7_restore 2 = .ok (.iconst 1, 1) := by decide +kernel
theorem dX7_restore_3 : decode cX7_restore 3 = .ok (.invokestatic 30, 3) := by decide +kernel
theorem dX7_restore_6 : decode cX7_restore 6 = .ok (.ifCond .ne 6, 3) := by decide +kernel
theorem dX7_restore_9 : decode cX7_restore 9 = .ok (.ldc 49, 2) := by decide +kernel
theorem dX7_restore_11 : decode cX7_restore 11 = .ok (.ireturn, 1) := by decide +kernel
theorem dX7_restore_12 : decode cX7_restore 12 = .ok (.aload_n 0, 1) := by decide +kernel
theorem dX7_restore_13 : decode cX7_restore 13 = .ok (.getfield 19, 3) := by decide +kernel
theorem dX7_restore_16 : decode cX7_restore 16 = .ok (.iload_n 1, 1) := by decide +kernel
theorem dX7_restore_17 : decode cX7_restore 17 = .ok (.aaload, 1) := by decide +kernel
theorem dX7_restore_18 : decode cX7_restore 18 = .ok (.astore_n 2, 1) := by decide +kernel
theorem dX7_restore_19 : decode cX7_restore 19 = .ok (.aload_n 2, 1) := by decide +kernel
theorem dX7_restore_20 : decode cX7_restore 20 = .ok (.ifnonnull 6, 3) := by decide +kernel
theorem dX7_restore_23 : decode cX7_restore 23 = .ok (.ldc 116, 2) := by decide +kernel
theorem dX7_restore_25 : decode cX7_restore 25 = .ok (.ireturn, 1) := by decide +kernel
theorem dX7_restore_26 : decode cX7_restore 26 = .ok (.aload_n 0, 1) := by decide +kernel
theorem dX7_restore_27 : decode cX7_restore 27 = .ok (.getfield 10, 3) := by decide +kernel
theorem dX7_restore_30 : decode cX7_restore 30 = .ok (.aload_n 2, 1) := by decide +kernel
theorem dX7_restore_31 : decode cX7_restore 31 = .ok (.invokevirtual 179, 3) := by decide +kernel
theorem dX7_restore_34 : decode cX7_restore 34 = .ok (.aload_n 0, 1) := by decide +kernel
theorem dX7_restore_35 : decode cX7_restore 35 = .ok (.getfield 10, 3) := by decide +kernel
theorem dX7_restore_38 : decode cX7_restore 38 = .ok (.getfield 35, 3) := by decide +kernel
theorem dX7_restore_41 : decode cX7_restore 41 = .ok (.getfield 93, 3) := by decide +kernel
theorem dX7_restore_44 : decode cX7_restore 44 = .ok (.ireturn, 1) := by decide +kernel
set_option maxRecDepth 20000 in
theorem ggX7_checksum_X7_sumStock : GoodIn wsX7_checksum wsX7_sumStock := goodIn_r _ [11, 2, 6, 12, 13, 14, 15, 10, 16, 17, 18, 19, 20, 21, 22, 23, 24, 25, 26, 27, 28, 29, 30, 31, 32, 33, 34, 35, 36, 37, 38, 39, 40, 41, 42, 43, 44, 45, 46, 47, 48, 49, 50, 51, 52, 53, 54, 55, 56, 57, 58, 59, 60, 61, 62, 63, 64, 65, 66, 67, 68, 69, 70, 332, 333, 334, 335, 336, 337, 350, 351, 352, 353, 354, 355, 356, 357, 358] (by decide +kernel) (by decide +kernel)
set_option maxRecDepth 20000 in
theorem gX7_checksum_X7_sumStock : GoodIn wsX7_checksum (wsV RX7 188 RX7 yX7_sumStock wsX7_sumStock) := goodIn_app (goodIn_of _ (by decide +kernel)) ggX7_checksum_X7_sumStock
set_option maxRecDepth 20000 in
theorem ggX7_checksum_X7_sumShow : GoodIn wsX7_checksum wsX7_sumShow := goodIn_r _ [74, 2, 3, 75, 76, 77, 78, 10, 79, 80, 81, 82, 83, 84, 85, 86, 87, 88, 89, 90, 91, 92, 93, 94, 95, 96, 14, 15, 16, 17, 97, 98, 99, 100, 26, 101, 102, 103, 104, 29, 105, 106, 107, 108, 109, 110, 111, 112, 113, 114, 115, 116, 117, 118, 119, 120, 121, 122, 123, 124, 125, 126, 127, 128, 129, 130, 131, 132, 133, 134, 135, 136, 137, 138, 139, 140, 141, 142, 143, 144, 332, 333, 334, 335, 336, 337, 338, 339, 340, 341, 342, 343, 344, 345, 346, 347, 348, 349, 359, 360, 361, 362, 363, 364, 365, 366, 367] (by decide +kernel) (by decide +kernel)
set_option maxRecDepth 20000 in
theorem gX7_checksum_X7_sumShow : GoodIn wsX7_checksum (wsV RX7 192 RX7 yX7_sumShow wsX7_sumShow) := goodIn_app (goodIn_of _ (by decide +kernel)) ggX7_checksum_X7_sumShow
set_option maxRecDepth 20000 in
theorem ggX7_checksum_X4_copyFrom : GoodIn wsX7_checksum wsX4_copyFrom := goodIn_r _ [149, 150, 151, 152, 153, 154, 33, 155, 35, 36, 59, 156, 157, 158, 159, 70, 69, 160, 161, 162, 40, 163, 164, 43, 165, 166, 44, 167, 168, 169, 170, 171, 172, 173, 174, 175, 176, 177, 83, 178, 85, 86, 88, 89, 90, 91, 93, 87, 92, 179, 112, 113, 180, 181, 182, 123, 183, 125, 126, 136, 143, 137, 184, 144, 185, 186, 187, 117, 188, 119, 189, 190, 336, 337, 350, 351, 352, 353, 354, 355, 356, 357, 358, 338, 339, 340, 341, 342, 343, 344, 345, 346, 347, 348, 349, 359, 360, 361, 362, 363, 364, 365, 366, 367] (by decide +kernel) (by decide +kernel)
set_option maxRecDepth 20000 in
theorem gX7_checksum_X4_copyFrom : GoodIn wsX7_checksum (wsV RX7 179 RX4 yX4_copyFrom wsX4_copyFrom) := goodIn_app (goodIn_of _ (by decide +kernel)) ggX7_checksum_X4_copyFrom
set_option maxRecDepth 20000 in
theorem ggX7_checksum_X5_run : GoodIn wsX7_checksum wsX5_run := goodIn_r _ [194, 85, 195, 112, 113, 196, 197, 198, 83, 199, 93, 95, 94, 200, 201, 202, 123, 203, 125, 204, 205, 206, 207, 208, 209, 210, 92, 211, 109, 110, 111, 212, 213, 214, 117, 215, 119, 189, 216, 217, 218, 219, 220, 221, 222, 172, 173, 174, 223, 224, 225, 33, 226, 227, 66, 67, 68, 69, 70, 60, 228, 31, 32, 34, 35, 36, 229, 230, 231, 40, 232, 44, 233, 234, 235, 236, 43, 165, 42, 237, 52, 53, 54, 238, 56, 57, 58, 59, 239, 240, 241, 242, 243, 132, 133, 134, 135, 136, 137, 138, 121, 122, 124, 126, 244, 140, 141, 142, 143, 144, 245, 246, 247, 248, 249, 250, 251, 252, 253, 254, 184, 157, 158, 159, 255, 256, 257, 258, 87, 259, 260, 261, 262, 90, 263, 264, 265, 266, 267, 268, 269, 270, 179, 271, 272, 273, 274, 190, 275, 276, 277, 278, 279, 280, 281, 282, 283, 284, 285, 91, 286, 287, 288, 289, 290, 291, 292, 293, 294, 295, 296, 297, 298, 299, 300, 301, 302, 303, 304, 305, 306, 307, 308, 309, 310, 311, 312, 313, 314, 315, 316, 317, 318, 89, 319, 320, 321, 322, 86, 88, 338, 339, 340, 341, 342, 343, 344, 345, 346, 347, 348, 349, 365, 366, 367, 359, 360, 361, 362, 363, 364, 355, 356, 357, 358, 350, 351, 352, 353, 354] (by decide +kernel) (by decide +kernel)
set_option maxRecDepth 20000 in
theorem gX7_checksum_X5_run : GoodIn wsX7_checksum (wsV RX7 138 RX5 yX5_run wsX5_run) := goodIn_app (goodIn_of _ (by decide +kernel)) ggX7_checksum_X5_run
set_option maxRecDepth 20000 in
theorem ggX7_checksum_X7_foretold : GoodIn wsX7_checksum wsX7_foretold := goodIn_r _ [326, 5, 3, 4, 102, 327, 328, 329, 330, 331, 332, 333, 334, 335, 336, 337, 338, 339, 340, 341, 342, 343, 344, 345, 346, 347, 348, 349] (by decide +kernel) (by decide +kernel)
set_option maxRecDepth 20000 in
theorem gX7_checksum_X7_foretold : GoodIn wsX7_checksum (wsV RX7 183 RX7 yX7_foretold wsX7_foretold) := goodIn_app (goodIn_of _ (by decide +kernel)) ggX7_checksum_X7_foretold
set_option maxRecDepth 20000 in
theorem ggX7_checksum_X7_mix : GoodIn wsX7_checksum wsX7_mix := goodIn_r _ [16, 17] (by decide +kernel) (by decide +kernel)
set_option maxRecDepth 20000 in
theorem gX7_checksum_X7_mix : GoodIn wsX7_checksum (va_wsS RX7 195 yX7_mix wsX7_mix) := goodIn_app (goodIn_of _ (by decide +kernel)) ggX7_checksum_X7_mix
theorem dX7_checksum_0 : decode cX7_checksum 0 = .ok (.aload_n 0, 1) := by decide +kernel
theorem dX7_checksum_1 : decode cX7_checksum 1 = .ok (.aload_n 0, 1) := by decide +kernel
theorem dX7_checksum_2 : decode cX7_checksum 2 = .ok (.ldc2_w 186, 3) := by decide +kernel
theorem dX7_checksum_5 : decode cX7_checksum 5 = .ok (.invokevirtual 188, 3) := by decide +kernel
theorem dX7_checksum_8 : decode cX7_checksum 8 = .ok (.invokevirtual 192, 3) := by decide +kernel
theorem dX7_checksum_11 : decode cX7_checksum 11 = .ok (.lstore_n 1, 1) := by decide +kernel
theorem dX7_checksum_12 : decode cX7_checksum 12 = .ok (.aload_n 0, 1) := by decide +kernel
theorem dX7_checksum_13 : decode cX7_checksum 13 = .ok (.getfield 10, 3) := by decide +kernel
theorem dX7_checksum_16 : decode cX7_checksum 16 = .ok (.getfield 106, 3) := by decide +kernel
theorem dX7_checksum_19 : decode cX7_checksum 19 = .ok (.getfield 110, 3) := by decide +kernel
theorem dX7_checksum_22 : decode cX7_checksum 22 = .ok (.ifCond .ne 5, 3) := by decide +kernel
theorem dX7_checksum_25 : decode cX7_checksum 25 = .ok (.lload_n 1, 1) := by decide +kernel
theorem dX7_checksum_26 : decode cX7_checksum 26 = .ok (.lreturn, 1) := by decide +kernel
theorem dX7_checksum_27 : decode cX7_checksum 27 = .ok (.aload_n 0, 1) := by decide +kernel
theorem dX7_checksum_28 : decode cX7_checksum 28 = .ok (.getfield 16, 3) := by decide +kernel
theorem dX7_checksum_31 : decode cX7_checksum 31 = .ok (.aload_n 0, 1) := by decide +kernel
theorem dX7_checksum_32 : decode cX7_checksum 32 = .ok (.getfield 10, 3) := by decide +kernel
theorem dX7_checksum_35 : decode cX7_checksum 35 = .ok (.invokevirtual 179, 3) := by decide +kernel
theorem dX7_checksum_38 : decode cX7_checksum 38 = .ok (.aload_n 0, 1) := by decide +kernel
theorem dX7_checksum_39 : decode cX7_checksum 39 = .ok (.getfield 16, 3) := by decide +kernel
theorem dX7_checksum_42 : decode cX7_checksum 42 = .ok (.getfield 106, 3) := by decide +kernel
theorem dX7_checksum_45 : decode cX7_checksum 45 = .ok (.aload_n 0, 1) := by decide +kernel
theorem dX7_checksum_46 : decode cX7_checksum 46 = .ok (.getfield 16, 3) := by decide +kernel
theorem dX7_checksum_49 : decode cX7_checksum 49 = .ok (.getfield 35, 3) := by decide +kernel
theorem dX7_checksum_52 : decode cX7_checksum 52 = .ok (.sipush 20000, 3) := by decide +kernel
theorem dX7_checksum_55 : decode cX7_checksum 55 = .ok (.invokevirtual 138, 3) := by decide +kernel
theorem dX7_checksum_58 : decode cX7_checksum 58 = .ok (.pop, 1) := by decide +kernel
theorem dX7_checksum_59 : decode cX7_checksum 59 = .ok (.lload_n 1, 1) := by decide +kernel
theorem dX7_checksum_60 : decode cX7_checksum 60 = .ok (.aload_n 0, 1) := by decide +kernel
theorem dX7_checksum_61 : decode cX7_checksum 61 = .ok (.iconst 0, 1) := by decide +kernel
theorem dX7_checksum_62 : decode cX7_checksum 62 = .ok (.invokevirtual 183, 3) := by decide +kernel
theorem dX7_checksum_65 : decode cX7_checksum 65 = .ok (.i2l, 1) := by decide +kernel
theorem dX7_checksum_66 : decode cX7_checksum 66 = .ok (.invokestatic 195, 3) := by decide +kernel
theorem dX7_checksum_69 : decode cX7_checksum 69 = .ok (.aload_n 0, 1) := by decide +kernel
theorem dX7_checksum_70 : decode cX7_checksum 70 = .ok (.iconst 1, 1) := by decide +kernel
theorem dX7_checksum_71 : decode cX7_checksum 71 = .ok (.invokevirtual 183, 3) := by decide +kernel
theorem dX7_checksum_74 : decode cX7_checksum 74 = .ok (.i2l, 1) := by decide +kernel
theorem dX7_checksum_75 : decode cX7_checksum 75 = .ok (.invokestatic 195, 3) := by decide +kernel
theorem dX7_checksum_78 : decode cX7_checksum 78 = .ok (.lreturn, 1) := by decide +kernel
set_option maxRecDepth 20000 in
theorem ggX7_sumStock_X7_mix : GoodIn wsX7_sumStock wsX7_mix := goodIn_r _ [8, 9] (by decide +kernel) (by decide +kernel)
set_option maxRecDepth 20000 in
theorem gX7_sumStock_X7_mix : GoodIn wsX7_sumStock (va_wsS RX7 195 yX7_mix wsX7_mix) := goodIn_app (goodIn_of _ (by decide +kernel)) ggX7_sumStock_X7_mix
set_option maxRecDepth 20000 in
theorem ggX7_sumStock_X7_sumReel : GoodIn wsX7_sumStock wsX7_sumReel := goodIn_r _ [13, 14, 15, 16, 7, 17, 1, 2, 18, 19, 20, 21, 22, 23, 24, 25, 26, 27, 28, 29, 30, 31, 32, 33, 34, 35, 36, 5, 6, 8, 9, 37, 38, 39, 40, 41, 42, 43, 44, 45, 46, 63, 64, 65, 66, 67, 68, 74, 75, 76, 77, 69, 70, 71, 72, 73] (by decide +kernel) (by decide +kernel)
set_option maxRecDepth 20000 in
theorem gX7_sumStock_X7_sumReel : GoodIn wsX7_sumStock (wsV RX7 199 RX7 yX7_sumReel wsX7_sumReel) := goodIn_app (goodIn_of _ (by decide +kernel)) ggX7_sumStock_X7_sumReel
set_option maxRecDepth 20000 in
theorem ggX7_sumStock_X6_settingNumbered : GoodIn wsX7_sumStock wsX6_settingNumbered := goodIn_r _ [50, 51, 52, 69, 70, 71, 72, 73] (by decide +kernel) (by decide +kernel)
set_option maxRecDepth 20000 in
theorem gX7_sumStock_X6_settingNumbered : GoodIn wsX7_sumStock (wsV RX7 203 RX6 yX6_settingNumbered wsX6_settingNumbered) := goodIn_app (goodIn_of _ (by decide +kernel)) ggX7_sumStock_X6_settingNumbered
set_option maxRecDepth 20000 in
theorem ggX7_sumStock_X7_program : GoodIn wsX7_sumStock wsX7_program := goodIn_r _ [56, 1, 2, 57, 58, 59, 25, 60, 61, 62, 52, 63, 64, 65, 66, 67, 68, 69, 70, 71, 72, 73] (by decide +kernel) (by decide +kernel)
set_option maxRecDepth 20000 in
theorem gX7_sumStock_X7_program : GoodIn wsX7_sumStock (wsV RX7 206 RX7 yX7_program wsX7_program) := goodIn_app (goodIn_of _ (by decide +kernel)) ggX7_sumStock_X7_program
theorem dX7_sumStock_0 : decode cX7_sumStock 0 = .ok (.aload_n 0, 1) := by decide +kernel
theorem dX7_sumStock_1 : decode cX7_sumStock 1 = .ok (.getfield 10, 3) := by decide +kernel
theorem dX7_sumStock_4 : decode cX7_sumStock 4 = .ok (.getfield 35, 3) := by decide +kernel
theorem dX7_sumStock_7 : decode cX7_sumStock 7 = .ok (.astore_n 3, 1) := by decide +kernel
theorem dX7_sumStock_8 : decode cX7_sumStock 8 = .ok (.lload_n 1, 1) := by decide +kernel
theorem dX7_sumStock_9 : decode cX7_sumStock 9 = .ok (.aload_n 3, 1) := by decide +kernel
theorem dX7_sumStock_10 : decode cX7_sumStock 10 = .ok (.getfield 93, 3) := by decide +kernel
theorem dX7_sumStock_13 : decode cX7_sumStock 13 = .ok (.i2l, 1) := by decide +kernel
theorem dX7_sumStock_14 : decode cX7_sumStock 14 = .ok (.invokestatic 195, 3) := by decide +kernel
theorem dX7_sumStock_17 : decode cX7_sumStock 17 = .ok (.lstore 4, 2) := by decide +kernel
theorem dX7_sumStock_19 : decode cX7_sumStock 19 = .ok (.iconst 0, 1) := by decide +kernel
theorem dX7_sumStock_20 : decode cX7_sumStock 20 = .ok (.istore 6, 2) := by decide +kernel
theorem dX7_sumStock_22 : decode cX7_sumStock 22 = .ok (.iload 6, 2) := by decide +kernel
theorem dX7_sumStock_24 : decode cX7_sumStock 24 = .ok (.aload_n 3, 1) := by decide +kernel
theorem dX7_sumStock_25 : decode cX7_sumStock 25 = .ok (.getfield 93, 3) := by decide +kernel
theorem dX7_sumStock_28 : decode cX7_sumStock 28 = .ok (.if_icmp .ge 19, 3) := by decide +kernel
theorem dX7_sumStock_31 : decode cX7_sumStock 31 = .ok (.aload_n 0, 1) := by decide +kernel
theorem dX7_sumStock_32 : decode cX7_sumStock 32 = .ok (.lload 4, 2) := by decide +kernel
theorem dX7_sumStock_34 : decode cX7_sumStock 34 = .ok (.iload 6, 2) := by decide +kernel
theorem dX7_sumStock_36 : decode cX7_sumStock 36 = .ok (.invokevirtual 199, 3) := by decide +kernel
theorem dX7_sumStock_39 : decode cX7_sumStock 39 = .ok (.lstore 4, 2) := by decide +kernel
theorem dX7_sumStock_41 : decode cX7_sumStock 41 = .ok (.iinc 6 1, 3) := by decide +kernel
theorem dX7_sumStock_44 : decode cX7_sumStock 44 = .ok (.goto (-22), 3) := by decide +kernel
theorem dX7_sumStock_47 : decode cX7_sumStock 47 = .ok (.iconst 0, 1) := by decide +kernel
theorem dX7_sumStock_48 : decode cX7_sumStock 48 = .ok (.istore 6, 2) := by decide +kernel
theorem dX7_sumStock_50 : decode cX7_sumStock 50 = .ok (.iload 6, 2) := by decide +kernel
theorem dX7_sumStock_52 : decode cX7_sumStock 52 = .ok (.bipush 8, 2) := by decide +kernel
theorem dX7_sumStock_54 : decode cX7_sumStock 54 = .ok (.if_icmp .ge 23, 3) := by decide +kernel
theorem dX7_sumStock_57 : decode cX7_sumStock 57 = .ok (.lload 4, 2) := by decide +kernel
theorem dX7_sumStock_59 : decode cX7_sumStock 59 = .ok (.aload_n 3, 1) := by decide +kernel
theorem dX7_sumStock_60 : decode cX7_sumStock 60 = .ok (.iload 6, 2) := by decide +kernel
theorem dX7_sumStock_62 : decode cX7_sumStock 62 = .ok (.invokevirtual 203, 3) := by decide +kernel
theorem dX7_sumStock_65 : decode cX7_sumStock 65 = .ok (.i2l, 1) := by decide +kernel
theorem dX7_sumStock_66 : decode cX7_sumStock 66 = .ok (.invokestatic 195, 3) := by decide +kernel
theorem dX7_sumStock_69 : decode cX7_sumStock 69 = .ok (.lstore 4, 2) := by decide +kernel
theorem dX7_sumStock_71 : decode cX7_sumStock 71 = .ok (.iinc 6 1, 3) := by decide +kernel
theorem dX7_sumStock_74 : decode cX7_sumStock 74 = .ok (.goto (-24), 3) := by decide +kernel
theorem dX7_sumStock_77 : decode cX7_sumStock 77 = .ok (.lload 4, 2) := by decide +kernel
theorem dX7_sumStock_79 : decode cX7_sumStock 79 = .ok (.aload_n 3, 1) := by decide +kernel
theorem dX7_sumStock_80 : decode cX7_sumStock 80 = .ok (.getfield 131, 3) := by decide +kernel
theorem dX7_sumStock_83 : decode cX7_sumStock 83 = .ok (.i2l, 1) := by decide +kernel
theorem dX7_sumStock_84 : decode cX7_sumStock 84 = .ok (.invokestatic 195, 3) := by decide +kernel
theorem dX7_sumStock_87 : decode cX7_sumStock 87 = .ok (.lstore 4, 2) := by decide +kernel
theorem dX7_sumStock_89 : decode cX7_sumStock 89 = .ok (.iconst 0, 1) := by decide +kernel
theorem dX7_sumStock_90 : decode cX7_sumStock 90 = .ok (.istore 6, 2) := by decide +kernel
theorem dX7_sumStock_92 : decode cX7_sumStock 92 = .ok (.iload 6, 2) := by decide +kernel
theorem dX7_sumStock_94 : decode cX7_sumStock 94 = .ok (.aload_n 3, 1) := by decide +kernel
theorem dX7_sumStock_95 : decode cX7_sumStock 95 = .ok (.getfield 131, 3) := by decide +kernel
theorem dX7_sumStock_98 : decode cX7_sumStock 98 = .ok (.if_icmp .ge 23, 3) := by decide +kernel
theorem dX7_sumStock_101 : decode cX7_sumStock 101 = .ok (.lload 4, 2) := by decide +kernel
theorem dX7_sumStock_103 : decode cX7_sumStock 103 = .ok (.aload_n 0, 1) := by decide +kernel
theorem dX7_sumStock_104 : decode cX7_sumStock 104 = .ok (.iload 6, 2) := by decide +kernel
theorem dX7_sumStock_106 : decode cX7_sumStock 106 = .ok (.invokevirtual 206, 3) := by decide +kernel
theorem dX7_sumStock_109 : decode cX7_sumStock 109 = .ok (.i2l, 1) := by decide +kernel
theorem dX7_sumStock_110 : decode cX7_sumStock 110 = .ok (.invokestatic 195, 3) := by decide +kernel
theorem dX7_sumStock_113 : decode cX7_sumStock 113 = .ok (.lstore 4, 2) := by decide +kernel
theorem dX7_sumStock_115 : decode cX7_sumStock 115 = .ok (.iinc 6 1, 3) := by decide +kernel
theorem dX7_sumStock_118 : decode cX7_sumStock 118 = .ok (.goto (-26), 3) := by decide +kernel
theorem dX7_sumStock_121 : decode cX7_sumStock 121 = .ok (.lload 4, 2) := by decide +kernel
theorem dX7_sumStock_123 : decode cX7_sumStock 123 = .ok (.lreturn, 1) := by decide +kernel
set_option maxRecDepth 20000 in
theorem ggX7_sumReel_X7_reel : GoodIn wsX7_sumReel wsX7_reel := goodIn_r _ [5, 6, 7, 8, 9, 10, 11, 12, 13, 14, 15, 16, 17, 18, 19, 20, 21, 22, 23, 24, 25, 26, 41, 42, 43, 44, 45, 46, 47, 48, 49, 50, 51, 52, 53, 54, 55] (by decide +kernel) (by decide +kernel)
set_option maxRecDepth 20000 in
theorem gX7_sumReel_X7_reel : GoodIn wsX7_sumReel (wsV RX7 209 RX7 yX7_reel wsX7_reel) := goodIn_app (goodIn_of _ (by decide +kernel)) ggX7_sumReel_X7_reel
set_option maxRecDepth 20000 in
theorem ggX7_sumReel_X7_mix : GoodIn wsX7_sumReel wsX7_mix := goodIn_r _ [29, 30] (by decide +kernel) (by decide +kernel)
set_option maxRecDepth 20000 in
theorem gX7_sumReel_X7_mix : GoodIn wsX7_sumReel (va_wsS RX7 195 yX7_mix wsX7_mix) := goodIn_app (goodIn_of _ (by decide +kernel)) ggX7_sumReel_X7_mix
set_option maxRecDepth 20000 in
theorem ggX7_sumReel_X7_spliceAt : GoodIn wsX7_sumReel wsX7_spliceAt := goodIn_r _ [34, 6, 7, 8, 35, 36, 12, 13, 14, 15, 16, 17, 18, 37, 38, 39, 22, 40, 25, 41, 42, 43, 44, 45, 46, 47, 48, 49, 50, 51, 52, 53, 54, 55] (by decide +kernel) (by decide +kernel)
set_option maxRecDepth 20000 in
theorem gX7_sumReel_X7_spliceAt : GoodIn wsX7_sumReel (wsV RX7 212 RX7 yX7_spliceAt wsX7_spliceAt) := goodIn_app (goodIn_of _ (by decide +kernel)) ggX7_sumReel_X7_spliceAt
theorem dX7_sumReel_0 : decode cX7_sumReel 0 = .ok (.lload_n 1, 1) := by decide +kernel
theorem dX7_sumReel_1 : decode cX7_sumReel 1 = .ok (.lstore 4, 2) := by decide +kernel
theorem dX7_sumReel_3 : decode cX7_sumReel 3 = .ok (.iconst 0, 1) := by decide +kernel
theorem dX7_sumReel_4 : decode cX7_sumReel 4 = .ok (.istore 6, 2) := by decide +kernel
theorem dX7_sumReel_6 : decode cX7_sumReel 6 = .ok (.iload 6, 2) := by decide +kernel
theorem dX7_sumReel_8 : decode cX7_sumReel 8 = .ok (.iconst 2, 1) := by decide +kernel
theorem dX7_sumReel_9 : decode cX7_sumReel 9 = .ok (.if_icmp .gt 24, 3) := by decide +kernel
theorem dX7_sumReel_12 : decode cX7_sumReel 12 = .ok (.lload 4, 2) := by decide +kernel
theorem dX7_sumReel_14 : decode cX7_sumReel 14 = .ok (.aload_n 0, 1) := by decide +kernel
theorem dX7_sumReel_15 : decode cX7_sumReel 15 = .ok (.iload_n 3, 1) := by decide +kernel
theorem dX7_sumReel_16 : decode cX7_sumReel 16 = .ok (.iload 6, 2) := by decide +kernel
theorem dX7_sumReel_18 : decode cX7_sumReel 18 = .ok (.invokevirtual 209, 3) := by decide +kernel
theorem dX7_sumReel_21 : decode cX7_sumReel 21 = .ok (.i2l, 1) := by decide +kernel
theorem dX7_sumReel_22 : decode cX7_sumReel 22 = .ok (.invokestatic 195, 3) := by decide +kernel
theorem dX7_sumReel_25 : decode cX7_sumReel 25 = .ok (.lstore 4, 2) := by decide +kernel
theorem dX7_sumReel_27 : decode cX7_sumReel 27 = .ok (.iinc 6 1, 3) := by decide +kernel
theorem dX7_sumReel_30 : decode cX7_sumReel 30 = .ok (.goto (-24), 3) := by decide +kernel
theorem dX7_sumReel_33 : decode cX7_sumReel 33 = .ok (.aload_n 0, 1) := by decide +kernel
theorem dX7_sumReel_34 : decode cX7_sumReel 34 = .ok (.iload_n 3, 1) := by decide +kernel
theorem dX7_sumReel_35 : decode cX7_sumReel 35 = .ok (.iconst 1, 1) := by decide +kernel
theorem dX7_sumReel_36 : decode cX7_sumReel 36 = .ok (.invokevirtual 209, 3) := by decide +kernel
theorem dX7_sumReel_39 : decode cX7_sumReel 39 = .ok (.istore 6, 2) := by decide +kernel
theorem dX7_sumReel_41 : decode cX7_sumReel 41 = .ok (.iconst 0, 1) := by decide +kernel
theorem dX7_sumReel_42 : decode cX7_sumReel 42 = .ok (.istore 7, 2) := by decide +kernel
theorem dX7_sumReel_44 : decode cX7_sumReel 44 = .ok (.iload 7, 2) := by decide +kernel
theorem dX7_sumReel_46 : decode cX7_sumReel 46 = .ok (.iload 6, 2) := by decide +kernel
theorem dX7_sumReel_48 : decode cX7_sumReel 48 = .ok (.if_icmp .ge 41, 3) := by decide +kernel
theorem dX7_sumReel_51 : decode cX7_sumReel 51 = .ok (.lload 4, 2) := by decide +kernel
theorem dX7_sumReel_53 : decode cX7_sumReel 53 = .ok (.aload_n 0, 1) := by decide +kernel
theorem dX7_sumReel_54 : decode cX7_sumReel 54 = .ok (.iload_n 3, 1) := by decide +kernel
theorem dX7_sumReel_55 : decode cX7_sumReel 55 = .ok (.iload 7, 2) := by decide +kernel
theorem dX7_sumReel_57 : decode cX7_sumReel 57 = .ok (.iconst 0, 1) := by decide +kernel
theorem dX7_sumReel_58 : decode cX7_sumReel 58 = .ok (.invokevirtual 212, 3) := by decide +kernel
theorem dX7_sumReel_61 : decode cX7_sumReel 61 = .ok (.i2l, 1) := by decide +kernel
theorem dX7_sumReel_62 : decode cX7_sumReel 62 = .ok (.invokestatic 195, 3) := by decide +kernel
theorem dX7_sumReel_65 : decode cX7_sumReel 65 = .ok (.lstore 4, 2) := by decide +kernel
theorem dX7_sumReel_67 : decode cX7_sumReel 67 = .ok (.lload 4, 2) := by decide +kernel
theorem dX7_sumReel_69 : decode cX7_sumReel 69 = .ok (.aload_n 0, 1) := by decide +kernel
theorem dX7_sumReel_70 : decode cX7_sumReel 70 = .ok (.iload_n 3, 1) := by decide +kernel
theorem dX7_sumReel_71 : decode cX7_sumReel 71 = .ok (.iload 7, 2) := by decide +kernel
theorem dX7_sumReel_73 : decode cX7_sumReel 73 = .ok (.iconst 1, 1) := by decide +kernel
theorem dX7_sumReel_74 : decode cX7_sumReel 74 = .ok (.invokevirtual 212, 3) := by decide +kernel
theorem dX7_sumReel_77 : decode cX7_sumReel 77 = .ok (.i2l, 1) := by decide +kernel
theorem dX7_sumReel_78 : decode cX7_sumReel 78 = .ok (.invokestatic 195, 3) := by decide +kernel
theorem dX7_sumReel_81 : decode cX7_sumReel 81 = .ok (.lstore 4, 2) := by decide +kernel
theorem dX7_sumReel_83 : decode cX7_sumReel 83 = .ok (.iinc 7 1, 3) := by decide +kernel
theorem dX7_sumReel_86 : decode cX7_sumReel 86 = .ok (.goto (-42), 3) := by decide +kernel
theorem dX7_sumReel_89 : decode cX7_sumReel 89 = .ok (.lload 4, 2) := by decide +kernel
theorem dX7_sumReel_91 : decode cX7_sumReel 91 = .ok (.lreturn, 1) := by decide +kernel
set_option maxRecDepth 20000 in
theorem ggX7_sumShow_X7_tell : GoodIn wsX7_sumShow wsX7_tell := goodIn_r _ [8, 1, 2, 9, 10, 11, 12, 13, 14, 15, 16, 17, 18, 19, 20, 21, 22, 23, 24, 25, 80, 81, 82, 83, 84, 85, 86, 87, 88, 89, 90, 91, 92, 93, 94, 95, 96, 97, 98, 99, 100, 101, 102, 103] (by decide +kernel) (by decide +kernel)
set_option maxRecDepth 20000 in
theorem gX7_sumShow_X7_tell : GoodIn wsX7_sumShow (wsV RX7 216 RX7 yX7_tell wsX7_tell) := goodIn_app (goodIn_of _ (by decide +kernel)) ggX7_sumShow_X7_tell
set_option maxRecDepth 20000 in
theorem ggX7_sumShow_X7_mix : GoodIn wsX7_sumShow wsX7_mix := goodIn_r _ [28, 29] (by decide +kernel) (by decide +kernel)
set_option maxRecDepth 20000 in
theorem gX7_sumShow_X7_mix : GoodIn wsX7_sumShow (va_wsS RX7 195 yX7_mix wsX7_mix) := goodIn_app (goodIn_of _ (by decide +kernel)) ggX7_sumShow_X7_mix
set_option maxRecDepth 20000 in
theorem ggX7_sumShow_X7_projector : GoodIn wsX7_sumShow wsX7_projector := goodIn_r _ [33, 34, 1, 2, 35, 36, 37, 38, 39, 40, 41, 7, 42, 43, 44, 45, 12, 46, 47, 48, 49, 50, 51, 52, 53, 54, 80, 81, 82, 83, 84, 85, 104, 105, 106, 86, 87, 88, 89, 90, 91, 92, 93, 94, 95, 96, 97] (by decide +kernel) (by decide +kernel)
set_option maxRecDepth 20000 in
theorem gX7_sumShow_X7_projector : GoodIn wsX7_sumShow (wsV RX7 219 RX7 yX7_projector wsX7_projector) := goodIn_app (goodIn_of _ (by decide +kernel)) ggX7_sumShow_X7_projector
set_option maxRecDepth 20000 in
theorem ggX7_sumShow_X0_hasTask : GoodIn wsX7_sumShow wsX0_hasTask := goodIn_r _ [59, 60, 61, 98, 99, 100, 101, 102, 103] (by decide +kernel) (by decide +kernel)
set_option maxRecDepth 20000 in
theorem gX7_sumShow_X0_hasTask : GoodIn wsX7_sumShow (wsV RX7 168 RX0 yX0_hasTask wsX0_hasTask) := goodIn_app (goodIn_of _ (by decide +kernel)) ggX7_sumShow_X0_hasTask
set_option maxRecDepth 20000 in
theorem ggX7_sumShow_X7_task : GoodIn wsX7_sumShow wsX7_task := goodIn_r _ [65, 1, 2, 3, 34, 39, 55, 56, 57, 58, 59, 60, 61, 66, 67, 68, 69, 70, 71, 72, 73, 74, 75, 76, 77, 78, 79, 80, 81, 82, 83, 84, 85, 86, 87, 88, 89, 90, 91, 92, 93, 94, 95, 96, 97, 98, 99, 100, 101, 102, 103] (by decide +kernel) (by decide +kernel)
set_option maxRecDepth 20000 in
theorem gX7_sumShow_X7_task : GoodIn wsX7_sumShow (wsV RX7 222 RX7 yX7_task wsX7_task) := goodIn_app (goodIn_of _ (by decide +kernel)) ggX7_sumShow_X7_task
theorem dX7_sumShow_0 : decode cX7_sumShow 0 = .ok (.lload_n 1, 1) := by decide +kernel
theorem dX7_sumShow_1 : decode cX7_sumShow 1 = .ok (.lstore_n 3, 1) := by decide +kernel
theorem dX7_sumShow_2 : decode cX7_sumShow 2 = .ok (.iconst 0, 1) := by decide +kernel
theorem dX7_sumShow_3 : decode cX7_sumShow 3 = .ok (.istore 5, 2) := by decide +kernel
theorem dX7_sumShow_5 : decode cX7_sumShow 5 = .ok (.iload 5, 2) := by decide +kernel
theorem dX7_sumShow_7 : decode cX7_sumShow 7 = .ok (.bipush 9, 2) := by decide +kernel
theorem dX7_sumShow_9 : decode cX7_sumShow 9 = .ok (.if_icmp .gt 21, 3) := by decide +kernel
theorem dX7_sumShow_12 : decode cX7_sumShow 12 = .ok (.lload_n 3, 1) := by decide +kernel
theorem dX7_sumShow_13 : decode cX7_sumShow 13 = .ok (.aload_n 0, 1) := by decide +kernel
theorem dX7_sumShow_14 : decode cX7_sumShow 14 = .ok (.iload 5, 2) := by decide +kernel
theorem dX7_sumShow_16 : decode cX7_sumShow 16 = .ok (.invokevirtual 216, 3) := by decide +kernel
theorem dX7_sumShow_19 : decode cX7_sumShow 19 = .ok (.i2l, 1) := by decide +kernel
theorem dX7_sumShow_20 : decode cX7_sumShow 20 = .ok (.invokestatic 195, 3) := by decide +kernel
theorem dX7_sumShow_23 : decode cX7_sumShow 23 = .ok (.lstore_n 3, 1) := by decide +kernel
theorem dX7_sumShow_24 : decode cX7_sumShow 24 = .ok (.iinc 5 1, 3) := by decide +kernel
theorem dX7_sumShow_27 : decode cX7_sumShow 27 = .ok (.goto (-22), 3) := by decide +kernel
theorem dX7_sumShow_30 : decode cX7_sumShow 30 = .ok (.iconst 0, 1) := by decide +kernel
theorem dX7_sumShow_31 : decode cX7_sumShow 31 = .ok (.istore 5, 2) := by decide +kernel
theorem dX7_sumShow_33 : decode cX7_sumShow 33 = .ok (.iload 5, 2) := by decide +kernel
theorem dX7_sumShow_35 : decode cX7_sumShow 35 = .ok (.iconst 1, 1) := by decide +kernel
theorem dX7_sumShow_36 : decode cX7_sumShow 36 = .ok (.if_icmp .gt 38, 3) := by decide +kernel
theorem dX7_sumShow_39 : decode cX7_sumShow 39 = .ok (.iconst 0, 1) := by decide +kernel
theorem dX7_sumShow_40 : decode cX7_sumShow 40 = .ok (.istore 6, 2) := by decide +kernel
theorem dX7_sumShow_42 : decode cX7_sumShow 42 = .ok (.iload 6, 2) := by decide +kernel
theorem dX7_sumShow_44 : decode cX7_sumShow 44 = .ok (.iconst 2, 1) := by decide +kernel
theorem dX7_sumShow_45 : decode cX7_sumShow 45 = .ok (.if_icmp .gt 23, 3) := by decide +kernel
theorem dX7_sumShow_48 : decode cX7_sumShow 48 = .ok (.lload_n 3, 1) := by decide +kernel
theorem dX7_sumShow_49 : decode cX7_sumShow 49 = .ok (.aload_n 0, 1) := by decide +kernel
theorem dX7_sumShow_50 : decode cX7_sumShow 50 = .ok (.iload 5, 2) := by decide +kernel
theorem dX7_sumShow_52 : decode cX7_sumShow 52 = .ok (.iload 6, 2) := by decide +kernel
theorem dX7_sumShow_54 : decode cX7_sumShow 54 = .ok (.invokevirtual 219, 3) := by decide +kernel
theorem dX7_sumShow_57 : decode cX7_sumShow 57 = .ok (.i2l, 1) := by decide +kernel
theorem dX7_sumShow_58 : decode cX7_sumShow 58 = .ok (.invokestatic 195, 3) := by decide +kernel
theorem dX7_sumShow_61 : decode cX7_sumShow 61 = .ok (.lstore_n 3, 1) := by decide +kernel
theorem dX7_sumShow_62 : decode cX7_sumShow 62 = .ok (.iinc 6 1, 3) := by decide +kernel
theorem dX7_sumShow_65 : decode cX7_sumShow 65 = .ok (.goto (-23), 3) := by decide +kernel
theorem dX7_sumShow_68 : decode cX7_sumShow 68 = .ok (.iinc 5 1, 3) := by decide +kernel
theorem dX7_sumShow_71 : decode cX7_sumShow 71 = .ok (.goto (-38), 3) := by decide +kernel
theorem dX7_sumShow_74 : decode cX7_sumShow 74 = .ok (.iconst 0, 1) := by decide +kernel
theorem dX7_sumShow_75 : decode cX7_sumShow 75 = .ok (.istore 5, 2) := by decide +kernel
theorem dX7_sumShow_77 : decode cX7_sumShow 77 = .ok (.iload 5, 2) := by decide +kernel
theorem dX7_sumShow_79 : decode cX7_sumShow 79 = .ok (.bipush 8, 2) := by decide +kernel
theorem dX7_sumShow_81 : decode cX7_sumShow 81 = .ok (.if_icmp .gt 53, 3) := by decide +kernel
theorem dX7_sumShow_84 : decode cX7_sumShow 84 = .ok (.aload_n 0, 1) := by decide +kernel
theorem dX7_sumShow_85 : decode cX7_sumShow 85 = .ok (.getfield 10, 3) := by decide +kernel
theorem dX7_sumShow_88 : decode cX7_sumShow 88 = .ok (.getfield 106, 3) := by decide +kernel
theorem dX7_sumShow_91 : decode cX7_sumShow 91 = .ok (.getfield 164, 3) := by decide +kernel
theorem dX7_sumShow_94 : decode cX7_sumShow 94 = .ok (.iload 5, 2) := by decide +kernel
theorem dX7_sumShow_96 : decode cX7_sumShow 96 = .ok (.invokevirtual 168, 3) := by decide +kernel
theorem dX7_sumShow_99 : decode cX7_sumShow 99 = .ok (.ifCond .eq 29, 3) := by decide +kernel
theorem dX7_sumShow_102 : decode cX7_sumShow 102 = .ok (.lload_n 3, 1) := by decide +kernel
theorem dX7_sumShow_103 : decode cX7_sumShow 103 = .ok (.aload_n 0, 1) := by decide +kernel
theorem dX7_sumShow_104 : decode cX7_sumShow 104 = .ok (.iload 5, 2) := by decide +kernel
theorem dX7_sumShow_106 : decode cX7_sumShow 106 = .ok (.iconst 0, 1) := by decide +kernel
theorem dX7_sumShow_107 : decode cX7_sumShow 107 = .ok (.invokevirtual 222, 3) := by decide +kernel
theorem dX7_sumShow_110 : decode cX7_sumShow 110 = .ok (.i2l, 1) := by decide +kernel
theorem dX7_sumShow_111 : decode cX7_sumShow 111 = .ok (.invokestatic 195, 3) := by decide +kernel
theorem dX7_sumShow_114 : decode cX7_sumShow 114 = .ok (.lstore_n 3, 1) := by decide +kernel
theorem dX7_sumShow_115 : decode cX7_sumShow 115 = .ok (.lload_n 3, 1) := by decide +kernel
theorem dX7_sumShow_116 : decode cX7_sumShow 116 = .ok (.aload_n 0, 1) := by decide +kernel
theorem dX7_sumShow_117 : decode cX7_sumShow 117 = .ok (.iload 5, 2) := by decide +kernel
theorem dX7_sumShow_119 : decode cX7_sumShow 119 = .ok (.iconst 1, 1) := by decide +kernel
theorem dX7_sumShow_120 : decode cX7_sumShow 120 = .ok (.invokevirtual 222, 3) := by decide +kernel
theorem dX7_sumShow_123 : decode cX7_sumShow 123 = .ok (.i2l, 1) := by decide +kernel
theorem dX7_sumShow_124 : decode cX7_sumShow 124 = .ok (.invokestatic 195, 3) := by decide +kernel
theorem dX7_sumShow_127 : decode cX7_sumShow 127 = .ok (.lstore_n 3, 1) := by decide +kernel
theorem dX7_sumShow_128 : decode cX7_sumShow 128 = .ok (.iinc 5 1, 3) := by decide +kernel
theorem dX7_sumShow_131 : decode cX7_sumShow 131 = .ok (.goto (-54), 3) := by decide +kernel
theorem dX7_sumShow_134 : decode cX7_sumShow 134 = .ok (.lload_n 3, 1) := by decide +kernel
theorem dX7_sumShow_135 : decode cX7_sumShow 135 = .ok (.lreturn, 1) := by decide +kernel
theorem dX7_foretold_0 : decode cX7_foretold 0 = .ok (.aload_n 0, 1) := by decide +kernel
theorem dX7_foretold_1 : decode cX7_foretold 1 = .ok (.getfield 16, 3) := by decide +kernel
theorem dX7_foretold_4 : decode cX7_foretold 4 = .ok (.getfield 106, 3) := by decide +kernel
theorem dX7_foretold_7 : decode cX7_foretold 7 = .ok (.astore_n 2, 1) := by decide +kernel
theorem dX7_foretold_8 : decode cX7_foretold 8 = .ok (.aload_n 2, 1) := by decide +kernel
theorem dX7_foretold_9 : decode cX7_foretold 9 = .ok (.getfield 110, 3) := by decide +kernel
theorem dX7_foretold_12 : decode cX7_foretold 12 = .ok (.ifCond .eq 6, 3) := by decide +kernel
theorem dX7_foretold_15 : decode cX7_foretold 15 = .ok (.ldc 99, 2) := by decide +kernel
theorem dX7_foretold_17 : decode cX7_foretold 17 = .ok (.ireturn, 1) := by decide +kernel
theorem dX7_foretold_18 : decode cX7_foretold 18 = .ok (.iload_n 1, 1) := by decide +kernel
theorem dX7_foretold_19 : decode cX7_foretold 19 = .ok (.tableswitch 49 0 3 #[29, 34, 39, 44], 29) := by decide +kernel
theorem dX7_foretold_48 : decode cX7_foretold 48 = .ok (.aload_n 2, 1) := by decide +kernel
theorem dX7_foretold_49 : decode cX7_foretold 49 = .ok (.getfield 225, 3) := by decide +kernel
theorem dX7_foretold_52 : decode cX7_foretold 52 = .ok (.ireturn, 1) := by decide +kernel
theorem dX7_foretold_53 : decode cX7_foretold 53 = .ok (.aload_n 2, 1) := by decide +kernel
theorem dX7_foretold_54 : decode cX7_foretold 54 = .ok (.getfield 228, 3) := by decide +kernel
theorem dX7_foretold_57 : decode cX7_foretold 57 = .ok (.ireturn, 1) := by decide +kernel
theorem dX7_foretold_58 : decode cX7_foretold 58 = .ok (.aload_n 2, 1) := by decide +kernel
theorem dX7_foretold_59 : decode cX7_foretold 59 = .ok (.getfield 231, 3) := by decide +kernel
theorem dX7_foretold_62 : decode cX7_foretold 62 = .ok (.ireturn, 1) := by decide +kernel
theorem dX7_foretold_63 : decode cX7_foretold 63 = .ok (.aload_n 2, 1) := by decide +kernel
theorem dX7_foretold_64 : decode cX7_foretold 64 = .ok (.getfield 234, 3) := by decide +kernel
theorem dX7_foretold_67 : decode cX7_foretold 67 = .ok (.ireturn, 1) := by decide +kernel
theorem dX7_foretold_68 : decode cX7_foretold 68 = .ok (.aload_n 2, 1) := by decide +kernel
theorem dX7_foretold_69 : decode cX7_foretold 69 = .ok (.getfield 237, 3) := by decide +kernel
theorem dX7_foretold_72 : decode cX7_foretold 72 = .ok (.ireturn, 1) := by decide +kernel
set_option maxRecDepth 20000 in
theorem ggX7_settingError_X7_isWithin : GoodIn wsX7_settingError wsX7_isWithin := goodIn_r _ [6] (by decide +kernel) (by decide +kernel)
set_option maxRecDepth 20000 in
theorem gX7_settingError_X7_isWithin : GoodIn wsX7_settingError (va_wsS RX7 30 yX7_isWithin wsX7_isWithin) := goodIn_app (goodIn_of _ (by decide +kernel)) ggX7_settingError_X7_isWithin
set_option maxRecDepth 20000 in
theorem ggX7_settingError_X6_isSettingValue : GoodIn wsX7_settingError wsX6_isSettingValue := goodIn_r _ [10, 11, 12] (by decide +kernel) (by decide +kernel)
set_option maxRecDepth 20000 in
theorem gX7_settingError_X6_isSettingValue : GoodIn wsX7_settingError (va_wsS RX7 240 yX6_isSettingValue wsX6_isSettingValue) := goodIn_app (goodIn_of _ (by decide +kernel)) ggX7_settingError_X6_isSettingValue
theorem dX7_settingError_0 : decode cX7_settingError 0 = .ok (.iload_n 0, 1) := by decide +kernel
theorem dX7_settingError_1 : decode cX7_settingError 1 = .ok (.iconst 0, 1) := by decide +kernel
theorem dX7_settingError_2 : decode cX7_settingError 2 = .ok (.bipush 7, 2) := by decide +kernel
theorem dX7_settingError_4 : decode cX7_settingError 4 = .ok (.invokestatic 30, 3) := by decide +kernel
theorem dX7_settingError_7 : decode cX7_settingError 7 = .ok (.ifCond .ne 6, 3) := by decide +kernel
theorem dX7_settingError_10 : decode cX7_settingError 10 = .ok (.ldc 49, 2) := by decide +kernel
theorem dX7_settingError_12 : decode cX7_settingError 12 = .ok (.ireturn, 1) := by decide +kernel
theorem dX7_settingError_13 : decode cX7_settingError 13 = .ok (.iload_n 0, 1) := by decide +kernel
theorem dX7_settingError_14 : decode cX7_settingError 14 = .ok (.iload_n 1, 1) := by decide +kernel
theorem dX7_settingError_15 : decode cX7_settingError 15 = .ok (.invokestatic 240, 3) := by decide +kernel
theorem dX7_settingError_18 : decode cX7_settingError 18 = .ok (.ifCond .eq 7, 3) := by decide +kernel
theorem dX7_settingError_21 : decode cX7_settingError 21 = .ok (.iconst 0, 1) := by decide +kernel
theorem dX7_settingError_22 : decode cX7_settingError 22 = .ok (.goto 5, 3) := by decide +kernel
theorem dX7_settingError_25 : decode cX7_settingError 25 = .ok (.ldc 34, 2) := by decide +kernel
theorem dX7_settingError_27 : decode cX7_settingError 27 = .ok (.ireturn, 1) := by decide +kernel
theorem dX7_mix_0 : decode cX7_mix 0 = .ok (.ldc2_w 244, 3) := by decide +kernel
theorem dX7_mix_3 : decode cX7_mix 3 = .ok (.lload_n 0, 1) := by decide +kernel
theorem dX7_mix_4 : decode cX7_mix 4 = .ok (.lmul, 1) := by decide +kernel
theorem dX7_mix_5 : decode cX7_mix 5 = .ok (.lload_n 2, 1) := by decide +kernel
theorem dX7_mix_6 : decode cX7_mix 6 = .ok (.ladd, 1) := by decide +kernel
theorem dX7_mix_7 : decode cX7_mix 7 = .ok (.lreturn, 1) := by decide +kernel
theorem dX7_isWithin_0 : decode cX7_isWithin 0 = .ok (.iload_n 0, 1) := by decide +kernel
theorem dX7_isWithin_1 : decode cX7_isWithin 1 = .ok (.iload_n 1, 1) := by decide +kernel
theorem dX7_isWithin_2 : decode cX7_isWithin 2 = .ok (.if_icmp .lt 12, 3) := by decide +kernel
theorem dX7_isWithin_5 : decode cX7_isWithin 5 = .ok (.iload_n 0, 1) := by decide +kernel
theorem dX7_isWithin_6 : decode cX7_isWithin 6 = .ok (.iload_n 2, 1) := by decide +kernel
theorem dX7_isWithin_7 : decode cX7_isWithin 7 = .ok (.if_icmp .gt 7, 3) := by decide +kernel
theorem dX7_isWithin_10 : decode cX7_isWithin 10 = .ok (.iconst 1, 1) := by decide +kernel
theorem dX7_isWithin_11 : decode cX7_isWithin 11 = .ok (.goto 4, 3) := by decide +kernel
theorem dX7_isWithin_14 : decode cX7_isWithin 14 = .ok (.iconst 0, 1) := by decide +kernel
theorem dX7_isWithin_15 : decode cX7_isWithin 15 = .ok (.ireturn, 1) := by decide +kernel
