theorem dX0_init_0 : decode cX0_init 0 = .ok (.aload_n 0, 1) := by decide +kernel
theorem dX0_init_1 : decode cX0_init 1 = .ok (.invokespecial 3, 3) := by decide +kernel
theorem dX0_init_4 : decode cX0_init 4 = .ok (.aload_n 0, 1) := by decide +kernel
theorem dX0_init_5 : decode cX0_init 5 = .ok (.bipush 8, 2) := by decide +kernel
theorem dX0_init_7 : decode cX0_init 7 = .ok (.newarray .int, 2) := by decide +kernel
theorem dX0_init_9 : decode cX0_init 9 = .ok (.putfield 11, 3) := by decide +kernel
theorem dX0_init_12 : decode cX0_init 12 = .ok (.aload_n 0, 1) := by decide +kernel
theorem dX0_init_13 : decode cX0_init 13 = .ok (.bipush 8, 2) := by decide +kernel
theorem dX0_init_15 : decode cX0_init 15 = .ok (.newarray .int, 2) := by decide +kernel
theorem dX0_init_17 : decode cX0_init 17 = .ok (.putfield 15, 3) := by decide +kernel
theorem dX0_init_20 : decode cX0_init 20 = .ok (.return_, 1) := by decide +kernel
theorem dX0_copyFrom_0 : decode cX0_copyFrom 0 = .ok (.aload_n 0, 1) := by decide +kernel
theorem dX0_copyFrom_1 : decode cX0_copyFrom 1 = .ok (.aload_n 1, 1) := by decide +kernel
theorem dX0_copyFrom_2 : decode cX0_copyFrom 2 = .ok (.getfield 18, 3) := by decide +kernel
theorem dX0_copyFrom_5 : decode cX0_copyFrom 5 = .ok (.putfield 18, 3) := by decide +kernel
theorem dX0_copyFrom_8 : decode cX0_copyFrom 8 = .ok (.aload_n 0, 1) := by decide +kernel
theorem dX0_copyFrom_9 : decode cX0_copyFrom 9 = .ok (.aload_n 1, 1) := by decide +kernel
theorem dX0_copyFrom_10 : decode cX0_copyFrom 10 = .ok (.getfield 22, 3) := by decide +kernel
theorem dX0_copyFrom_13 : decode cX0_copyFrom 13 = .ok (.putfield 22, 3) := by decide +kernel
theorem dX0_copyFrom_16 : decode cX0_copyFrom 16 = .ok (.aload_n 0, 1) := by decide +kernel
theorem dX0_copyFrom_17 : decode cX0_copyFrom 17 = .ok (.aload_n 1, 1) := by decide +kernel
theorem dX0_copyFrom_18 : decode cX0_copyFrom 18 = .ok (.getfield 25, 3) := by decide +kernel
theorem dX0_copyFrom_21 : decode cX0_copyFrom 21 = .ok (.putfield 25, 3) := by decide +kernel
theorem dX0_copyFrom_24 : decode cX0_copyFrom 24 = .ok (.aload_n 0, 1) := by decide +kernel
theorem dX0_copyFrom_25 : decode cX0_copyFrom 25 = .ok (.aload_n 1, 1) := by decide +kernel
theorem dX0_copyFrom_26 : decode cX0_copyFrom 26 = .ok (.getfield 28, 3) := by decide +kernel
theorem dX0_copyFrom_29 : decode cX0_copyFrom 29 = .ok (.putfield 28, 3) := by decide +kernel
theorem dX0_copyFrom_32 : decode cX0_copyFrom 32 = .ok (.aload_n 1, 1) := by decide +kernel
theorem dX0_copyFrom_33 : decode cX0_copyFrom 33 = .ok (.getfield 11, 3) := by decide +kernel
theorem dX0_copyFrom_36 : decode cX0_copyFrom 36 = .ok (.iconst 0, 1) := by decide +kernel
theorem dX0_copyFrom_37 : decode cX0_copyFrom 37 = .ok (.aload_n 0, 1) := by decide +kernel
theorem dX0_copyFrom_38 : decode cX0_copyFrom 38 = .ok (.getfield 11, 3) := by decide +kernel
theorem dX0_copyFrom_41 : decode cX0_copyFrom 41 = .ok (.iconst 0, 1) := by decide +kernel
theorem dX0_copyFrom_42 : decode cX0_copyFrom 42 = .ok (.bipush 8, 2) := by decide +kernel
theorem dX0_copyFrom_44 : decode cX0_copyFrom 44 = .ok (.invokestatic 31, 3) := by decide +kernel
theorem dX0_copyFrom_47 : decode cX0_copyFrom 47 = .ok (.aload_n 1, 1) := by decide +kernel
theorem dX0_copyFrom_48 : decode cX0_copyFrom 48 = .ok (.getfield 15, 3) := by decide +kernel
theorem dX0_copyFrom_51 : decode cX0_copyFrom 51 = .ok (.iconst 0, 1) := by decide +kernel
theorem dX0_copyFrom_52 : decode cX0_copyFrom 52 = .ok (.aload_n 0, 1) := by decide +kernel
theorem dX0_copyFrom_53 : decode cX0_copyFrom 53 = .ok (.getfield 15, 3) := by decide +kernel
theorem dX0_copyFrom_56 : decode cX0_copyFrom 56 = .ok (.iconst 0, 1) := by decide +kernel
theorem dX0_copyFrom_57 : decode cX0_copyFrom 57 = .ok (.bipush 8, 2) := by decide +kernel
theorem dX0_copyFrom_59 : decode cX0_copyFrom 59 = .ok (.invokestatic 31, 3) := by decide +kernel
theorem dX0_copyFrom_62 : decode cX0_copyFrom 62 = .ok (.return_, 1) := by decide +kernel
theorem dX0_dropAll_0 : decode cX0_dropAll 0 = .ok (.aload_n 0, 1) := by decide +kernel
theorem dX0_dropAll_1 : decode cX0_dropAll 1 = .ok (.iconst 0, 1) := by decide +kernel
theorem dX0_dropAll_2 : decode cX0_dropAll 2 = .ok (.putfield 18, 3) := by decide +kernel
theorem dX0_dropAll_5 : decode cX0_dropAll 5 = .ok (.aload_n 0, 1) := by decide +kernel
theorem dX0_dropAll_6 : decode cX0_dropAll 6 = .ok (.iconst 0, 1) := by decide +kernel
theorem dX0_dropAll_7 : decode cX0_dropAll 7 = .ok (.putfield 22, 3) := by decide +kernel
theorem dX0_dropAll_10 : decode cX0_dropAll 10 = .ok (.return_, 1) := by decide +kernel
theorem dX0_isWorking_0 : decode cX0_isWorking 0 = .ok (.aload_n 0, 1) := by decide +kernel
theorem dX0_isWorking_1 : decode cX0_isWorking 1 = .ok (.getfield 18, 3) := by decide +kernel
theorem dX0_isWorking_4 : decode cX0_isWorking 4 = .ok (.ifCond .le 7, 3) := by decide +kernel
theorem dX0_isWorking_7 : decode cX0_isWorking 7 = .ok (.iconst 1, 1) := by decide +kernel
theorem dX0_isWorking_8 : decode cX0_isWorking 8 = .ok (.goto 4, 3) := by decide +kernel
theorem dX0_isWorking_11 : decode cX0_isWorking 11 = .ok (.iconst 0, 1) := by decide +kernel
theorem dX0_isWorking_12 : decode cX0_isWorking 12 = .ok (.ireturn, 1) := by decide +kernel
theorem dX0_hasTask_0 : decode cX0_hasTask 0 = .ok (.iload_n 1, 1) := by decide +kernel
theorem dX0_hasTask_1 : decode cX0_hasTask 1 = .ok (.ifCond .ne 18, 3) := by decide +kernel
theorem dX0_hasTask_4 : decode cX0_hasTask 4 = .ok (.aload_n 0, 1) := by decide +kernel
theorem dX0_hasTask_5 : decode cX0_hasTask 5 = .ok (.getfield 18, 3) := by decide +kernel
theorem dX0_hasTask_8 : decode cX0_hasTask 8 = .ok (.ifCond .le 7, 3) := by decide +kernel
theorem dX0_hasTask_11 : decode cX0_hasTask 11 = .ok (.iconst 1, 1) := by decide +kernel
theorem dX0_hasTask_12 : decode cX0_hasTask 12 = .ok (.goto 30, 3) := by decide +kernel
theorem dX0_hasTask_15 : decode cX0_hasTask 15 = .ok (.iconst 0, 1) := by decide +kernel
theorem dX0_hasTask_16 : decode cX0_hasTask 16 = .ok (.goto 26, 3) := by decide +kernel
theorem dX0_hasTask_19 : decode cX0_hasTask 19 = .ok (.iload_n 1, 1) := by decide +kernel
theorem dX0_hasTask_20 : decode cX0_hasTask 20 = .ok (.ifCond .le 21, 3) := by decide +kernel
theorem dX0_hasTask_23 : decode cX0_hasTask 23 = .ok (.iload_n 1, 1) := by decide +kernel
theorem dX0_hasTask_24 : decode cX0_hasTask 24 = .ok (.aload_n 0, 1) := by decide +kernel
theorem dX0_hasTask_25 : decode cX0_hasTask 25 = .ok (.getfield 22, 3) := by decide +kernel
theorem dX0_hasTask_28 : decode cX0_hasTask 28 = .ok (.if_icmp .gt 13, 3) := by decide +kernel
theorem dX0_hasTask_31 : decode cX0_hasTask 31 = .ok (.iload_n 1, 1) := by decide +kernel
theorem dX0_hasTask_32 : decode cX0_hasTask 32 = .ok (.bipush 8, 2) := by decide +kernel
theorem dX0_hasTask_34 : decode cX0_hasTask 34 = .ok (.if_icmp .gt 7, 3) := by decide +kernel
theorem dX0_hasTask_37 : decode cX0_hasTask 37 = .ok (.iconst 1, 1) := by decide +kernel
theorem dX0_hasTask_38 : decode cX0_hasTask 38 = .ok (.goto 4, 3) := by decide +kernel
theorem dX0_hasTask_41 : decode cX0_hasTask 41 = .ok (.iconst 0, 1) := by decide +kernel
theorem dX0_hasTask_42 : decode cX0_hasTask 42 = .ok (.ireturn, 1) := by decide +kernel
set_option maxRecDepth 20000 in
theorem ggX0_kindOf_X0_hasTask : GoodIn wsX0_kindOf wsX0_hasTask := goodIn_r _ [8, 9, 10, 11, 12, 13, 14, 15, 16] (by decide +kernel) (by decide +kernel)
set_option maxRecDepth 20000 in
theorem gX0_kindOf_X0_hasTask : GoodIn wsX0_kindOf (wsV RX0 37 RX0 yX0_hasTask wsX0_hasTask) := goodIn_app (goodIn_of _ (by decide +kernel)) ggX0_kindOf_X0_hasTask
theorem dX0_kindOf_0 : decode cX0_kindOf 0 = .ok (.aload_n 0, 1) := by decide +kernel
theorem dX0_kindOf_1 : decode cX0_kindOf 1 = .ok (.iload_n 1, 1) := by decide +kernel
theorem dX0_kindOf_2 : decode cX0_kindOf 2 = .ok (.invokevirtual 37, 3) := by decide +kernel
theorem dX0_kindOf_5 : decode cX0_kindOf 5 = .ok (.ifCond .ne 6, 3) := by decide +kernel
theorem dX0_kindOf_8 : decode cX0_kindOf 8 = .ok (.ldc 41, 2) := by decide +kernel
theorem dX0_kindOf_10 : decode cX0_kindOf 10 = .ok (.ireturn, 1) := by decide +kernel
theorem dX0_kindOf_11 : decode cX0_kindOf 11 = .ok (.iload_n 1, 1) := by decide +kernel
theorem dX0_kindOf_12 : decode cX0_kindOf 12 = .ok (.ifCond .ne 10, 3) := by decide +kernel
theorem dX0_kindOf_15 : decode cX0_kindOf 15 = .ok (.aload_n 0, 1) := by decide +kernel
theorem dX0_kindOf_16 : decode cX0_kindOf 16 = .ok (.getfield 25, 3) := by decide +kernel
theorem dX0_kindOf_19 : decode cX0_kindOf 19 = .ok (.goto 11, 3) := by decide +kernel
theorem dX0_kindOf_22 : decode cX0_kindOf 22 = .ok (.aload_n 0, 1) := by decide +kernel
theorem dX0_kindOf_23 : decode cX0_kindOf 23 = .ok (.getfield 11, 3) := by decide +kernel
theorem dX0_kindOf_26 : decode cX0_kindOf 26 = .ok (.iload_n 1, 1) := by decide +kernel
theorem dX0_kindOf_27 : decode cX0_kindOf 27 = .ok (.iconst 1, 1) := by decide +kernel
theorem dX0_kindOf_28 : decode cX0_kindOf 28 = .ok (.isub, 1) := by decide +kernel
theorem dX0_kindOf_29 : decode cX0_kindOf 29 = .ok (.iaload, 1) := by decide +kernel
theorem dX0_kindOf_30 : decode cX0_kindOf 30 = .ok (.ireturn, 1) := by decide +kernel
set_option maxRecDepth 20000 in
theorem ggX0_projectorOf_X0_hasTask : GoodIn wsX0_projectorOf wsX0_hasTask := goodIn_r _ [8, 9, 10, 11, 12, 13, 14, 15, 16] (by decide +kernel) (by decide +kernel)
set_option maxRecDepth 20000 in
theorem gX0_projectorOf_X0_hasTask : GoodIn wsX0_projectorOf (wsV RX0 37 RX0 yX0_hasTask wsX0_hasTask) := goodIn_app (goodIn_of _ (by decide +kernel)) ggX0_projectorOf_X0_hasTask
theorem dX0_projectorOf_0 : decode cX0_projectorOf 0 = .ok (.aload_n 0, 1) := by decide +kernel
theorem dX0_projectorOf_1 : decode cX0_projectorOf 1 = .ok (.iload_n 1, 1) := by decide +kernel
theorem dX0_projectorOf_2 : decode cX0_projectorOf 2 = .ok (.invokevirtual 37, 3) := by decide +kernel
theorem dX0_projectorOf_5 : decode cX0_projectorOf 5 = .ok (.ifCond .ne 6, 3) := by decide +kernel
theorem dX0_projectorOf_8 : decode cX0_projectorOf 8 = .ok (.ldc 41, 2) := by decide +kernel
theorem dX0_projectorOf_10 : decode cX0_projectorOf 10 = .ok (.ireturn, 1) := by decide +kernel
theorem dX0_projectorOf_11 : decode cX0_projectorOf 11 = .ok (.iload_n 1, 1) := by decide +kernel
theorem dX0_projectorOf_12 : decode cX0_projectorOf 12 = .ok (.ifCond .ne 10, 3) := by decide +kernel
theorem dX0_projectorOf_15 : decode cX0_projectorOf 15 = .ok (.aload_n 0, 1) := by decide +kernel
theorem dX0_projectorOf_16 : decode cX0_projectorOf 16 = .ok (.getfield 28, 3) := by decide +kernel
theorem dX0_projectorOf_19 : decode cX0_projectorOf 19 = .ok (.goto 11, 3) := by decide +kernel
theorem dX0_projectorOf_22 : decode cX0_projectorOf 22 = .ok (.aload_n 0, 1) := by decide +kernel
theorem dX0_projectorOf_23 : decode cX0_projectorOf 23 = .ok (.getfield 15, 3) := by decide +kernel
theorem dX0_projectorOf_26 : decode cX0_projectorOf 26 = .ok (.iload_n 1, 1) := by decide +kernel
theorem dX0_projectorOf_27 : decode cX0_projectorOf 27 = .ok (.iconst 1, 1) := by decide +kernel
theorem dX0_projectorOf_28 : decode cX0_projectorOf 28 = .ok (.isub, 1) := by decide +kernel
theorem dX0_projectorOf_29 : decode cX0_projectorOf 29 = .ok (.iaload, 1) := by decide +kernel
theorem dX0_projectorOf_30 : decode cX0_projectorOf 30 = .ok (.ireturn, 1) := by decide +kernel
set_option maxRecDepth 20000 in
theorem ggX0_threadTasks_X0_kindOf : GoodIn wsX0_threadTasks wsX0_kindOf := goodIn_r _ [5, 6, 7, 8, 9, 10, 11, 4, 12, 13, 14, 15, 16, 17, 18, 19, 20] (by decide +kernel) (by decide +kernel)
set_option maxRecDepth 20000 in
theorem gX0_threadTasks_X0_kindOf : GoodIn wsX0_threadTasks (wsV RX0 42 RX0 yX0_kindOf wsX0_kindOf) := goodIn_app (goodIn_of _ (by decide +kernel)) ggX0_threadTasks_X0_kindOf
theorem dX0_threadTasks_0 : decode cX0_threadTasks 0 = .ok (.iconst 0, 1) := by decide +kernel
theorem dX0_threadTasks_1 : decode cX0_threadTasks 1 = .ok (.istore_n 1, 1) := by decide +kernel
theorem dX0_threadTasks_2 : decode cX0_threadTasks 2 = .ok (.iconst 0, 1) := by decide +kernel
theorem dX0_threadTasks_3 : decode cX0_threadTasks 3 = .ok (.istore_n 2, 1) := by decide +kernel
theorem dX0_threadTasks_4 : decode cX0_threadTasks 4 = .ok (.iload_n 2, 1) := by decide +kernel
theorem dX0_threadTasks_5 : decode cX0_threadTasks 5 = .ok (.bipush 8, 2) := by decide +kernel
theorem dX0_threadTasks_7 : decode cX0_threadTasks 7 = .ok (.if_icmp .gt 21, 3) := by decide +kernel
theorem dX0_threadTasks_10 : decode cX0_threadTasks 10 = .ok (.aload_n 0, 1) := by decide +kernel
theorem dX0_threadTasks_11 : decode cX0_threadTasks 11 = .ok (.iload_n 2, 1) := by decide +kernel
theorem dX0_threadTasks_12 : decode cX0_threadTasks 12 = .ok (.invokevirtual 42, 3) := by decide +kernel
theorem dX0_threadTasks_15 : decode cX0_threadTasks 15 = .ok (.iconst 1, 1) := by decide +kernel
theorem dX0_threadTasks_16 : decode cX0_threadTasks 16 = .ok (.if_icmp .ne 6, 3) := by decide +kernel
theorem dX0_threadTasks_19 : decode cX0_threadTasks 19 = .ok (.iinc 1 1, 3) := by decide +kernel
theorem dX0_threadTasks_22 : decode cX0_threadTasks 22 = .ok (.iinc 2 1, 3) := by decide +kernel
theorem dX0_threadTasks_25 : decode cX0_threadTasks 25 = .ok (.goto (-21), 3) := by decide +kernel
theorem dX0_threadTasks_28 : decode cX0_threadTasks 28 = .ok (.iload_n 1, 1) := by decide +kernel
theorem dX0_threadTasks_29 : decode cX0_threadTasks 29 = .ok (.ireturn, 1) := by decide +kernel
theorem dX0_addLast_0 : decode cX0_addLast 0 = .ok (.aload_n 0, 1) := by decide +kernel
theorem dX0_addLast_1 : decode cX0_addLast 1 = .ok (.getfield 22, 3) := by decide +kernel
theorem dX0_addLast_4 : decode cX0_addLast 4 = .ok (.bipush 8, 2) := by decide +kernel
theorem dX0_addLast_6 : decode cX0_addLast 6 = .ok (.if_icmp .ge 33, 3) := by decide +kernel
theorem dX0_addLast_9 : decode cX0_addLast 9 = .ok (.aload_n 0, 1) := by decide +kernel
theorem dX0_addLast_10 : decode cX0_addLast 10 = .ok (.getfield 11, 3) := by decide +kernel
theorem dX0_addLast_13 : decode cX0_addLast 13 = .ok (.aload_n 0, 1) := by decide +kernel
theorem dX0_addLast_14 : decode cX0_addLast 14 = .ok (.getfield 22, 3) := by decide +kernel
theorem dX0_addLast_17 : decode cX0_addLast 17 = .ok (.iload_n 1, 1) := by decide +kernel
theorem dX0_addLast_18 : decode cX0_addLast 18 = .ok (.iastore, 1) := by decide +kernel
theorem dX0_addLast_19 : decode cX0_addLast 19 = .ok (.aload_n 0, 1) := by decide +kernel
theorem dX0_addLast_20 : decode cX0_addLast 20 = .ok (.getfield 15, 3) := by decide +kernel
theorem dX0_addLast_23 : decode cX0_addLast 23 = .ok (.aload_n 0, 1) := by decide +kernel
theorem dX0_addLast_24 : decode cX0_addLast 24 = .ok (.getfield 22, 3) := by decide +kernel
theorem dX0_addLast_27 : decode cX0_addLast 27 = .ok (.iload_n 2, 1) := by decide +kernel
theorem dX0_addLast_28 : decode cX0_addLast 28 = .ok (.iastore, 1) := by decide +kernel
theorem dX0_addLast_29 : decode cX0_addLast 29 = .ok (.aload_n 0, 1) := by decide +kernel
theorem dX0_addLast_30 : decode cX0_addLast 30 = .ok (.dup, 1) := by decide +kernel
theorem dX0_addLast_31 : decode cX0_addLast 31 = .ok (.getfield 22, 3) := by decide +kernel
theorem dX0_addLast_34 : decode cX0_addLast 34 = .ok (.iconst 1, 1) := by decide +kernel
theorem dX0_addLast_35 : decode cX0_addLast 35 = .ok (.iadd, 1) := by decide +kernel
theorem dX0_addLast_36 : decode cX0_addLast 36 = .ok (.putfield 22, 3) := by decide +kernel
theorem dX0_addLast_39 : decode cX0_addLast 39 = .ok (.return_, 1) := by decide +kernel
theorem dX0_addFirst_0 : decode cX0_addFirst 0 = .ok (.aload_n 0, 1) := by decide +kernel
theorem dX0_addFirst_1 : decode cX0_addFirst 1 = .ok (.getfield 22, 3) := by decide +kernel
theorem dX0_addFirst_4 : decode cX0_addFirst 4 = .ok (.bipush 8, 2) := by decide +kernel
theorem dX0_addFirst_6 : decode cX0_addFirst 6 = .ok (.if_icmp .ge 61, 3) := by decide +kernel
theorem dX0_addFirst_9 : decode cX0_addFirst 9 = .ok (.aload_n 0, 1) := by decide +kernel
theorem dX0_addFirst_10 : decode cX0_addFirst 10 = .ok (.getfield 11, 3) := by decide +kernel
theorem dX0_addFirst_13 : decode cX0_addFirst 13 = .ok (.iconst 0, 1) := by decide +kernel
theorem dX0_addFirst_14 : decode cX0_addFirst 14 = .ok (.aload_n 0, 1) := by decide +kernel
theorem dX0_addFirst_15 : decode cX0_addFirst 15 = .ok (.getfield 11, 3) := by decide +kernel
theorem dX0_addFirst_18 : decode cX0_addFirst 18 = .ok (.iconst 1, 1) := by decide +kernel
theorem dX0_addFirst_19 : decode cX0_addFirst 19 = .ok (.aload_n 0, 1) := by decide +kernel
theorem dX0_addFirst_20 : decode cX0_addFirst 20 = .ok (.getfield 22, 3) := by decide +kernel
theorem dX0_addFirst_23 : decode cX0_addFirst 23 = .ok (.invokestatic 31, 3) := by decide +kernel
theorem dX0_addFirst_26 : decode cX0_addFirst 26 = .ok (.aload_n 0, 1) := by decide +kernel
theorem dX0_addFirst_27 : decode cX0_addFirst 27 = .ok (.getfield 15, 3) := by decide +kernel
theorem dX0_addFirst_30 : decode cX0_addFirst 30 = .ok (.iconst 0, 1) := by decide +kernel
theorem dX0_addFirst_31 : decode cX0_addFirst 31 = .ok (.aload_n 0, 1) := by decide +kernel
theorem dX0_addFirst_32 : decode cX0_addFirst 32 = .ok (.getfield 15, 3) := by decide +kernel
theorem dX0_addFirst_35 : decode cX0_addFirst 35 = .ok (.iconst 1, 1) := by decide +kernel
theorem dX0_addFirst_36 : decode cX0_addFirst 36 = .ok (.aload_n 0, 1) := by decide +kernel
theorem dX0_addFirst_37 : decode cX0_addFirst 37 = .ok (.getfield 22, 3) := by decide +kernel
theorem dX0_addFirst_40 : decode cX0_addFirst 40 = .ok (.invokestatic 31, 3) := by decide +kernel
theorem dX0_addFirst_43 : decode cX0_addFirst 43 = .ok (.aload_n 0, 1) := by decide +kernel
theorem dX0_addFirst_44 : decode cX0_addFirst 44 = .ok (.getfield 11, 3) := by decide +kernel
theorem dX0_addFirst_47 : decode cX0_addFirst 47 = .ok (.iconst 0, 1) := by decide +kernel
theorem dX0_addFirst_48 : decode cX0_addFirst 48 = .ok (.iload_n 1, 1) := by decide +kernel
theorem dX0_addFirst_49 : decode cX0_addFirst 49 = .ok (.iastore, 1) := by decide +kernel
theorem dX0_addFirst_50 : decode cX0_addFirst 50 = .ok (.aload_n 0, 1) := by decide +kernel
theorem dX0_addFirst_51 : decode cX0_addFirst 51 = .ok (.getfield 15, 3) := by decide +kernel
theorem dX0_addFirst_54 : decode cX0_addFirst 54 = .ok (.iconst 0, 1) := by decide +kernel
theorem dX0_addFirst_55 : decode cX0_addFirst 55 = .ok (.iload_n 2, 1) := by decide +kernel
theorem dX0_addFirst_56 : decode cX0_addFirst 56 = .ok (.iastore, 1) := by decide +kernel
theorem dX0_addFirst_57 : decode cX0_addFirst 57 = .ok (.aload_n 0, 1) := by decide +kernel
theorem dX0_addFirst_58 : decode cX0_addFirst 58 = .ok (.dup, 1) := by decide +kernel
theorem dX0_addFirst_59 : decode cX0_addFirst 59 = .ok (.getfield 22, 3) := by decide +kernel
theorem dX0_addFirst_62 : decode cX0_addFirst 62 = .ok (.iconst 1, 1) := by decide +kernel
theorem dX0_addFirst_63 : decode cX0_addFirst 63 = .ok (.iadd, 1) := by decide +kernel
theorem dX0_addFirst_64 : decode cX0_addFirst 64 = .ok (.putfield 22, 3) := by decide +kernel
theorem dX0_addFirst_67 : decode cX0_addFirst 67 = .ok (.return_, 1) := by decide +kernel
theorem dX0_takeUp_0 : decode cX0_takeUp 0 = .ok (.aload_n 0, 1) := by decide +kernel
theorem dX0_takeUp_1 : decode cX0_takeUp 1 = .ok (.getfield 22, 3) := by decide +kernel
theorem dX0_takeUp_4 : decode cX0_takeUp 4 = .ok (.ifCond .le 72, 3) := by decide +kernel
theorem dX0_takeUp_7 : decode cX0_takeUp 7 = .ok (.aload_n 0, 1) := by decide +kernel
theorem dX0_takeUp_8 : decode cX0_takeUp 8 = .ok (.aload_n 0, 1) := by decide +kernel
theorem dX0_takeUp_9 : decode cX0_takeUp 9 = .ok (.getfield 11, 3) := by decide +kernel
theorem dX0_takeUp_12 : decode cX0_takeUp 12 = .ok (.iconst 0, 1) := by decide +kernel
theorem dX0_takeUp_13 : decode cX0_takeUp 13 = .ok (.iaload, 1) := by decide +kernel
theorem dX0_takeUp_14 : decode cX0_takeUp 14 = .ok (.putfield 25, 3) := by decide +kernel
theorem dX0_takeUp_17 : decode cX0_takeUp 17 = .ok (.aload_n 0, 1) := by decide +kernel
theorem dX0_takeUp_18 : decode cX0_takeUp 18 = .ok (.aload_n 0, 1) := by decide +kernel
theorem dX0_takeUp_19 : decode cX0_takeUp 19 = .ok (.getfield 15, 3) := by decide +kernel
theorem dX0_takeUp_22 : decode cX0_takeUp 22 = .ok (.iconst 0, 1) := by decide +kernel
theorem dX0_takeUp_23 : decode cX0_takeUp 23 = .ok (.iaload, 1) := by decide +kernel
theorem dX0_takeUp_24 : decode cX0_takeUp 24 = .ok (.putfield 28, 3) := by decide +kernel
theorem dX0_takeUp_27 : decode cX0_takeUp 27 = .ok (.aload_n 0, 1) := by decide +kernel
theorem dX0_takeUp_28 : decode cX0_takeUp 28 = .ok (.iload_n 1, 1) := by decide +kernel
theorem dX0_takeUp_29 : decode cX0_takeUp 29 = .ok (.putfield 18, 3) := by decide +kernel
theorem dX0_takeUp_32 : decode cX0_takeUp 32 = .ok (.aload_n 0, 1) := by decide +kernel
theorem dX0_takeUp_33 : decode cX0_takeUp 33 = .ok (.dup, 1) := by decide +kernel
theorem dX0_takeUp_34 : decode cX0_takeUp 34 = .ok (.getfield 22, 3) := by decide +kernel
theorem dX0_takeUp_37 : decode cX0_takeUp 37 = .ok (.iconst 1, 1) := by decide +kernel
theorem dX0_takeUp_38 : decode cX0_takeUp 38 = .ok (.isub, 1) := by decide +kernel
theorem dX0_takeUp_39 : decode cX0_takeUp 39 = .ok (.putfield 22, 3) := by decide +kernel
theorem dX0_takeUp_42 : decode cX0_takeUp 42 = .ok (.aload_n 0, 1) := by decide +kernel
theorem dX0_takeUp_43 : decode cX0_takeUp 43 = .ok (.getfield 11, 3) := by decide +kernel
theorem dX0_takeUp_46 : decode cX0_takeUp 46 = .ok (.iconst 1, 1) := by decide +kernel
theorem dX0_takeUp_47 : decode cX0_takeUp 47 = .ok (.aload_n 0, 1) := by decide +kernel
theorem dX0_takeUp_48 : decode cX0_takeUp 48 = .ok (.getfield 11, 3) := by decide +kernel
theorem dX0_takeUp_51 : decode cX0_takeUp 51 = .ok (.iconst 0, 1) := by decide +kernel
theorem dX0_takeUp_52 : decode cX0_takeUp 52 = .ok (.aload_n 0, 1) := by decide +kernel
theorem dX0_takeUp_53 : decode cX0_takeUp 53 = .ok (.getfield 22, 3) := by decide +kernel
theorem dX0_takeUp_56 : decode cX0_takeUp 56 = .ok (.invokestatic 31, 3) := by decide +kernel
theorem dX0_takeUp_59 : decode cX0_takeUp 59 = .ok (.aload_n 0, 1) := by decide +kernel
theorem dX0_takeUp_60 : decode cX0_takeUp 60 = .ok (.getfield 15, 3) := by decide +kernel
theorem dX0_takeUp_63 : decode cX0_takeUp 63 = .ok (.iconst 1, 1) := by decide +kernel
theorem dX0_takeUp_64 : decode cX0_takeUp 64 = .ok (.aload_n 0, 1) := by decide +kernel
theorem dX0_takeUp_65 : decode cX0_takeUp 65 = .ok (.getfield 15, 3) := by decide +kernel
theorem dX0_takeUp_68 : decode cX0_takeUp 68 = .ok (.iconst 0, 1) := by decide +kernel
theorem dX0_takeUp_69 : decode cX0_takeUp 69 = .ok (.aload_n 0, 1) := by decide +kernel
theorem dX0_takeUp_70 : decode cX0_takeUp 70 = .ok (.getfield 22, 3) := by decide +kernel
theorem dX0_takeUp_73 : decode cX0_takeUp 73 = .ok (.invokestatic 31, 3) := by decide +kernel
theorem dX0_takeUp_76 : decode cX0_takeUp 76 = .ok (.return_, 1) := by decide +kernel
theorem dX1_init_0 : decode cX1_init 0 = .ok (.aload_n 0, 1) := by decide +kernel
theorem dX1_init_1 : decode cX1_init 1 = .ok (.invokespecial 3, 3) := by decide +kernel
theorem dX1_init_4 : decode cX1_init 4 = .ok (.aload_n 0, 1) := by decide +kernel
theorem dX1_init_5 : decode cX1_init 5 = .ok (.bipush 12, 2) := by decide +kernel
theorem dX1_init_7 : decode cX1_init 7 = .ok (.newarray .int, 2) := by decide +kernel
theorem dX1_init_9 : decode cX1_init 9 = .ok (.putfield 11, 3) := by decide +kernel
theorem dX1_init_12 : decode cX1_init 12 = .ok (.aload_n 0, 1) := by decide +kernel
theorem dX1_init_13 : decode cX1_init 13 = .ok (.bipush 60, 2) := by decide +kernel
theorem dX1_init_15 : decode cX1_init 15 = .ok (.newarray .int, 2) := by decide +kernel
theorem dX1_init_17 : decode cX1_init 17 = .ok (.putfield 17, 3) := by decide +kernel
theorem dX1_init_20 : decode cX1_init 20 = .ok (.aload_n 0, 1) := by decide +kernel
theorem dX1_init_21 : decode cX1_init 21 = .ok (.iconst 3, 1) := by decide +kernel
theorem dX1_init_22 : decode cX1_init 22 = .ok (.newarray .int, 2) := by decide +kernel
theorem dX1_init_24 : decode cX1_init 24 = .ok (.putfield 20, 3) := by decide +kernel
theorem dX1_init_27 : decode cX1_init 27 = .ok (.return_, 1) := by decide +kernel
theorem dX1_add_0 : decode cX1_add 0 = .ok (.aload_n 0, 1) := by decide +kernel
theorem dX1_add_1 : decode cX1_add 1 = .ok (.getfield 23, 3) := by decide +kernel
theorem dX1_add_4 : decode cX1_add 4 = .ok (.bipush 60, 2) := by decide +kernel
theorem dX1_add_6 : decode cX1_add 6 = .ok (.if_icmp .lt 6, 3) := by decide +kernel
theorem dX1_add_9 : decode cX1_add 9 = .ok (.ldc 27, 2) := by decide +kernel
theorem dX1_add_11 : decode cX1_add 11 = .ok (.ireturn, 1) := by decide +kernel
theorem dX1_add_12 : decode cX1_add 12 = .ok (.aload_n 0, 1) := by decide +kernel
theorem dX1_add_13 : decode cX1_add 13 = .ok (.getfield 17, 3) := by decide +kernel
theorem dX1_add_16 : decode cX1_add 16 = .ok (.aload_n 0, 1) := by decide +kernel
theorem dX1_add_17 : decode cX1_add 17 = .ok (.getfield 23, 3) := by decide +kernel
theorem dX1_add_20 : decode cX1_add 20 = .ok (.iload_n 1, 1) := by decide +kernel
theorem dX1_add_21 : decode cX1_add 21 = .ok (.iastore, 1) := by decide +kernel
theorem dX1_add_22 : decode cX1_add 22 = .ok (.aload_n 0, 1) := by decide +kernel
theorem dX1_add_23 : decode cX1_add 23 = .ok (.dup, 1) := by decide +kernel
theorem dX1_add_24 : decode cX1_add 24 = .ok (.getfield 23, 3) := by decide +kernel
theorem dX1_add_27 : decode cX1_add 27 = .ok (.iconst 1, 1) := by decide +kernel
theorem dX1_add_28 : decode cX1_add 28 = .ok (.iadd, 1) := by decide +kernel
theorem dX1_add_29 : decode cX1_add 29 = .ok (.putfield 23, 3) := by decide +kernel
theorem dX1_add_32 : decode cX1_add 32 = .ok (.aload_n 0, 1) := by decide +kernel
theorem dX1_add_33 : decode cX1_add 33 = .ok (.getfield 23, 3) := by decide +kernel
theorem dX1_add_36 : decode cX1_add 36 = .ok (.ireturn, 1) := by decide +kernel
set_option maxRecDepth 20000 in
theorem ggX1_findFault_X1_standingBehind : GoodIn wsX1_findFault wsX1_standingBehind := goodIn_r _ [10, 2, 5, 1, 14, 15, 16, 17, 18, 19] (by decide +kernel) (by decide +kernel)
set_option maxRecDepth 20000 in
theorem gX1_findFault_X1_standingBehind : GoodIn wsX1_findFault (wsV RX1 34 RX1 yX1_standingBehind wsX1_standingBehind) := goodIn_app (goodIn_of _ (by decide +kernel)) ggX1_findFault_X1_standingBehind
set_option maxRecDepth 20000 in
theorem ggX1_findFault_X1_depthChange : GoodIn wsX1_findFault wsX1_depthChange := goodIn_r _ [13] (by decide +kernel) (by decide +kernel)
set_option maxRecDepth 20000 in
theorem gX1_findFault_X1_depthChange : GoodIn wsX1_findFault (va_wsS RX1 39 yX1_depthChange wsX1_depthChange) := goodIn_app (goodIn_of _ (by decide +kernel)) ggX1_findFault_X1_depthChange
theorem dX1_findFault_0 : decode cX1_findFault 0 = .ok (.aload_n 0, 1) := by decide +kernel
theorem dX1_findFault_1 : decode cX1_findFault 1 = .ok (.iconst 0, 1) := by decide +kernel
theorem dX1_findFault_2 : decode cX1_findFault 2 = .ok (.putfield 28, 3) := by decide +kernel
theorem dX1_findFault_5 : decode cX1_findFault 5 = .ok (.aload_n 0, 1) := by decide +kernel
theorem dX1_findFault_6 : decode cX1_findFault 6 = .ok (.iconst 0, 1) := by decide +kernel
theorem dX1_findFault_7 : decode cX1_findFault 7 = .ok (.putfield 31, 3) := by decide +kernel
theorem dX1_findFault_10 : decode cX1_findFault 10 = .ok (.iconst 0, 1) := by decide +kernel
theorem dX1_findFault_11 : decode cX1_findFault 11 = .ok (.istore_n 2, 1) := by decide +kernel
theorem dX1_findFault_12 : decode cX1_findFault 12 = .ok (.iload_n 2, 1) := by decide +kernel
theorem dX1_findFault_13 : decode cX1_findFault 13 = .ok (.aload_n 0, 1) := by decide +kernel
theorem dX1_findFault_14 : decode cX1_findFault 14 = .ok (.getfield 23, 3) := by decide +kernel
theorem dX1_findFault_17 : decode cX1_findFault 17 = .ok (.if_icmp .ge 58, 3) := by decide +kernel
theorem dX1_findFault_20 : decode cX1_findFault 20 = .ok (.iload_n 2, 1) := by decide +kernel
theorem dX1_findFault_21 : decode cX1_findFault 21 = .ok (.bipush 60, 2) := by decide +kernel
theorem dX1_findFault_23 : decode cX1_findFault 23 = .ok (.if_icmp .ge 52, 3) := by decide +kernel
theorem dX1_findFault_26 : decode cX1_findFault 26 = .ok (.aload_n 0, 1) := by decide +kernel
theorem dX1_findFault_27 : decode cX1_findFault 27 = .ok (.aload_n 0, 1) := by decide +kernel
theorem dX1_findFault_28 : decode cX1_findFault 28 = .ok (.getfield 17, 3) := by decide +kernel
theorem dX1_findFault_31 : decode cX1_findFault 31 = .ok (.iload_n 2, 1) := by decide +kernel
theorem dX1_findFault_32 : decode cX1_findFault 32 = .ok (.iaload, 1) := by decide +kernel
theorem dX1_findFault_33 : decode cX1_findFault 33 = .ok (.iload_n 1, 1) := by decide +kernel
theorem dX1_findFault_34 : decode cX1_findFault 34 = .ok (.invokevirtual 34, 3) := by decide +kernel
theorem dX1_findFault_37 : decode cX1_findFault 37 = .ok (.istore_n 3, 1) := by decide +kernel
theorem dX1_findFault_38 : decode cX1_findFault 38 = .ok (.iload_n 3, 1) := by decide +kernel
theorem dX1_findFault_39 : decode cX1_findFault 39 = .ok (.ldc 38, 2) := by decide +kernel
theorem dX1_findFault_41 : decode cX1_findFault 41 = .ok (.if_icmp .ne 5, 3) := by decide +kernel
theorem dX1_findFault_44 : decode cX1_findFault 44 = .ok (.iload_n 2, 1) := by decide +kernel
theorem dX1_findFault_45 : decode cX1_findFault 45 = .ok (.ireturn, 1) := by decide +kernel
theorem dX1_findFault_46 : decode cX1_findFault 46 = .ok (.aload_n 0, 1) := by decide +kernel
theorem dX1_findFault_47 : decode cX1_findFault 47 = .ok (.iload_n 3, 1) := by decide +kernel
theorem dX1_findFault_48 : decode cX1_findFault 48 = .ok (.putfield 31, 3) := by decide +kernel
theorem dX1_findFault_51 : decode cX1_findFault 51 = .ok (.aload_n 0, 1) := by decide +kernel
theorem dX1_findFault_52 : decode cX1_findFault 52 = .ok (.dup, 1) := by decide +kernel
theorem dX1_findFault_53 : decode cX1_findFault 53 = .ok (.getfield 28, 3) := by decide +kernel
theorem dX1_findFault_56 : decode cX1_findFault 56 = .ok (.aload_n 0, 1) := by decide +kernel
theorem dX1_findFault_57 : decode cX1_findFault 57 = .ok (.getfield 17, 3) := by decide +kernel
theorem dX1_findFault_60 : decode cX1_findFault 60 = .ok (.iload_n 2, 1) := by decide +kernel
theorem dX1_findFault_61 : decode cX1_findFault 61 = .ok (.iaload, 1) := by decide +kernel
theorem dX1_findFault_62 : decode cX1_findFault 62 = .ok (.invokestatic 39, 3) := by decide +kernel
theorem dX1_findFault_65 : decode cX1_findFault 65 = .ok (.iadd, 1) := by decide +kernel
theorem dX1_findFault_66 : decode cX1_findFault 66 = .ok (.putfield 28, 3) := by decide +kernel
theorem dX1_findFault_69 : decode cX1_findFault 69 = .ok (.iinc 2 1, 3) := by decide +kernel
theorem dX1_findFault_72 : decode cX1_findFault 72 = .ok (.goto (-60), 3) := by decide +kernel
theorem dX1_findFault_75 : decode cX1_findFault 75 = .ok (.aload_n 0, 1) := by decide +kernel
theorem dX1_findFault_76 : decode cX1_findFault 76 = .ok (.getfield 28, 3) := by decide +kernel
theorem dX1_findFault_79 : decode cX1_findFault 79 = .ok (.ifCond .ne 23, 3) := by decide +kernel
theorem dX1_findFault_82 : decode cX1_findFault 82 = .ok (.aload_n 0, 1) := by decide +kernel
theorem dX1_findFault_83 : decode cX1_findFault 83 = .ok (.getfield 31, 3) := by decide +kernel
theorem dX1_findFault_86 : decode cX1_findFault 86 = .ok (.iconst 1, 1) := by decide +kernel
theorem dX1_findFault_87 : decode cX1_findFault 87 = .ok (.if_icmp .eq 11, 3) := by decide +kernel
theorem dX1_findFault_90 : decode cX1_findFault 90 = .ok (.aload_n 0, 1) := by decide +kernel
theorem dX1_findFault_91 : decode cX1_findFault 91 = .ok (.getfield 31, 3) := by decide +kernel
theorem dX1_findFault_94 : decode cX1_findFault 94 = .ok (.iconst 2, 1) := by decide +kernel
theorem dX1_findFault_95 : decode cX1_findFault 95 = .ok (.if_icmp .ne 7, 3) := by decide +kernel
theorem dX1_findFault_98 : decode cX1_findFault 98 = .ok (.iconst 1, 1) := by decide +kernel
theorem dX1_findFault_99 : decode cX1_findFault 99 = .ok (.goto 4, 3) := by decide +kernel
theorem dX1_findFault_102 : decode cX1_findFault 102 = .ok (.iconst 0, 1) := by decide +kernel
theorem dX1_findFault_103 : decode cX1_findFault 103 = .ok (.istore_n 2, 1) := by decide +kernel
theorem dX1_findFault_104 : decode cX1_findFault 104 = .ok (.iload_n 2, 1) := by decide +kernel
theorem dX1_findFault_105 : decode cX1_findFault 105 = .ok (.ifCond .eq 8, 3) := by decide +kernel
theorem dX1_findFault_108 : decode cX1_findFault 108 = .ok (.ldc 38, 2) := by decide +kernel
theorem dX1_findFault_110 : decode cX1_findFault 110 = .ok (.goto 7, 3) := by decide +kernel
theorem dX1_findFault_113 : decode cX1_findFault 113 = .ok (.aload_n 0, 1) := by decide +kernel
theorem dX1_findFault_114 : decode cX1_findFault 114 = .ok (.getfield 23, 3) := by decide +kernel
theorem dX1_findFault_117 : decode cX1_findFault 117 = .ok (.ireturn, 1) := by decide +kernel
theorem dX1_standingBehind_0 : decode cX1_standingBehind 0 = .ok (.aload_n 0, 1) := by decide +kernel
theorem dX1_standingBehind_1 : decode cX1_standingBehind 1 = .ok (.getfield 31, 3) := by decide +kernel
theorem dX1_standingBehind_4 : decode cX1_standingBehind 4 = .ok (.iconst 3, 1) := by decide +kernel
theorem dX1_standingBehind_5 : decode cX1_standingBehind 5 = .ok (.if_icmp .ne 22, 3) := by decide +kernel
theorem dX1_standingBehind_8 : decode cX1_standingBehind 8 = .ok (.iload_n 1, 1) := by decide +kernel
theorem dX1_standingBehind_9 : decode cX1_standingBehind 9 = .ok (.bipush 50, 2) := by decide +kernel
theorem dX1_standingBehind_11 : decode cX1_standingBehind 11 = .ok (.if_icmp .lt 13, 3) := by decide +kernel
theorem dX1_standingBehind_14 : decode cX1_standingBehind 14 = .ok (.iload_n 1, 1) := by decide +kernel
theorem dX1_standingBehind_15 : decode cX1_standingBehind 15 = .ok (.bipush 57, 2) := by decide +kernel
theorem dX1_standingBehind_17 : decode cX1_standingBehind 17 = .ok (.if_icmp .gt 7, 3) := by decide +kernel
theorem dX1_standingBehind_20 : decode cX1_standingBehind 20 = .ok (.iconst 1, 1) := by decide +kernel
theorem dX1_standingBehind_21 : decode cX1_standingBehind 21 = .ok (.goto 5, 3) := by decide +kernel
theorem dX1_standingBehind_24 : decode cX1_standingBehind 24 = .ok (.ldc 38, 2) := by decide +kernel
theorem dX1_standingBehind_26 : decode cX1_standingBehind 26 = .ok (.ireturn, 1) := by decide +kernel
theorem dX1_standingBehind_27 : decode cX1_standingBehind 27 = .ok (.iload_n 1, 1) := by decide +kernel
theorem dX1_standingBehind_28 : decode cX1_standingBehind 28 = .ok (.bipush 48, 2) := by decide +kernel
theorem dX1_standingBehind_30 : decode cX1_standingBehind 30 = .ok (.if_icmp .lt 24, 3) := by decide +kernel
theorem dX1_standingBehind_33 : decode cX1_standingBehind 33 = .ok (.iload_n 1, 1) := by decide +kernel
theorem dX1_standingBehind_34 : decode cX1_standingBehind 34 = .ok (.bipush 57, 2) := by decide +kernel
theorem dX1_standingBehind_36 : decode cX1_standingBehind 36 = .ok (.if_icmp .gt 18, 3) := by decide +kernel
theorem dX1_standingBehind_39 : decode cX1_standingBehind 39 = .ok (.iload_n 1, 1) := by decide +kernel
theorem dX1_standingBehind_40 : decode cX1_standingBehind 40 = .ok (.bipush 48, 2) := by decide +kernel
theorem dX1_standingBehind_42 : decode cX1_standingBehind 42 = .ok (.isub, 1) := by decide +kernel
theorem dX1_standingBehind_43 : decode cX1_standingBehind 43 = .ok (.iload_n 2, 1) := by decide +kernel
theorem dX1_standingBehind_44 : decode cX1_standingBehind 44 = .ok (.if_icmp .ge 7, 3) := by decide +kernel
theorem dX1_standingBehind_47 : decode cX1_standingBehind 47 = .ok (.iconst 1, 1) := by decide +kernel
theorem dX1_standingBehind_48 : decode cX1_standingBehind 48 = .ok (.goto 5, 3) := by decide +kernel
theorem dX1_standingBehind_51 : decode cX1_standingBehind 51 = .ok (.ldc 38, 2) := by decide +kernel
theorem dX1_standingBehind_53 : decode cX1_standingBehind 53 = .ok (.ireturn, 1) := by decide +kernel
theorem dX1_standingBehind_54 : decode cX1_standingBehind 54 = .ok (.iload_n 1, 1) := by decide +kernel
theorem dX1_standingBehind_55 : decode cX1_standingBehind 55 = .ok (.lookupswitch 84 #[(40, 33), (41, 48), (120, 69)], 33) := by decide +kernel
theorem dX1_standingBehind_88 : decode cX1_standingBehind 88 = .ok (.aload_n 0, 1) := by decide +kernel
theorem dX1_standingBehind_89 : decode cX1_standingBehind 89 = .ok (.getfield 28, 3) := by decide +kernel
theorem dX1_standingBehind_92 : decode cX1_standingBehind 92 = .ok (.iconst 3, 1) := by decide +kernel
theorem dX1_standingBehind_93 : decode cX1_standingBehind 93 = .ok (.if_icmp .ge 7, 3) := by decide +kernel
theorem dX1_standingBehind_96 : decode cX1_standingBehind 96 = .ok (.iconst 0, 1) := by decide +kernel
theorem dX1_standingBehind_97 : decode cX1_standingBehind 97 = .ok (.goto 5, 3) := by decide +kernel
theorem dX1_standingBehind_100 : decode cX1_standingBehind 100 = .ok (.ldc 38, 2) := by decide +kernel
theorem dX1_standingBehind_102 : decode cX1_standingBehind 102 = .ok (.ireturn, 1) := by decide +kernel
theorem dX1_standingBehind_103 : decode cX1_standingBehind 103 = .ok (.aload_n 0, 1) := by decide +kernel
theorem dX1_standingBehind_104 : decode cX1_standingBehind 104 = .ok (.getfield 28, 3) := by decide +kernel
theorem dX1_standingBehind_107 : decode cX1_standingBehind 107 = .ok (.ifCond .le 14, 3) := by decide +kernel
theorem dX1_standingBehind_110 : decode cX1_standingBehind 110 = .ok (.aload_n 0, 1) := by decide +kernel
theorem dX1_standingBehind_111 : decode cX1_standingBehind 111 = .ok (.getfield 31, 3) := by decide +kernel
theorem dX1_standingBehind_114 : decode cX1_standingBehind 114 = .ok (.ifCond .eq 7, 3) := by decide +kernel
theorem dX1_standingBehind_117 : decode cX1_standingBehind 117 = .ok (.iconst 2, 1) := by decide +kernel
theorem dX1_standingBehind_118 : decode cX1_standingBehind 118 = .ok (.goto 5, 3) := by decide +kernel
theorem dX1_standingBehind_121 : decode cX1_standingBehind 121 = .ok (.ldc 38, 2) := by decide +kernel
theorem dX1_standingBehind_123 : decode cX1_standingBehind 123 = .ok (.ireturn, 1) := by decide +kernel
theorem dX1_standingBehind_124 : decode cX1_standingBehind 124 = .ok (.aload_n 0, 1) := by decide +kernel
theorem dX1_standingBehind_125 : decode cX1_standingBehind 125 = .ok (.getfield 31, 3) := by decide +kernel
theorem dX1_standingBehind_128 : decode cX1_standingBehind 128 = .ok (.iconst 2, 1) := by decide +kernel
theorem dX1_standingBehind_129 : decode cX1_standingBehind 129 = .ok (.if_icmp .ne 7, 3) := by decide +kernel
theorem dX1_standingBehind_132 : decode cX1_standingBehind 132 = .ok (.iconst 3, 1) := by decide +kernel
theorem dX1_standingBehind_133 : decode cX1_standingBehind 133 = .ok (.goto 5, 3) := by decide +kernel
theorem dX1_standingBehind_136 : decode cX1_standingBehind 136 = .ok (.ldc 38, 2) := by decide +kernel
theorem dX1_standingBehind_138 : decode cX1_standingBehind 138 = .ok (.ireturn, 1) := by decide +kernel
theorem dX1_standingBehind_139 : decode cX1_standingBehind 139 = .ok (.ldc 38, 2) := by decide +kernel
theorem dX1_standingBehind_141 : decode cX1_standingBehind 141 = .ok (.ireturn, 1) := by decide +kernel
theorem dX1_depthChange_0 : decode cX1_depthChange 0 = .ok (.iload_n 0, 1) := by decide +kernel
theorem dX1_depthChange_1 : decode cX1_depthChange 1 = .ok (.bipush 40, 2) := by decide +kernel
theorem dX1_depthChange_3 : decode cX1_depthChange 3 = .ok (.if_icmp .ne 7, 3) := by decide +kernel
theorem dX1_depthChange_6 : decode cX1_depthChange 6 = .ok (.iconst 1, 1) := by decide +kernel
theorem dX1_depthChange_7 : decode cX1_depthChange 7 = .ok (.goto 14, 3) := by decide +kernel
theorem dX1_depthChange_10 : decode cX1_depthChange 10 = .ok (.iload_n 0, 1) := by decide +kernel
theorem dX1_depthChange_11 : decode cX1_depthChange 11 = .ok (.bipush 41, 2) := by decide +kernel
theorem dX1_depthChange_13 : decode cX1_depthChange 13 = .ok (.if_icmp .ne 7, 3) := by decide +kernel
theorem dX1_depthChange_16 : decode cX1_depthChange 16 = .ok (.iconst (-1), 1) := by decide +kernel
theorem dX1_depthChange_17 : decode cX1_depthChange 17 = .ok (.goto 4, 3) := by decide +kernel
theorem dX1_depthChange_20 : decode cX1_depthChange 20 = .ok (.iconst 0, 1) := by decide +kernel
theorem dX1_depthChange_21 : decode cX1_depthChange 21 = .ok (.ireturn, 1) := by decide +kernel
set_option maxRecDepth 20000 in
theorem ggX1_expand_X1_repeatGroup : GoodIn wsX1_expand wsX1_repeatGroup := goodIn_r _ [9, 10, 11, 12, 13, 14, 2, 15, 16, 17, 8, 18, 19, 20, 21, 22, 23, 24] (by decide +kernel) (by decide +kernel)
set_option maxRecDepth 20000 in
theorem gX1_expand_X1_repeatGroup : GoodIn wsX1_expand (wsV RX1 43 RX1 yX1_repeatGroup wsX1_repeatGroup) := goodIn_app (goodIn_of _ (by decide +kernel)) ggX1_expand_X1_repeatGroup
set_option maxRecDepth 20000 in
theorem ggX1_expand_X1_addReel : GoodIn wsX1_expand wsX1_addReel := goodIn_r _ [18, 14, 2, 19, 20, 21, 22, 23, 24] (by decide +kernel) (by decide +kernel)
set_option maxRecDepth 20000 in
theorem gX1_expand_X1_addReel : GoodIn wsX1_expand (wsV RX1 47 RX1 yX1_addReel wsX1_addReel) := goodIn_app (goodIn_of _ (by decide +kernel)) ggX1_expand_X1_addReel
theorem dX1_expand_0 : decode cX1_expand 0 = .ok (.iconst 0, 1) := by decide +kernel
theorem dX1_expand_1 : decode cX1_expand 1 = .ok (.istore_n 1, 1) := by decide +kernel
theorem dX1_expand_2 : decode cX1_expand 2 = .ok (.iconst 0, 1) := by decide +kernel
theorem dX1_expand_3 : decode cX1_expand 3 = .ok (.istore_n 2, 1) := by decide +kernel
theorem dX1_expand_4 : decode cX1_expand 4 = .ok (.iconst 0, 1) := by decide +kernel
theorem dX1_expand_5 : decode cX1_expand 5 = .ok (.istore_n 3, 1) := by decide +kernel
theorem dX1_expand_6 : decode cX1_expand 6 = .ok (.iconst 0, 1) := by decide +kernel
theorem dX1_expand_7 : decode cX1_expand 7 = .ok (.istore 4, 2) := by decide +kernel
theorem dX1_expand_9 : decode cX1_expand 9 = .ok (.iconst 0, 1) := by decide +kernel
theorem dX1_expand_10 : decode cX1_expand 10 = .ok (.istore 5, 2) := by decide +kernel
theorem dX1_expand_12 : decode cX1_expand 12 = .ok (.iload 5, 2) := by decide +kernel
theorem dX1_expand_14 : decode cX1_expand 14 = .ok (.aload_n 0, 1) := by decide +kernel
theorem dX1_expand_15 : decode cX1_expand 15 = .ok (.getfield 23, 3) := by decide +kernel
theorem dX1_expand_18 : decode cX1_expand 18 = .ok (.if_icmp .ge 127, 3) := by decide +kernel
theorem dX1_expand_21 : decode cX1_expand 21 = .ok (.iload 5, 2) := by decide +kernel
theorem dX1_expand_23 : decode cX1_expand 23 = .ok (.bipush 60, 2) := by decide +kernel
theorem dX1_expand_25 : decode cX1_expand 25 = .ok (.if_icmp .ge 120, 3) := by decide +kernel
theorem dX1_expand_28 : decode cX1_expand 28 = .ok (.iload_n 1, 1) := by decide +kernel
theorem dX1_expand_29 : decode cX1_expand 29 = .ok (.ldc 27, 2) := by decide +kernel
theorem dX1_expand_31 : decode cX1_expand 31 = .ok (.if_icmp .eq 114, 3) := by decide +kernel
theorem dX1_expand_34 : decode cX1_expand 34 = .ok (.aload_n 0, 1) := by decide +kernel
theorem dX1_expand_35 : decode cX1_expand 35 = .ok (.getfield 17, 3) := by decide +kernel
theorem dX1_expand_38 : decode cX1_expand 38 = .ok (.iload 5, 2) := by decide +kernel
theorem dX1_expand_40 : decode cX1_expand 40 = .ok (.iaload, 1) := by decide +kernel
theorem dX1_expand_41 : decode cX1_expand 41 = .ok (.istore 6, 2) := by decide +kernel
theorem dX1_expand_43 : decode cX1_expand 43 = .ok (.iload 6, 2) := by decide +kernel
theorem dX1_expand_45 : decode cX1_expand 45 = .ok (.bipush 40, 2) := by decide +kernel
theorem dX1_expand_47 : decode cX1_expand 47 = .ok (.if_icmp .ne 21, 3) := by decide +kernel
theorem dX1_expand_50 : decode cX1_expand 50 = .ok (.iload_n 2, 1) := by decide +kernel
theorem dX1_expand_51 : decode cX1_expand 51 = .ok (.iconst 3, 1) := by decide +kernel
theorem dX1_expand_52 : decode cX1_expand 52 = .ok (.if_icmp .ge 87, 3) := by decide +kernel
theorem dX1_expand_55 : decode cX1_expand 55 = .ok (.aload_n 0, 1) := by decide +kernel
theorem dX1_expand_56 : decode cX1_expand 56 = .ok (.getfield 20, 3) := by decide +kernel
theorem dX1_expand_59 : decode cX1_expand 59 = .ok (.iload_n 2, 1) := by decide +kernel
theorem dX1_expand_60 : decode cX1_expand 60 = .ok (.iload_n 1, 1) := by decide +kernel
theorem dX1_expand_61 : decode cX1_expand 61 = .ok (.iastore, 1) := by decide +kernel
theorem dX1_expand_62 : decode cX1_expand 62 = .ok (.iinc 2 1, 3) := by decide +kernel
theorem dX1_expand_65 : decode cX1_expand 65 = .ok (.goto 74, 3) := by decide +kernel
theorem dX1_expand_68 : decode cX1_expand 68 = .ok (.iload 6, 2) := by decide +kernel
theorem dX1_expand_70 : decode cX1_expand 70 = .ok (.bipush 41, 2) := by decide +kernel
theorem dX1_expand_72 : decode cX1_expand 72 = .ok (.if_icmp .ne 20, 3) := by decide +kernel
theorem dX1_expand_75 : decode cX1_expand 75 = .ok (.iload_n 2, 1) := by decide +kernel
theorem dX1_expand_76 : decode cX1_expand 76 = .ok (.ifCond .le 63, 3) := by decide +kernel
theorem dX1_expand_79 : decode cX1_expand 79 = .ok (.iinc 2 (-1), 3) := by decide +kernel
theorem dX1_expand_82 : decode cX1_expand 82 = .ok (.aload_n 0, 1) := by decide +kernel
theorem dX1_expand_83 : decode cX1_expand 83 = .ok (.getfield 20, 3) := by decide +kernel
theorem dX1_expand_86 : decode cX1_expand 86 = .ok (.iload_n 2, 1) := by decide +kernel
theorem dX1_expand_87 : decode cX1_expand 87 = .ok (.iaload, 1) := by decide +kernel
theorem dX1_expand_88 : decode cX1_expand 88 = .ok (.istore_n 3, 1) := by decide +kernel
theorem dX1_expand_89 : decode cX1_expand 89 = .ok (.goto 50, 3) := by decide +kernel
theorem dX1_expand_92 : decode cX1_expand 92 = .ok (.iload 6, 2) := by decide +kernel
theorem dX1_expand_94 : decode cX1_expand 94 = .ok (.bipush 120, 2) := by decide +kernel
theorem dX1_expand_96 : decode cX1_expand 96 = .ok (.if_icmp .ne 9, 3) := by decide +kernel
theorem dX1_expand_99 : decode cX1_expand 99 = .ok (.iconst 1, 1) := by decide +kernel
theorem dX1_expand_100 : decode cX1_expand 100 = .ok (.istore 4, 2) := by decide +kernel
theorem dX1_expand_102 : decode cX1_expand 102 = .ok (.goto 37, 3) := by decide +kernel
theorem dX1_expand_105 : decode cX1_expand 105 = .ok (.iload 4, 2) := by decide +kernel
theorem dX1_expand_107 : decode cX1_expand 107 = .ok (.ifCond .eq 21, 3) := by decide +kernel
theorem dX1_expand_110 : decode cX1_expand 110 = .ok (.aload_n 0, 1) := by decide +kernel
theorem dX1_expand_111 : decode cX1_expand 111 = .ok (.iload_n 3, 1) := by decide +kernel
theorem dX1_expand_112 : decode cX1_expand 112 = .ok (.iload_n 1, 1) := by decide +kernel
theorem dX1_expand_113 : decode cX1_expand 113 = .ok (.iload 6, 2) := by decide +kernel
theorem dX1_expand_115 : decode cX1_expand 115 = .ok (.bipush 48, 2) := by decide +kernel
theorem dX1_expand_117 : decode cX1_expand 117 = .ok (.isub, 1) := by decide +kernel
theorem dX1_expand_118 : decode cX1_expand 118 = .ok (.invokevirtual 43, 3) := by decide +kernel
theorem dX1_expand_121 : decode cX1_expand 121 = .ok (.istore_n 1, 1) := by decide +kernel
theorem dX1_expand_122 : decode cX1_expand 122 = .ok (.iconst 0, 1) := by decide +kernel
theorem dX1_expand_123 : decode cX1_expand 123 = .ok (.istore 4, 2) := by decide +kernel
theorem dX1_expand_125 : decode cX1_expand 125 = .ok (.goto 14, 3) := by decide +kernel
theorem dX1_expand_128 : decode cX1_expand 128 = .ok (.aload_n 0, 1) := by decide +kernel
theorem dX1_expand_129 : decode cX1_expand 129 = .ok (.iload 6, 2) := by decide +kernel
theorem dX1_expand_131 : decode cX1_expand 131 = .ok (.bipush 48, 2) := by decide +kernel
theorem dX1_expand_133 : decode cX1_expand 133 = .ok (.isub, 1) := by decide +kernel
theorem dX1_expand_134 : decode cX1_expand 134 = .ok (.iload_n 1, 1) := by decide +kernel
theorem dX1_expand_135 : decode cX1_expand 135 = .ok (.invokevirtual 47, 3) := by decide +kernel
theorem dX1_expand_138 : decode cX1_expand 138 = .ok (.istore_n 1, 1) := by decide +kernel
theorem dX1_expand_139 : decode cX1_expand 139 = .ok (.iinc 5 1, 3) := by decide +kernel
theorem dX1_expand_142 : decode cX1_expand 142 = .ok (.goto (-130), 3) := by decide +kernel
theorem dX1_expand_145 : decode cX1_expand 145 = .ok (.iload_n 1, 1) := by decide +kernel
theorem dX1_expand_146 : decode cX1_expand 146 = .ok (.ireturn, 1) := by decide +kernel
theorem dX1_addReel_0 : decode cX1_addReel 0 = .ok (.iload_n 2, 1) := by decide +kernel
theorem dX1_addReel_1 : decode cX1_addReel 1 = .ok (.ifCond .lt 12, 3) := by decide +kernel
theorem dX1_addReel_4 : decode cX1_addReel 4 = .ok (.iload_n 2, 1) := by decide +kernel
theorem dX1_addReel_5 : decode cX1_addReel 5 = .ok (.aload_n 0, 1) := by decide +kernel
theorem dX1_addReel_6 : decode cX1_addReel 6 = .ok (.getfield 11, 3) := by decide +kernel
theorem dX1_addReel_9 : decode cX1_addReel 9 = .ok (.arraylength, 1) := by decide +kernel
theorem dX1_addReel_10 : decode cX1_addReel 10 = .ok (.if_icmp .lt 6, 3) := by decide +kernel
theorem dX1_addReel_13 : decode cX1_addReel 13 = .ok (.ldc 27, 2) := by decide +kernel
theorem dX1_addReel_15 : decode cX1_addReel 15 = .ok (.ireturn, 1) := by decide +kernel
theorem dX1_addReel_16 : decode cX1_addReel 16 = .ok (.aload_n 0, 1) := by decide +kernel
theorem dX1_addReel_17 : decode cX1_addReel 17 = .ok (.getfield 11, 3) := by decide +kernel
theorem dX1_addReel_20 : decode cX1_addReel 20 = .ok (.iload_n 2, 1) := by decide +kernel
theorem dX1_addReel_21 : decode cX1_addReel 21 = .ok (.iload_n 1, 1) := by decide +kernel
theorem dX1_addReel_22 : decode cX1_addReel 22 = .ok (.iastore, 1) := by decide +kernel
theorem dX1_addReel_23 : decode cX1_addReel 23 = .ok (.iload_n 2, 1) := by decide +kernel
theorem dX1_addReel_24 : decode cX1_addReel 24 = .ok (.iconst 1, 1) := by decide +kernel
theorem dX1_addReel_25 : decode cX1_addReel 25 = .ok (.iadd, 1) := by decide +kernel
theorem dX1_addReel_26 : decode cX1_addReel 26 = .ok (.ireturn, 1) := by decide +kernel
set_option maxRecDepth 20000 in
theorem ggX1_repeatGroup_X1_addReel : GoodIn wsX1_repeatGroup wsX1_addReel := goodIn_r _ [11, 5, 6, 12, 13, 14, 15, 16, 17] (by decide +kernel) (by decide +kernel)
set_option maxRecDepth 20000 in
theorem gX1_repeatGroup_X1_addReel : GoodIn wsX1_repeatGroup (wsV RX1 47 RX1 yX1_addReel wsX1_addReel) := goodIn_app (goodIn_of _ (by decide +kernel)) ggX1_repeatGroup_X1_addReel
theorem dX1_repeatGroup_0 : decode cX1_repeatGroup 0 = .ok (.iload_n 2, 1) := by decide +kernel
theorem dX1_repeatGroup_1 : decode cX1_repeatGroup 1 = .ok (.istore 4, 2) := by decide +kernel
theorem dX1_repeatGroup_3 : decode cX1_repeatGroup 3 = .ok (.iload_n 1, 1) := by decide +kernel
theorem dX1_repeatGroup_4 : decode cX1_repeatGroup 4 = .ok (.iload_n 2, 1) := by decide +kernel
theorem dX1_repeatGroup_5 : decode cX1_repeatGroup 5 = .ok (.iload_n 1, 1) := by decide +kernel
theorem dX1_repeatGroup_6 : decode cX1_repeatGroup 6 = .ok (.isub, 1) := by decide +kernel
theorem dX1_repeatGroup_7 : decode cX1_repeatGroup 7 = .ok (.iload_n 3, 1) := by decide +kernel
theorem dX1_repeatGroup_8 : decode cX1_repeatGroup 8 = .ok (.iconst 1, 1) := by decide +kernel
theorem dX1_repeatGroup_9 : decode cX1_repeatGroup 9 = .ok (.isub, 1) := by decide +kernel
theorem dX1_repeatGroup_10 : decode cX1_repeatGroup 10 = .ok (.imul, 1) := by decide +kernel
theorem dX1_repeatGroup_11 : decode cX1_repeatGroup 11 = .ok (.iadd, 1) := by decide +kernel
theorem dX1_repeatGroup_12 : decode cX1_repeatGroup 12 = .ok (.istore 5, 2) := by decide +kernel
theorem dX1_repeatGroup_14 : decode cX1_repeatGroup 14 = .ok (.iconst 0, 1) := by decide +kernel
theorem dX1_repeatGroup_15 : decode cX1_repeatGroup 15 = .ok (.iload_n 1, 1) := by decide +kernel
theorem dX1_repeatGroup_16 : decode cX1_repeatGroup 16 = .ok (.invokestatic 50, 3) := by decide +kernel
theorem dX1_repeatGroup_19 : decode cX1_repeatGroup 19 = .ok (.istore 6, 2) := by decide +kernel
theorem dX1_repeatGroup_21 : decode cX1_repeatGroup 21 = .ok (.iload 6, 2) := by decide +kernel
theorem dX1_repeatGroup_23 : decode cX1_repeatGroup 23 = .ok (.iload 5, 2) := by decide +kernel
theorem dX1_repeatGroup_25 : decode cX1_repeatGroup 25 = .ok (.if_icmp .ge 41, 3) := by decide +kernel
theorem dX1_repeatGroup_28 : decode cX1_repeatGroup 28 = .ok (.iload 6, 2) := by decide +kernel
theorem dX1_repeatGroup_30 : decode cX1_repeatGroup 30 = .ok (.aload_n 0, 1) := by decide +kernel
theorem dX1_repeatGroup_31 : decode cX1_repeatGroup 31 = .ok (.getfield 11, 3) := by decide +kernel
theorem dX1_repeatGroup_34 : decode cX1_repeatGroup 34 = .ok (.arraylength, 1) := by decide +kernel
theorem dX1_repeatGroup_35 : decode cX1_repeatGroup 35 = .ok (.if_icmp .ge 31, 3) := by decide +kernel
theorem dX1_repeatGroup_38 : decode cX1_repeatGroup 38 = .ok (.iload 4, 2) := by decide +kernel
theorem dX1_repeatGroup_40 : decode cX1_repeatGroup 40 = .ok (.ldc 27, 2) := by decide +kernel
theorem dX1_repeatGroup_42 : decode cX1_repeatGroup 42 = .ok (.if_icmp .eq 24, 3) := by decide +kernel
theorem dX1_repeatGroup_45 : decode cX1_repeatGroup 45 = .ok (.aload_n 0, 1) := by decide +kernel
theorem dX1_repeatGroup_46 : decode cX1_repeatGroup 46 = .ok (.aload_n 0, 1) := by decide +kernel
theorem dX1_repeatGroup_47 : decode cX1_repeatGroup 47 = .ok (.getfield 11, 3) := by decide +kernel
theorem dX1_repeatGroup_50 : decode cX1_repeatGroup 50 = .ok (.iload 6, 2) := by decide +kernel
theorem dX1_repeatGroup_52 : decode cX1_repeatGroup 52 = .ok (.iaload, 1) := by decide +kernel
theorem dX1_repeatGroup_53 : decode cX1_repeatGroup 53 = .ok (.iload 4, 2) := by decide +kernel
theorem dX1_repeatGroup_55 : decode cX1_repeatGroup 55 = .ok (.invokevirtual 47, 3) := by decide +kernel
theorem dX1_repeatGroup_58 : decode cX1_repeatGroup 58 = .ok (.istore 4, 2) := by decide +kernel
theorem dX1_repeatGroup_60 : decode cX1_repeatGroup 60 = .ok (.iinc 6 1, 3) := by decide +kernel
theorem dX1_repeatGroup_63 : decode cX1_repeatGroup 63 = .ok (.goto (-42), 3) := by decide +kernel
theorem dX1_repeatGroup_66 : decode cX1_repeatGroup 66 = .ok (.iload 4, 2) := by decide +kernel
theorem dX1_repeatGroup_68 : decode cX1_repeatGroup 68 = .ok (.ireturn, 1) := by decide +kernel
theorem dX2_init_0 : decode cX2_init 0 = .ok (.aload_n 0, 1) := by decide +kernel
theorem dX2_init_1 : decode cX2_init 1 = .ok (.invokespecial 3, 3) := by decide +kernel
theorem dX2_init_4 : decode cX2_init 4 = .ok (.return_, 1) := by decide +kernel
theorem dX2_copyFrom_0 : decode cX2_copyFrom 0 = .ok (.aload_n 0, 1) := by decide +kernel
theorem dX2_copyFrom_1 : decode cX2_copyFrom 1 = .ok (.aload_n 1, 1) := by decide +kernel
theorem dX2_copyFrom_2 : decode cX2_copyFrom 2 = .ok (.getfield 9, 3) := by decide +kernel
theorem dX2_copyFrom_5 : decode cX2_copyFrom 5 = .ok (.putfield 9, 3) := by decide +kernel
theorem dX2_copyFrom_8 : decode cX2_copyFrom 8 = .ok (.aload_n 0, 1) := by decide +kernel
theorem dX2_copyFrom_9 : decode cX2_copyFrom 9 = .ok (.aload_n 1, 1) := by decide +kernel
theorem dX2_copyFrom_10 : decode cX2_copyFrom 10 = .ok (.getfield 15, 3) := by decide +kernel
theorem dX2_copyFrom_13 : decode cX2_copyFrom 13 = .ok (.putfield 15, 3) := by decide +kernel
theorem dX2_copyFrom_16 : decode cX2_copyFrom 16 = .ok (.aload_n 0, 1) := by decide +kernel
theorem dX2_copyFrom_17 : decode cX2_copyFrom 17 = .ok (.aload_n 1, 1) := by decide +kernel
theorem dX2_copyFrom_18 : decode cX2_copyFrom 18 = .ok (.getfield 18, 3) := by decide +kernel
theorem dX2_copyFrom_21 : decode cX2_copyFrom 21 = .ok (.putfield 18, 3) := by decide +kernel
theorem dX2_copyFrom_24 : decode cX2_copyFrom 24 = .ok (.return_, 1) := by decide +kernel
theorem dX2_thread_0 : decode cX2_thread 0 = .ok (.aload_n 0, 1) := by decide +kernel
theorem dX2_thread_1 : decode cX2_thread 1 = .ok (.iconst 1, 1) := by decide +kernel
theorem dX2_thread_2 : decode cX2_thread 2 = .ok (.putfield 9, 3) := by decide +kernel
theorem dX2_thread_5 : decode cX2_thread 5 = .ok (.aload_n 0, 1) := by decide +kernel
theorem dX2_thread_6 : decode cX2_thread 6 = .ok (.iload_n 1, 1) := by decide +kernel
theorem dX2_thread_7 : decode cX2_thread 7 = .ok (.putfield 15, 3) := by decide +kernel
theorem dX2_thread_10 : decode cX2_thread 10 = .ok (.return_, 1) := by decide +kernel
theorem dX2_start_0 : decode cX2_start 0 = .ok (.aload_n 0, 1) := by decide +kernel
theorem dX2_start_1 : decode cX2_start 1 = .ok (.iconst 2, 1) := by decide +kernel
theorem dX2_start_2 : decode cX2_start 2 = .ok (.putfield 9, 3) := by decide +kernel
theorem dX2_start_5 : decode cX2_start 5 = .ok (.aload_n 0, 1) := by decide +kernel
theorem dX2_start_6 : decode cX2_start 6 = .ok (.iload_n 1, 1) := by decide +kernel
theorem dX2_start_7 : decode cX2_start 7 = .ok (.putfield 18, 3) := by decide +kernel
theorem dX2_start_10 : decode cX2_start 10 = .ok (.return_, 1) := by decide +kernel
theorem dX2_isAtFrame_0 : decode cX2_isAtFrame 0 = .ok (.aload_n 0, 1) := by decide +kernel
theorem dX2_isAtFrame_1 : decode cX2_isAtFrame 1 = .ok (.getfield 9, 3) := by decide +kernel
theorem dX2_isAtFrame_4 : decode cX2_isAtFrame 4 = .ok (.iconst 2, 1) := by decide +kernel
theorem dX2_isAtFrame_5 : decode cX2_isAtFrame 5 = .ok (.if_icmp .eq 19, 3) := by decide +kernel
theorem dX2_isAtFrame_8 : decode cX2_isAtFrame 8 = .ok (.aload_n 0, 1) := by decide +kernel
theorem dX2_isAtFrame_9 : decode cX2_isAtFrame 9 = .ok (.getfield 9, 3) := by decide +kernel
theorem dX2_isAtFrame_12 : decode cX2_isAtFrame 12 = .ok (.iconst 3, 1) := by decide +kernel
theorem dX2_isAtFrame_13 : decode cX2_isAtFrame 13 = .ok (.if_icmp .eq 11, 3) := by decide +kernel
theorem dX2_isAtFrame_16 : decode cX2_isAtFrame 16 = .ok (.aload_n 0, 1) := by decide +kernel
theorem dX2_isAtFrame_17 : decode cX2_isAtFrame 17 = .ok (.getfield 9, 3) := by decide +kernel
theorem dX2_isAtFrame_20 : decode cX2_isAtFrame 20 = .ok (.iconst 5, 1) := by decide +kernel
theorem dX2_isAtFrame_21 : decode cX2_isAtFrame 21 = .ok (.if_icmp .ne 7, 3) := by decide +kernel
theorem dX2_isAtFrame_24 : decode cX2_isAtFrame 24 = .ok (.iconst 1, 1) := by decide +kernel
theorem dX2_isAtFrame_25 : decode cX2_isAtFrame 25 = .ok (.goto 4, 3) := by decide +kernel
theorem dX2_isAtFrame_28 : decode cX2_isAtFrame 28 = .ok (.iconst 0, 1) := by decide +kernel
theorem dX2_isAtFrame_29 : decode cX2_isAtFrame 29 = .ok (.ireturn, 1) := by decide +kernel
theorem dX2_isMoving_0 : decode cX2_isMoving 0 = .ok (.aload_n 0, 1) := by decide +kernel
theorem dX2_isMoving_1 : decode cX2_isMoving 1 = .ok (.getfield 9, 3) := by decide +kernel
theorem dX2_isMoving_4 : decode cX2_isMoving 4 = .ok (.iconst 2, 1) := by decide +kernel
theorem dX2_isMoving_5 : decode cX2_isMoving 5 = .ok (.if_icmp .eq 11, 3) := by decide +kernel
theorem dX2_isMoving_8 : decode cX2_isMoving 8 = .ok (.aload_n 0, 1) := by decide +kernel
theorem dX2_isMoving_9 : decode cX2_isMoving 9 = .ok (.getfield 9, 3) := by decide +kernel
theorem dX2_isMoving_12 : decode cX2_isMoving 12 = .ok (.iconst 3, 1) := by decide +kernel
theorem dX2_isMoving_13 : decode cX2_isMoving 13 = .ok (.if_icmp .ne 7, 3) := by decide +kernel
theorem dX2_isMoving_16 : decode cX2_isMoving 16 = .ok (.iconst 1, 1) := by decide +kernel
theorem dX2_isMoving_17 : decode cX2_isMoving 17 = .ok (.goto 4, 3) := by decide +kernel
theorem dX2_isMoving_20 : decode cX2_isMoving 20 = .ok (.iconst 0, 1) := by decide +kernel
theorem dX2_isMoving_21 : decode cX2_isMoving 21 = .ok (.ireturn, 1) := by decide +kernel
theorem dX3_init_0 : decode cX3_init 0 = .ok (.aload_n 0, 1) := by decide +kernel
theorem dX3_init_1 : decode cX3_init 1 = .ok (.invokespecial 3, 3) := by decide +kernel
theorem dX3_init_4 : decode cX3_init 4 = .ok (.aload_n 0, 1) := by decide +kernel
theorem dX3_init_5 : decode cX3_init 5 = .ok (.bipush 6, 2) := by decide +kernel
theorem dX3_init_7 : decode cX3_init 7 = .ok (.newarray .int, 2) := by decide +kernel
theorem dX3_init_9 : decode cX3_init 9 = .ok (.putfield 11, 3) := by decide +kernel
theorem dX3_init_12 : decode cX3_init 12 = .ok (.aload_n 0, 1) := by decide +kernel
theorem dX3_init_13 : decode cX3_init 13 = .ok (.bipush 6, 2) := by decide +kernel
theorem dX3_init_15 : decode cX3_init 15 = .ok (.newarray .int, 2) := by decide +kernel
theorem dX3_init_17 : decode cX3_init 17 = .ok (.putfield 15, 3) := by decide +kernel
theorem dX3_init_20 : decode cX3_init 20 = .ok (.return_, 1) := by decide +kernel
theorem dX3_renew_0 : decode cX3_renew 0 = .ok (.aload_n 0, 1) := by decide +kernel
theorem dX3_renew_1 : decode cX3_renew 1 = .ok (.iload_n 1, 1) := by decide +kernel
theorem dX3_renew_2 : decode cX3_renew 2 = .ok (.putfield 18, 3) := by decide +kernel
theorem dX3_renew_5 : decode cX3_renew 5 = .ok (.aload_n 0, 1) := by decide +kernel
theorem dX3_renew_6 : decode cX3_renew 6 = .ok (.iconst 0, 1) := by decide +kernel
theorem dX3_renew_7 : decode cX3_renew 7 = .ok (.putfield 22, 3) := by decide +kernel
theorem dX3_renew_10 : decode cX3_renew 10 = .ok (.return_, 1) := by decide +kernel
theorem dX3_copyFrom_0 : decode cX3_copyFrom 0 = .ok (.aload_n 0, 1) := by decide +kernel
theorem dX3_copyFrom_1 : decode cX3_copyFrom 1 = .ok (.aload_n 1, 1) := by decide +kernel
theorem dX3_copyFrom_2 : decode cX3_copyFrom 2 = .ok (.getfield 18, 3) := by decide +kernel
theorem dX3_copyFrom_5 : decode cX3_copyFrom 5 = .ok (.putfield 18, 3) := by decide +kernel
theorem dX3_copyFrom_8 : decode cX3_copyFrom 8 = .ok (.aload_n 0, 1) := by decide +kernel
theorem dX3_copyFrom_9 : decode cX3_copyFrom 9 = .ok (.aload_n 1, 1) := by decide +kernel
theorem dX3_copyFrom_10 : decode cX3_copyFrom 10 = .ok (.getfield 22, 3) := by decide +kernel
theorem dX3_copyFrom_13 : decode cX3_copyFrom 13 = .ok (.putfield 22, 3) := by decide +kernel
theorem dX3_copyFrom_16 : decode cX3_copyFrom 16 = .ok (.aload_n 1, 1) := by decide +kernel
theorem dX3_copyFrom_17 : decode cX3_copyFrom 17 = .ok (.getfield 11, 3) := by decide +kernel
theorem dX3_copyFrom_20 : decode cX3_copyFrom 20 = .ok (.iconst 0, 1) := by decide +kernel
theorem dX3_copyFrom_21 : decode cX3_copyFrom 21 = .ok (.aload_n 0, 1) := by decide +kernel
theorem dX3_copyFrom_22 : decode cX3_copyFrom 22 = .ok (.getfield 11, 3) := by decide +kernel
theorem dX3_copyFrom_25 : decode cX3_copyFrom 25 = .ok (.iconst 0, 1) := by decide +kernel
theorem dX3_copyFrom_26 : decode cX3_copyFrom 26 = .ok (.bipush 6, 2) := by decide +kernel
theorem dX3_copyFrom_28 : decode cX3_copyFrom 28 = .ok (.invokestatic 25, 3) := by decide +kernel
theorem dX3_copyFrom_31 : decode cX3_copyFrom 31 = .ok (.aload_n 1, 1) := by decide +kernel
theorem dX3_copyFrom_32 : decode cX3_copyFrom 32 = .ok (.getfield 15, 3) := by decide +kernel
theorem dX3_copyFrom_35 : decode cX3_copyFrom 35 = .ok (.iconst 0, 1) := by decide +kernel
theorem dX3_copyFrom_36 : decode cX3_copyFrom 36 = .ok (.aload_n 0, 1) := by decide +kernel
theorem dX3_copyFrom_37 : decode cX3_copyFrom 37 = .ok (.getfield 15, 3) := by decide +kernel
theorem dX3_copyFrom_40 : decode cX3_copyFrom 40 = .ok (.iconst 0, 1) := by decide +kernel
theorem dX3_copyFrom_41 : decode cX3_copyFrom 41 = .ok (.bipush 6, 2) := by decide +kernel
theorem dX3_copyFrom_43 : decode cX3_copyFrom 43 = .ok (.invokestatic 25, 3) := by decide +kernel
theorem dX3_copyFrom_46 : decode cX3_copyFrom 46 = .ok (.return_, 1) := by decide +kernel
theorem dX3_hasSplice_0 : decode cX3_hasSplice 0 = .ok (.iload_n 1, 1) := by decide +kernel
theorem dX3_hasSplice_1 : decode cX3_hasSplice 1 = .ok (.ifCond .lt 21, 3) := by decide +kernel
theorem dX3_hasSplice_4 : decode cX3_hasSplice 4 = .ok (.iload_n 1, 1) := by decide +kernel
theorem dX3_hasSplice_5 : decode cX3_hasSplice 5 = .ok (.aload_n 0, 1) := by decide +kernel
theorem dX3_hasSplice_6 : decode cX3_hasSplice 6 = .ok (.getfield 22, 3) := by decide +kernel
theorem dX3_hasSplice_9 : decode cX3_hasSplice 9 = .ok (.if_icmp .ge 13, 3) := by decide +kernel
theorem dX3_hasSplice_12 : decode cX3_hasSplice 12 = .ok (.iload_n 1, 1) := by decide +kernel
theorem dX3_hasSplice_13 : decode cX3_hasSplice 13 = .ok (.bipush 6, 2) := by decide +kernel
theorem dX3_hasSplice_15 : decode cX3_hasSplice 15 = .ok (.if_icmp .ge 7, 3) := by decide +kernel
theorem dX3_hasSplice_18 : decode cX3_hasSplice 18 = .ok (.iconst 1, 1) := by decide +kernel
theorem dX3_hasSplice_19 : decode cX3_hasSplice 19 = .ok (.goto 4, 3) := by decide +kernel
theorem dX3_hasSplice_22 : decode cX3_hasSplice 22 = .ok (.iconst 0, 1) := by decide +kernel
theorem dX3_hasSplice_23 : decode cX3_hasSplice 23 = .ok (.ireturn, 1) := by decide +kernel
theorem dX3_spliceOfFrame_0 : decode cX3_spliceOfFrame 0 = .ok (.iconst 0, 1) := by decide +kernel
theorem dX3_spliceOfFrame_1 : decode cX3_spliceOfFrame 1 = .ok (.istore_n 2, 1) := by decide +kernel
theorem dX3_spliceOfFrame_2 : decode cX3_spliceOfFrame 2 = .ok (.iload_n 2, 1) := by decide +kernel
theorem dX3_spliceOfFrame_3 : decode cX3_spliceOfFrame 3 = .ok (.aload_n 0, 1) := by decide +kernel
theorem dX3_spliceOfFrame_4 : decode cX3_spliceOfFrame 4 = .ok (.getfield 22, 3) := by decide +kernel
theorem dX3_spliceOfFrame_7 : decode cX3_spliceOfFrame 7 = .ok (.if_icmp .ge 27, 3) := by decide +kernel
theorem dX3_spliceOfFrame_10 : decode cX3_spliceOfFrame 10 = .ok (.iload_n 2, 1) := by decide +kernel
theorem dX3_spliceOfFrame_11 : decode cX3_spliceOfFrame 11 = .ok (.bipush 6, 2) := by decide +kernel
theorem dX3_spliceOfFrame_13 : decode cX3_spliceOfFrame 13 = .ok (.if_icmp .ge 21, 3) := by decide +kernel
theorem dX3_spliceOfFrame_16 : decode cX3_spliceOfFrame 16 = .ok (.aload_n 0, 1) := by decide +kernel
theorem dX3_spliceOfFrame_17 : decode cX3_spliceOfFrame 17 = .ok (.getfield 11, 3) := by decide +kernel
theorem dX3_spliceOfFrame_20 : decode cX3_spliceOfFrame 20 = .ok (.iload_n 2, 1) := by decide +kernel
theorem dX3_spliceOfFrame_21 : decode cX3_spliceOfFrame 21 = .ok (.iaload, 1) := by decide +kernel
theorem dX3_spliceOfFrame_22 : decode cX3_spliceOfFrame 22 = .ok (.iload_n 1, 1) := by decide +kernel
theorem dX3_spliceOfFrame_23 : decode cX3_spliceOfFrame 23 = .ok (.if_icmp .ne 5, 3) := by decide +kernel
theorem dX3_spliceOfFrame_26 : decode cX3_spliceOfFrame 26 = .ok (.iload_n 2, 1) := by decide +kernel
theorem dX3_spliceOfFrame_27 : decode cX3_spliceOfFrame 27 = .ok (.ireturn, 1) := by decide +kernel
theorem dX3_spliceOfFrame_28 : decode cX3_spliceOfFrame 28 = .ok (.iinc 2 1, 3) := by decide +kernel
theorem dX3_spliceOfFrame_31 : decode cX3_spliceOfFrame 31 = .ok (.goto (-29), 3) := by decide +kernel
theorem dX3_spliceOfFrame_34 : decode cX3_spliceOfFrame 34 = .ok (.ldc 31, 2) := by decide +kernel
theorem dX3_spliceOfFrame_36 : decode cX3_spliceOfFrame 36 = .ok (.ireturn, 1) := by decide +kernel
set_option maxRecDepth 20000 in
theorem ggX3_join_X3_spliceOfFrame : GoodIn wsX3_join wsX3_spliceOfFrame := goodIn_r _ [9, 2, 4, 10, 15, 16, 17, 18] (by decide +kernel) (by decide +kernel)
set_option maxRecDepth 20000 in
theorem gX3_join_X3_spliceOfFrame : GoodIn wsX3_join (wsV RX3 32 RX3 yX3_spliceOfFrame wsX3_spliceOfFrame) := goodIn_app (goodIn_of _ (by decide +kernel)) ggX3_join_X3_spliceOfFrame
set_option maxRecDepth 20000 in
theorem ggX3_join_X3_hasSplice : GoodIn wsX3_join wsX3_hasSplice := goodIn_r _ [14, 2, 15, 16, 17, 18] (by decide +kernel) (by decide +kernel)
set_option maxRecDepth 20000 in
theorem gX3_join_X3_hasSplice : GoodIn wsX3_join (wsV RX3 36 RX3 yX3_hasSplice wsX3_hasSplice) := goodIn_app (goodIn_of _ (by decide +kernel)) ggX3_join_X3_hasSplice
theorem dX3_join_0 : decode cX3_join 0 = .ok (.aload_n 0, 1) := by decide +kernel
theorem dX3_join_1 : decode cX3_join 1 = .ok (.iload_n 1, 1) := by decide +kernel
theorem dX3_join_2 : decode cX3_join 2 = .ok (.invokevirtual 32, 3) := by decide +kernel
theorem dX3_join_5 : decode cX3_join 5 = .ok (.istore_n 3, 1) := by decide +kernel
theorem dX3_join_6 : decode cX3_join 6 = .ok (.aload_n 0, 1) := by decide +kernel
theorem dX3_join_7 : decode cX3_join 7 = .ok (.iload_n 3, 1) := by decide +kernel
theorem dX3_join_8 : decode cX3_join 8 = .ok (.invokevirtual 36, 3) := by decide +kernel
theorem dX3_join_11 : decode cX3_join 11 = .ok (.ifCond .eq 15, 3) := by decide +kernel
theorem dX3_join_14 : decode cX3_join 14 = .ok (.aload_n 0, 1) := by decide +kernel
theorem dX3_join_15 : decode cX3_join 15 = .ok (.getfield 15, 3) := by decide +kernel
theorem dX3_join_18 : decode cX3_join 18 = .ok (.iload_n 3, 1) := by decide +kernel
theorem dX3_join_19 : decode cX3_join 19 = .ok (.iload_n 2, 1) := by decide +kernel
theorem dX3_join_20 : decode cX3_join 20 = .ok (.iastore, 1) := by decide +kernel
theorem dX3_join_21 : decode cX3_join 21 = .ok (.aload_n 0, 1) := by decide +kernel
theorem dX3_join_22 : decode cX3_join 22 = .ok (.getfield 22, 3) := by decide +kernel
theorem dX3_join_25 : decode cX3_join 25 = .ok (.ireturn, 1) := by decide +kernel
theorem dX3_join_26 : decode cX3_join 26 = .ok (.aload_n 0, 1) := by decide +kernel
theorem dX3_join_27 : decode cX3_join 27 = .ok (.getfield 22, 3) := by decide +kernel
theorem dX3_join_30 : decode cX3_join 30 = .ok (.bipush 6, 2) := by decide +kernel
theorem dX3_join_32 : decode cX3_join 32 = .ok (.if_icmp .lt 6, 3) := by decide +kernel
theorem dX3_join_35 : decode cX3_join 35 = .ok (.ldc 40, 2) := by decide +kernel
theorem dX3_join_37 : decode cX3_join 37 = .ok (.ireturn, 1) := by decide +kernel
theorem dX3_join_38 : decode cX3_join 38 = .ok (.aload_n 0, 1) := by decide +kernel
theorem dX3_join_39 : decode cX3_join 39 = .ok (.getfield 22, 3) := by decide +kernel
theorem dX3_join_42 : decode cX3_join 42 = .ok (.istore 4, 2) := by decide +kernel
theorem dX3_join_44 : decode cX3_join 44 = .ok (.iload 4, 2) := by decide +kernel
theorem dX3_join_46 : decode cX3_join 46 = .ok (.ifCond .le 54, 3) := by decide +kernel
theorem dX3_join_49 : decode cX3_join 49 = .ok (.aload_n 0, 1) := by decide +kernel
theorem dX3_join_50 : decode cX3_join 50 = .ok (.getfield 11, 3) := by decide +kernel
theorem dX3_join_53 : decode cX3_join 53 = .ok (.iload 4, 2) := by decide +kernel
theorem dX3_join_55 : decode cX3_join 55 = .ok (.iconst 1, 1) := by decide +kernel
theorem dX3_join_56 : decode cX3_join 56 = .ok (.isub, 1) := by decide +kernel
theorem dX3_join_57 : decode cX3_join 57 = .ok (.iaload, 1) := by decide +kernel
theorem dX3_join_58 : decode cX3_join 58 = .ok (.iload_n 1, 1) := by decide +kernel
theorem dX3_join_59 : decode cX3_join 59 = .ok (.if_icmp .le 41, 3) := by decide +kernel
theorem dX3_join_62 : decode cX3_join 62 = .ok (.aload_n 0, 1) := by decide +kernel
theorem dX3_join_63 : decode cX3_join 63 = .ok (.getfield 11, 3) := by decide +kernel
theorem dX3_join_66 : decode cX3_join 66 = .ok (.iload 4, 2) := by decide +kernel
theorem dX3_join_68 : decode cX3_join 68 = .ok (.aload_n 0, 1) := by decide +kernel
theorem dX3_join_69 : decode cX3_join 69 = .ok (.getfield 11, 3) := by decide +kernel
theorem dX3_join_72 : decode cX3_join 72 = .ok (.iload 4, 2) := by decide +kernel
theorem dX3_join_74 : decode cX3_join 74 = .ok (.iconst 1, 1) := by decide +kernel
theorem dX3_join_75 : decode cX3_join 75 = .ok (.isub, 1) := by decide +kernel
theorem dX3_join_76 : decode cX3_join 76 = .ok (.iaload, 1) := by decide +kernel
theorem dX3_join_77 : decode cX3_join 77 = .ok (.iastore, 1) := by decide +kernel
theorem dX3_join_78 : decode cX3_join 78 = .ok (.aload_n 0, 1) := by decide +kernel
theorem dX3_join_79 : decode cX3_join 79 = .ok (.getfield 15, 3) := by decide +kernel
theorem dX3_join_82 : decode cX3_join 82 = .ok (.iload 4, 2) := by decide +kernel
theorem dX3_join_84 : decode cX3_join 84 = .ok (.aload_n 0, 1) := by decide +kernel
theorem dX3_join_85 : decode cX3_join 85 = .ok (.getfield 15, 3) := by decide +kernel
theorem dX3_join_88 : decode cX3_join 88 = .ok (.iload 4, 2) := by decide +kernel
theorem dX3_join_90 : decode cX3_join 90 = .ok (.iconst 1, 1) := by decide +kernel
theorem dX3_join_91 : decode cX3_join 91 = .ok (.isub, 1) := by decide +kernel
theorem dX3_join_92 : decode cX3_join 92 = .ok (.iaload, 1) := by decide +kernel
theorem dX3_join_93 : decode cX3_join 93 = .ok (.iastore, 1) := by decide +kernel
theorem dX3_join_94 : decode cX3_join 94 = .ok (.iinc 4 (-1), 3) := by decide +kernel
theorem dX3_join_97 : decode cX3_join 97 = .ok (.goto (-53), 3) := by decide +kernel
theorem dX3_join_100 : decode cX3_join 100 = .ok (.aload_n 0, 1) := by decide +kernel
theorem dX3_join_101 : decode cX3_join 101 = .ok (.getfield 11, 3) := by decide +kernel
theorem dX3_join_104 : decode cX3_join 104 = .ok (.iload 4, 2) := by decide +kernel
theorem dX3_join_106 : decode cX3_join 106 = .ok (.iload_n 1, 1) := by decide +kernel
theorem dX3_join_107 : decode cX3_join 107 = .ok (.iastore, 1) := by decide +kernel
theorem dX3_join_108 : decode cX3_join 108 = .ok (.aload_n 0, 1) := by decide +kernel
theorem dX3_join_109 : decode cX3_join 109 = .ok (.getfield 15, 3) := by decide +kernel
theorem dX3_join_112 : decode cX3_join 112 = .ok (.iload 4, 2) := by decide +kernel
theorem dX3_join_114 : decode cX3_join 114 = .ok (.iload_n 2, 1) := by decide +kernel
theorem dX3_join_115 : decode cX3_join 115 = .ok (.iastore, 1) := by decide +kernel
theorem dX3_join_116 : decode cX3_join 116 = .ok (.aload_n 0, 1) := by decide +kernel
theorem dX3_join_117 : decode cX3_join 117 = .ok (.dup, 1) := by decide +kernel
theorem dX3_join_118 : decode cX3_join 118 = .ok (.getfield 22, 3) := by decide +kernel
theorem dX3_join_121 : decode cX3_join 121 = .ok (.iconst 1, 1) := by decide +kernel
theorem dX3_join_122 : decode cX3_join 122 = .ok (.iadd, 1) := by decide +kernel
theorem dX3_join_123 : decode cX3_join 123 = .ok (.putfield 22, 3) := by decide +kernel
theorem dX3_join_126 : decode cX3_join 126 = .ok (.aload_n 0, 1) := by decide +kernel
theorem dX3_join_127 : decode cX3_join 127 = .ok (.getfield 22, 3) := by decide +kernel
theorem dX3_join_130 : decode cX3_join 130 = .ok (.ireturn, 1) := by decide +kernel
theorem dX3_removeWeaker_0 : decode cX3_removeWeaker 0 = .ok (.aload_n 0, 1) := by decide +kernel
theorem dX3_removeWeaker_1 : decode cX3_removeWeaker 1 = .ok (.getfield 22, 3) := by decide +kernel
theorem dX3_removeWeaker_4 : decode cX3_removeWeaker 4 = .ok (.istore_n 2, 1) := by decide +kernel
theorem dX3_removeWeaker_5 : decode cX3_removeWeaker 5 = .ok (.iconst 0, 1) := by decide +kernel
theorem dX3_removeWeaker_6 : decode cX3_removeWeaker 6 = .ok (.istore_n 3, 1) := by decide +kernel
theorem dX3_removeWeaker_7 : decode cX3_removeWeaker 7 = .ok (.iconst 0, 1) := by decide +kernel
theorem dX3_removeWeaker_8 : decode cX3_removeWeaker 8 = .ok (.istore 4, 2) := by decide +kernel
theorem dX3_removeWeaker_10 : decode cX3_removeWeaker 10 = .ok (.iload 4, 2) := by decide +kernel
theorem dX3_removeWeaker_12 : decode cX3_removeWeaker 12 = .ok (.aload_n 0, 1) := by decide +kernel
theorem dX3_removeWeaker_13 : decode cX3_removeWeaker 13 = .ok (.getfield 22, 3) := by decide +kernel
theorem dX3_removeWeaker_16 : decode cX3_removeWeaker 16 = .ok (.if_icmp .ge 56, 3) := by decide +kernel
theorem dX3_removeWeaker_19 : decode cX3_removeWeaker 19 = .ok (.iload 4, 2) := by decide +kernel
theorem dX3_removeWeaker_21 : decode cX3_removeWeaker 21 = .ok (.bipush 6, 2) := by decide +kernel
theorem dX3_removeWeaker_23 : decode cX3_removeWeaker 23 = .ok (.if_icmp .ge 49, 3) := by decide +kernel
theorem dX3_removeWeaker_26 : decode cX3_removeWeaker 26 = .ok (.aload_n 0, 1) := by decide +kernel
theorem dX3_removeWeaker_27 : decode cX3_removeWeaker 27 = .ok (.getfield 15, 3) := by decide +kernel
theorem dX3_removeWeaker_30 : decode cX3_removeWeaker 30 = .ok (.iload 4, 2) := by decide +kernel
theorem dX3_removeWeaker_32 : decode cX3_removeWeaker 32 = .ok (.iaload, 1) := by decide +kernel
theorem dX3_removeWeaker_33 : decode cX3_removeWeaker 33 = .ok (.iload_n 1, 1) := by decide +kernel
theorem dX3_removeWeaker_34 : decode cX3_removeWeaker 34 = .ok (.if_icmp .lt 32, 3) := by decide +kernel
theorem dX3_removeWeaker_37 : decode cX3_removeWeaker 37 = .ok (.aload_n 0, 1) := by decide +kernel
theorem dX3_removeWeaker_38 : decode cX3_removeWeaker 38 = .ok (.getfield 11, 3) := by decide +kernel
theorem dX3_removeWeaker_41 : decode cX3_removeWeaker 41 = .ok (.iload_n 3, 1) := by decide +kernel
theorem dX3_removeWeaker_42 : decode cX3_removeWeaker 42 = .ok (.aload_n 0, 1) := by decide +kernel
theorem dX3_removeWeaker_43 : decode cX3_removeWeaker 43 = .ok (.getfield 11, 3) := by decide +kernel
theorem dX3_removeWeaker_46 : decode cX3_removeWeaker 46 = .ok (.iload 4, 2) := by decide +kernel
theorem dX3_removeWeaker_48 : decode cX3_removeWeaker 48 = .ok (.iaload, 1) := by decide +kernel
theorem dX3_removeWeaker_49 : decode cX3_removeWeaker 49 = .ok (.iastore, 1) := by decide +kernel
theorem dX3_removeWeaker_50 : decode cX3_removeWeaker 50 = .ok (.aload_n 0, 1) := by decide +kernel
theorem dX3_removeWeaker_51 : decode cX3_removeWeaker 51 = .ok (.getfield 15, 3) := by decide +kernel
theorem dX3_removeWeaker_54 : decode cX3_removeWeaker 54 = .ok (.iload_n 3, 1) := by decide +kernel
theorem dX3_removeWeaker_55 : decode cX3_removeWeaker 55 = .ok (.aload_n 0, 1) := by decide +kernel
theorem dX3_removeWeaker_56 : decode cX3_removeWeaker 56 = .ok (.getfield 15, 3) := by decide +kernel
theorem dX3_removeWeaker_59 : decode cX3_removeWeaker 59 = .ok (.iload 4, 2) := by decide +kernel
theorem dX3_removeWeaker_61 : decode cX3_removeWeaker 61 = .ok (.iaload, 1) := by decide +kernel
theorem dX3_removeWeaker_62 : decode cX3_removeWeaker 62 = .ok (.iastore, 1) := by decide +kernel
theorem dX3_removeWeaker_63 : decode cX3_removeWeaker 63 = .ok (.iinc 3 1, 3) := by decide +kernel
theorem dX3_removeWeaker_66 : decode cX3_removeWeaker 66 = .ok (.iinc 4 1, 3) := by decide +kernel
theorem dX3_removeWeaker_69 : decode cX3_removeWeaker 69 = .ok (.goto (-59), 3) := by decide +kernel
theorem dX3_removeWeaker_72 : decode cX3_removeWeaker 72 = .ok (.aload_n 0, 1) := by decide +kernel
theorem dX3_removeWeaker_73 : decode cX3_removeWeaker 73 = .ok (.iload_n 3, 1) := by decide +kernel
theorem dX3_removeWeaker_74 : decode cX3_removeWeaker 74 = .ok (.putfield 22, 3) := by decide +kernel
theorem dX3_removeWeaker_77 : decode cX3_removeWeaker 77 = .ok (.iload_n 2, 1) := by decide +kernel
theorem dX3_removeWeaker_78 : decode cX3_removeWeaker 78 = .ok (.iload_n 3, 1) := by decide +kernel
theorem dX3_removeWeaker_79 : decode cX3_removeWeaker 79 = .ok (.isub, 1) := by decide +kernel
theorem dX3_removeWeaker_80 : decode cX3_removeWeaker 80 = .ok (.ireturn, 1) := by decide +kernel
theorem dX3_leastStrength_0 : decode cX3_leastStrength 0 = .ok (.ldc 31, 2) := by decide +kernel
theorem dX3_leastStrength_2 : decode cX3_leastStrength 2 = .ok (.istore_n 1, 1) := by decide +kernel
theorem dX3_leastStrength_3 : decode cX3_leastStrength 3 = .ok (.iconst 0, 1) := by decide +kernel
theorem dX3_leastStrength_4 : decode cX3_leastStrength 4 = .ok (.istore_n 2, 1) := by decide +kernel
theorem dX3_leastStrength_5 : decode cX3_leastStrength 5 = .ok (.iload_n 2, 1) := by decide +kernel
theorem dX3_leastStrength_6 : decode cX3_leastStrength 6 = .ok (.aload_n 0, 1) := by decide +kernel
theorem dX3_leastStrength_7 : decode cX3_leastStrength 7 = .ok (.getfield 22, 3) := by decide +kernel
theorem dX3_leastStrength_10 : decode cX3_leastStrength 10 = .ok (.if_icmp .ge 38, 3) := by decide +kernel
theorem dX3_leastStrength_13 : decode cX3_leastStrength 13 = .ok (.iload_n 2, 1) := by decide +kernel
theorem dX3_leastStrength_14 : decode cX3_leastStrength 14 = .ok (.bipush 6, 2) := by decide +kernel
theorem dX3_leastStrength_16 : decode cX3_leastStrength 16 = .ok (.if_icmp .ge 32, 3) := by decide +kernel
theorem dX3_leastStrength_19 : decode cX3_leastStrength 19 = .ok (.iload_n 1, 1) := by decide +kernel
theorem dX3_leastStrength_20 : decode cX3_leastStrength 20 = .ok (.ldc 31, 2) := by decide +kernel
theorem dX3_leastStrength_22 : decode cX3_leastStrength 22 = .ok (.if_icmp .eq 13, 3) := by decide +kernel
theorem dX3_leastStrength_25 : decode cX3_leastStrength 25 = .ok (.aload_n 0, 1) := by decide +kernel
theorem dX3_leastStrength_26 : decode cX3_leastStrength 26 = .ok (.getfield 15, 3) := by decide +kernel
theorem dX3_leastStrength_29 : decode cX3_leastStrength 29 = .ok (.iload_n 2, 1) := by decide +kernel
theorem dX3_leastStrength_30 : decode cX3_leastStrength 30 = .ok (.iaload, 1) := by decide +kernel
theorem dX3_leastStrength_31 : decode cX3_leastStrength 31 = .ok (.iload_n 1, 1) := by decide +kernel
theorem dX3_leastStrength_32 : decode cX3_leastStrength 32 = .ok (.if_icmp .ge 10, 3) := by decide +kernel
theorem dX3_leastStrength_35 : decode cX3_leastStrength 35 = .ok (.aload_n 0, 1) := by decide +kernel
theorem dX3_leastStrength_36 : decode cX3_leastStrength 36 = .ok (.getfield 15, 3) := by decide +kernel
theorem dX3_leastStrength_39 : decode cX3_leastStrength 39 = .ok (.iload_n 2, 1) := by decide +kernel
theorem dX3_leastStrength_40 : decode cX3_leastStrength 40 = .ok (.iaload, 1) := by decide +kernel
theorem dX3_leastStrength_41 : decode cX3_leastStrength 41 = .ok (.istore_n 1, 1) := by decide +kernel
theorem dX3_leastStrength_42 : decode cX3_leastStrength 42 = .ok (.iinc 2 1, 3) := by decide +kernel
theorem dX3_leastStrength_45 : decode cX3_leastStrength 45 = .ok (.goto (-40), 3) := by decide +kernel
theorem dX3_leastStrength_48 : decode cX3_leastStrength 48 = .ok (.iload_n 1, 1) := by decide +kernel
theorem dX3_leastStrength_49 : decode cX3_leastStrength 49 = .ok (.ireturn, 1) := by decide +kernel
set_option maxRecDepth 20000 in
theorem ggX3_breaksAt_X3_spliceOfFrame : GoodIn wsX3_breaksAt wsX3_spliceOfFrame := goodIn_r _ [10, 11, 12, 13, 18, 19, 20, 21] (by decide +kernel) (by decide +kernel)
set_option maxRecDepth 20000 in
theorem gX3_breaksAt_X3_spliceOfFrame : GoodIn wsX3_breaksAt (wsV RX3 32 RX3 yX3_spliceOfFrame wsX3_spliceOfFrame) := goodIn_app (goodIn_of _ (by decide +kernel)) ggX3_breaksAt_X3_spliceOfFrame
set_option maxRecDepth 20000 in
theorem ggX3_breaksAt_X3_hasSplice : GoodIn wsX3_breaksAt wsX3_hasSplice := goodIn_r _ [17, 11, 18, 19, 20, 21] (by decide +kernel) (by decide +kernel)
set_option maxRecDepth 20000 in
theorem gX3_breaksAt_X3_hasSplice : GoodIn wsX3_breaksAt (wsV RX3 36 RX3 yX3_hasSplice wsX3_hasSplice) := goodIn_app (goodIn_of _ (by decide +kernel)) ggX3_breaksAt_X3_hasSplice
theorem dX3_breaksAt_0 : decode cX3_breaksAt 0 = .ok (.aload_n 0, 1) := by decide +kernel
theorem dX3_breaksAt_1 : decode cX3_breaksAt 1 = .ok (.iload_n 1, 1) := by decide +kernel
theorem dX3_breaksAt_2 : decode cX3_breaksAt 2 = .ok (.invokevirtual 32, 3) := by decide +kernel
theorem dX3_breaksAt_5 : decode cX3_breaksAt 5 = .ok (.istore_n 2, 1) := by decide +kernel
theorem dX3_breaksAt_6 : decode cX3_breaksAt 6 = .ok (.aload_n 0, 1) := by decide +kernel
theorem dX3_breaksAt_7 : decode cX3_breaksAt 7 = .ok (.iload_n 2, 1) := by decide +kernel
theorem dX3_breaksAt_8 : decode cX3_breaksAt 8 = .ok (.invokevirtual 36, 3) := by decide +kernel
theorem dX3_breaksAt_11 : decode cX3_breaksAt 11 = .ok (.ifCond .ne 5, 3) := by decide +kernel
theorem dX3_breaksAt_14 : decode cX3_breaksAt 14 = .ok (.iconst 0, 1) := by decide +kernel
theorem dX3_breaksAt_15 : decode cX3_breaksAt 15 = .ok (.ireturn, 1) := by decide +kernel
theorem dX3_breaksAt_16 : decode cX3_breaksAt 16 = .ok (.aload_n 0, 1) := by decide +kernel
theorem dX3_breaksAt_17 : decode cX3_breaksAt 17 = .ok (.getfield 15, 3) := by decide +kernel
theorem dX3_breaksAt_20 : decode cX3_breaksAt 20 = .ok (.iload_n 2, 1) := by decide +kernel
theorem dX3_breaksAt_21 : decode cX3_breaksAt 21 = .ok (.iconst 0, 1) := by decide +kernel
theorem dX3_breaksAt_22 : decode cX3_breaksAt 22 = .ok (.aload_n 0, 1) := by decide +kernel
theorem dX3_breaksAt_23 : decode cX3_breaksAt 23 = .ok (.getfield 15, 3) := by decide +kernel
theorem dX3_breaksAt_26 : decode cX3_breaksAt 26 = .ok (.iload_n 2, 1) := by decide +kernel
theorem dX3_breaksAt_27 : decode cX3_breaksAt 27 = .ok (.iaload, 1) := by decide +kernel
theorem dX3_breaksAt_28 : decode cX3_breaksAt 28 = .ok (.iconst 1, 1) := by decide +kernel
theorem dX3_breaksAt_29 : decode cX3_breaksAt 29 = .ok (.isub, 1) := by decide +kernel
theorem dX3_breaksAt_30 : decode cX3_breaksAt 30 = .ok (.invokestatic 41, 3) := by decide +kernel
theorem dX3_breaksAt_33 : decode cX3_breaksAt 33 = .ok (.iastore, 1) := by decide +kernel
theorem dX3_breaksAt_34 : decode cX3_breaksAt 34 = .ok (.aload_n 0, 1) := by decide +kernel
theorem dX3_breaksAt_35 : decode cX3_breaksAt 35 = .ok (.getfield 15, 3) := by decide +kernel
theorem dX3_breaksAt_38 : decode cX3_breaksAt 38 = .ok (.iload_n 2, 1) := by decide +kernel
theorem dX3_breaksAt_39 : decode cX3_breaksAt 39 = .ok (.iaload, 1) := by decide +kernel
theorem dX3_breaksAt_40 : decode cX3_breaksAt 40 = .ok (.ifCond .ne 7, 3) := by decide +kernel
theorem dX3_breaksAt_43 : decode cX3_breaksAt 43 = .ok (.iconst 1, 1) := by decide +kernel
theorem dX3_breaksAt_44 : decode cX3_breaksAt 44 = .ok (.goto 4, 3) := by decide +kernel
theorem dX3_breaksAt_47 : decode cX3_breaksAt 47 = .ok (.iconst 0, 1) := by decide +kernel
theorem dX3_breaksAt_48 : decode cX3_breaksAt 48 = .ok (.ireturn, 1) := by decide +kernel
set_option maxRecDepth 20000 in
theorem ggX3_repairAt_X3_spliceOfFrame : GoodIn wsX3_repairAt wsX3_spliceOfFrame := goodIn_r _ [6, 7, 8, 9, 14, 15, 16, 17] (by decide +kernel) (by decide +kernel)
set_option maxRecDepth 20000 in
theorem gX3_repairAt_X3_spliceOfFrame : GoodIn wsX3_repairAt (wsV RX3 32 RX3 yX3_spliceOfFrame wsX3_spliceOfFrame) := goodIn_app (goodIn_of _ (by decide +kernel)) ggX3_repairAt_X3_spliceOfFrame
set_option maxRecDepth 20000 in
theorem ggX3_repairAt_X3_hasSplice : GoodIn wsX3_repairAt wsX3_hasSplice := goodIn_r _ [13, 7, 14, 15, 16, 17] (by decide +kernel) (by decide +kernel)
set_option maxRecDepth 20000 in
theorem gX3_repairAt_X3_hasSplice : GoodIn wsX3_repairAt (wsV RX3 36 RX3 yX3_hasSplice wsX3_hasSplice) := goodIn_app (goodIn_of _ (by decide +kernel)) ggX3_repairAt_X3_hasSplice
theorem dX3_repairAt_0 : decode cX3_repairAt 0 = .ok (.aload_n 0, 1) := by decide +kernel
theorem dX3_repairAt_1 : decode cX3_repairAt 1 = .ok (.iload_n 1, 1) := by decide +kernel
theorem dX3_repairAt_2 : decode cX3_repairAt 2 = .ok (.invokevirtual 32, 3) := by decide +kernel
theorem dX3_repairAt_5 : decode cX3_repairAt 5 = .ok (.istore_n 2, 1) := by decide +kernel
theorem dX3_repairAt_6 : decode cX3_repairAt 6 = .ok (.aload_n 0, 1) := by decide +kernel
theorem dX3_repairAt_7 : decode cX3_repairAt 7 = .ok (.iload_n 2, 1) := by decide +kernel
theorem dX3_repairAt_8 : decode cX3_repairAt 8 = .ok (.invokevirtual 36, 3) := by decide +kernel
theorem dX3_repairAt_11 : decode cX3_repairAt 11 = .ok (.ifCond .eq 11, 3) := by decide +kernel
theorem dX3_repairAt_14 : decode cX3_repairAt 14 = .ok (.aload_n 0, 1) := by decide +kernel
theorem dX3_repairAt_15 : decode cX3_repairAt 15 = .ok (.getfield 15, 3) := by decide +kernel
theorem dX3_repairAt_18 : decode cX3_repairAt 18 = .ok (.iload_n 2, 1) := by decide +kernel
theorem dX3_repairAt_19 : decode cX3_repairAt 19 = .ok (.bipush 9, 2) := by decide +kernel
theorem dX3_repairAt_21 : decode cX3_repairAt 21 = .ok (.iastore, 1) := by decide +kernel
theorem dX3_repairAt_22 : decode cX3_repairAt 22 = .ok (.return_, 1) := by decide +kernel
set_option maxRecDepth 20000 in
theorem ggX4_init_X6_init : GoodIn wsX4_init wsX6_init := goodIn_r _ [14, 15, 2, 3, 16, 17, 18, 19, 20, 21, 22, 23, 24, 25, 26, 27, 28, 29, 30, 31, 32, 53, 54, 55, 56, 57, 72, 73, 74, 75] (by decide +kernel) (by decide +kernel)
set_option maxRecDepth 20000 in
theorem gX4_init_X6_init : GoodIn wsX4_init (wsX6_init) := ggX4_init_X6_init
set_option maxRecDepth 20000 in
theorem ggX4_init_X5_init : GoodIn wsX4_init wsX5_init := goodIn_r _ [34, 35, 2, 3, 36, 37, 38, 39, 40, 41, 42, 43, 44, 45, 46, 47, 18, 48, 49, 50, 51, 52, 76, 77, 78, 79, 80, 81, 60, 61, 62, 63, 64, 65, 66, 67, 68, 69, 70, 71, 82, 83, 84] (by decide +kernel) (by decide +kernel)
set_option maxRecDepth 20000 in
theorem gX4_init_X5_init_n18 : GoodIn wsX4_init (wsX5_init) := ggX4_init_X5_init
theorem dX4_init_0 : decode cX4_init 0 = .ok (.aload_n 0, 1) := by decide +kernel
theorem dX4_init_1 : decode cX4_init 1 = .ok (.invokespecial 1, 3) := by decide +kernel
theorem dX4_init_4 : decode cX4_init 4 = .ok (.aload_n 0, 1) := by decide +kernel
theorem dX4_init_5 : decode cX4_init 5 = .ok (.new 7, 3) := by decide +kernel
theorem dX4_init_8 : decode cX4_init 8 = .ok (.dup, 1) := by decide +kernel
theorem dX4_init_9 : decode cX4_init 9 = .ok (.invokespecial 9, 3) := by decide +kernel
theorem dX4_init_12 : decode cX4_init 12 = .ok (.putfield 10, 3) := by decide +kernel
theorem dX4_init_15 : decode cX4_init 15 = .ok (.aload_n 0, 1) := by decide +kernel
theorem dX4_init_16 : decode cX4_init 16 = .ok (.new 16, 3) := by decide +kernel
theorem dX4_init_19 : decode cX4_init 19 = .ok (.dup, 1) := by decide +kernel
theorem dX4_init_20 : decode cX4_init 20 = .ok (.invokespecial 18, 3) := by decide +kernel
theorem dX4_init_23 : decode cX4_init 23 = .ok (.putfield 19, 3) := by decide +kernel
theorem dX4_init_26 : decode cX4_init 26 = .ok (.return_, 1) := by decide +kernel
set_option maxRecDepth 20000 in
theorem ggX4_copyFrom_X6_copyFrom : GoodIn wsX4_copyFrom wsX6_copyFrom := goodIn_r _ [7, 8, 9, 10, 11, 12, 13, 14, 15, 16, 17, 18, 19, 20, 21, 22, 23, 24, 25, 26, 27, 28, 29, 6, 30, 31, 32, 33, 34, 74, 75, 76, 77, 78, 79, 80, 81, 82] (by decide +kernel) (by decide +kernel)
set_option maxRecDepth 20000 in
theorem gX4_copyFrom_X6_copyFrom : GoodIn wsX4_copyFrom (wsV RX4 23 RX6 yX6_copyFrom wsX6_copyFrom) := goodIn_app (goodIn_of _ (by decide +kernel)) ggX4_copyFrom_X6_copyFrom
set_option maxRecDepth 20000 in
theorem ggX4_copyFrom_X5_copyFrom : GoodIn wsX4_copyFrom wsX5_copyFrom := goodIn_r _ [39, 40, 41, 42, 43, 44, 45, 46, 47, 48, 49, 50, 51, 52, 53, 54, 55, 56, 57, 58, 59, 60, 61, 62, 12, 13, 14, 63, 64, 65, 66, 67, 68, 69, 70, 71, 83, 84, 85, 86, 87, 88, 89, 90, 91, 92, 93, 94, 95, 96, 97, 98, 99, 100, 101, 102, 103] (by decide +kernel) (by decide +kernel)
set_option maxRecDepth 20000 in
theorem gX4_copyFrom_X5_copyFrom : GoodIn wsX4_copyFrom (wsV RX4 27 RX5 yX5_copyFrom wsX5_copyFrom) := goodIn_app (goodIn_of _ (by decide +kernel)) ggX4_copyFrom_X5_copyFrom
theorem dX4_copyFrom_0 : decode cX4_copyFrom 0 = .ok (.aload_n 0, 1) := by decide +kernel
theorem dX4_copyFrom_1 : decode cX4_copyFrom 1 = .ok (.getfield 10, 3) := by decide +kernel
theorem dX4_copyFrom_4 : decode cX4_copyFrom 4 = .ok (.aload_n 1, 1) := by decide +kernel
theorem dX4_copyFrom_5 : decode cX4_copyFrom 5 = .ok (.getfield 10, 3) := by decide +kernel
theorem dX4_copyFrom_8 : decode cX4_copyFrom 8 = .ok (.invokevirtual 23, 3) := by decide +kernel
theorem dX4_copyFrom_11 : decode cX4_copyFrom 11 = .ok (.aload_n 0, 1) := by decide +kernel
theorem dX4_copyFrom_12 : decode cX4_copyFrom 12 = .ok (.getfield 19, 3) := by decide +kernel
theorem dX4_copyFrom_15 : decode cX4_copyFrom 15 = .ok (.aload_n 1, 1) := by decide +kernel
theorem dX4_copyFrom_16 : decode cX4_copyFrom 16 = .ok (.getfield 19, 3) := by decide +kernel
theorem dX4_copyFrom_19 : decode cX4_copyFrom 19 = .ok (.invokevirtual 27, 3) := by decide +kernel
theorem dX4_copyFrom_22 : decode cX4_copyFrom 22 = .ok (.return_, 1) := by decide +kernel
set_option maxRecDepth 20000 in
theorem ggX5_init_X0_init : GoodIn wsX5_init wsX0_init := goodIn_r _ [14, 15, 2, 3, 16, 17, 18, 22, 23, 24, 25, 26, 27] (by decide +kernel) (by decide +kernel)
set_option maxRecDepth 20000 in
theorem gX5_init_X0_init_n11 : GoodIn wsX5_init (wsX0_init) := ggX5_init_X0_init
set_option maxRecDepth 20000 in
theorem ggX5_init_X2_init : GoodIn wsX5_init wsX2_init := goodIn_r _ [20, 21, 2, 3] (by decide +kernel) (by decide +kernel)
set_option maxRecDepth 20000 in
theorem gX5_init_X2_init_n20 : GoodIn wsX5_init (wsX2_init) := ggX5_init_X2_init
theorem dX5_init_0 : decode cX5_init 0 = .ok (.aload_n 0, 1) := by decide +kernel
theorem dX5_init_1 : decode cX5_init 1 = .ok (.invokespecial 3, 3) := by decide +kernel
theorem dX5_init_4 : decode cX5_init 4 = .ok (.aload_n 0, 1) := by decide +kernel
theorem dX5_init_5 : decode cX5_init 5 = .ok (.new 9, 3) := by decide +kernel
theorem dX5_init_8 : decode cX5_init 8 = .ok (.dup, 1) := by decide +kernel
theorem dX5_init_9 : decode cX5_init 9 = .ok (.invokespecial 11, 3) := by decide +kernel
theorem dX5_init_12 : decode cX5_init 12 = .ok (.putfield 12, 3) := by decide +kernel
theorem dX5_init_15 : decode cX5_init 15 = .ok (.aload_n 0, 1) := by decide +kernel
theorem dX5_init_16 : decode cX5_init 16 = .ok (.new 18, 3) := by decide +kernel
theorem dX5_init_19 : decode cX5_init 19 = .ok (.dup, 1) := by decide +kernel
theorem dX5_init_20 : decode cX5_init 20 = .ok (.invokespecial 20, 3) := by decide +kernel
theorem dX5_init_23 : decode cX5_init 23 = .ok (.putfield 21, 3) := by decide +kernel
theorem dX5_init_26 : decode cX5_init 26 = .ok (.aload_n 0, 1) := by decide +kernel
theorem dX5_init_27 : decode cX5_init 27 = .ok (.new 18, 3) := by decide +kernel
theorem dX5_init_30 : decode cX5_init 30 = .ok (.dup, 1) := by decide +kernel
theorem dX5_init_31 : decode cX5_init 31 = .ok (.invokespecial 20, 3) := by decide +kernel
theorem dX5_init_34 : decode cX5_init 34 = .ok (.putfield 25, 3) := by decide +kernel
theorem dX5_init_37 : decode cX5_init 37 = .ok (.return_, 1) := by decide +kernel
set_option maxRecDepth 20000 in
theorem ggX5_copyFrom_X0_copyFrom : GoodIn wsX5_copyFrom wsX0_copyFrom := goodIn_r _ [17, 18, 19, 20, 21, 22, 23, 24, 25, 26, 27, 48, 49, 50, 51, 52, 53] (by decide +kernel) (by decide +kernel)
set_option maxRecDepth 20000 in
theorem gX5_copyFrom_X0_copyFrom : GoodIn wsX5_copyFrom (wsV RX5 48 RX0 yX0_copyFrom wsX0_copyFrom) := goodIn_app (goodIn_of _ (by decide +kernel)) ggX5_copyFrom_X0_copyFrom
set_option maxRecDepth 20000 in
theorem ggX5_copyFrom_X2_copyFrom : GoodIn wsX5_copyFrom wsX2_copyFrom := goodIn_r _ [32, 33, 34, 35, 54, 55, 56] (by decide +kernel) (by decide +kernel)
set_option maxRecDepth 20000 in
theorem gX5_copyFrom_X2_copyFrom : GoodIn wsX5_copyFrom (wsV RX5 61 RX2 yX2_copyFrom wsX2_copyFrom) := goodIn_app (goodIn_of _ (by decide +kernel)) ggX5_copyFrom_X2_copyFrom
theorem dX5_copyFrom_0 : decode cX5_copyFrom 0 = .ok (.aload_n 0, 1) := by decide +kernel
theorem dX5_copyFrom_1 : decode cX5_copyFrom 1 = .ok (.aload_n 1, 1) := by decide +kernel
theorem dX5_copyFrom_2 : decode cX5_copyFrom 2 = .ok (.getfield 28, 3) := by decide +kernel
theorem dX5_copyFrom_5 : decode cX5_copyFrom 5 = .ok (.putfield 28, 3) := by decide +kernel
theorem dX5_copyFrom_8 : decode cX5_copyFrom 8 = .ok (.aload_n 0, 1) := by decide +kernel
theorem dX5_copyFrom_9 : decode cX5_copyFrom 9 = .ok (.aload_n 1, 1) := by decide +kernel
theorem dX5_copyFrom_10 : decode cX5_copyFrom 10 = .ok (.getfield 32, 3) := by decide +kernel
theorem dX5_copyFrom_13 : decode cX5_copyFrom 13 = .ok (.putfield 32, 3) := by decide +kernel
theorem dX5_copyFrom_16 : decode cX5_copyFrom 16 = .ok (.aload_n 0, 1) := by decide +kernel
theorem dX5_copyFrom_17 : decode cX5_copyFrom 17 = .ok (.aload_n 1, 1) := by decide +kernel
theorem dX5_copyFrom_18 : decode cX5_copyFrom 18 = .ok (.getfield 36, 3) := by decide +kernel
theorem dX5_copyFrom_21 : decode cX5_copyFrom 21 = .ok (.putfield 36, 3) := by decide +kernel
theorem dX5_copyFrom_24 : decode cX5_copyFrom 24 = .ok (.aload_n 0, 1) := by decide +kernel
theorem dX5_copyFrom_25 : decode cX5_copyFrom 25 = .ok (.aload_n 1, 1) := by decide +kernel
theorem dX5_copyFrom_26 : decode cX5_copyFrom 26 = .ok (.getfield 39, 3) := by decide +kernel
theorem dX5_copyFrom_29 : decode cX5_copyFrom 29 = .ok (.putfield 39, 3) := by decide +kernel
theorem dX5_copyFrom_32 : decode cX5_copyFrom 32 = .ok (.aload_n 0, 1) := by decide +kernel
theorem dX5_copyFrom_33 : decode cX5_copyFrom 33 = .ok (.aload_n 1, 1) := by decide +kernel
theorem dX5_copyFrom_34 : decode cX5_copyFrom 34 = .ok (.getfield 42, 3) := by decide +kernel
theorem dX5_copyFrom_37 : decode cX5_copyFrom 37 = .ok (.putfield 42, 3) := by decide +kernel
theorem dX5_copyFrom_40 : decode cX5_copyFrom 40 = .ok (.aload_n 0, 1) := by decide +kernel
theorem dX5_copyFrom_41 : decode cX5_copyFrom 41 = .ok (.aload_n 1, 1) := by decide +kernel
theorem dX5_copyFrom_42 : decode cX5_copyFrom 42 = .ok (.getfield 45, 3) := by decide +kernel
theorem dX5_copyFrom_45 : decode cX5_copyFrom 45 = .ok (.putfield 45, 3) := by decide +kernel
theorem dX5_copyFrom_48 : decode cX5_copyFrom 48 = .ok (.aload_n 0, 1) := by decide +kernel
theorem dX5_copyFrom_49 : decode cX5_copyFrom 49 = .ok (.getfield 12, 3) := by decide +kernel
theorem dX5_copyFrom_52 : decode cX5_copyFrom 52 = .ok (.aload_n 1, 1) := by decide +kernel
theorem dX5_copyFrom_53 : decode cX5_copyFrom 53 = .ok (.getfield 12, 3) := by decide +kernel
theorem dX5_copyFrom_56 : decode cX5_copyFrom 56 = .ok (.invokevirtual 48, 3) := by decide +kernel
theorem dX5_copyFrom_59 : decode cX5_copyFrom 59 = .ok (.aload_n 0, 1) := by decide +kernel
theorem dX5_copyFrom_60 : decode cX5_copyFrom 60 = .ok (.aload_n 1, 1) := by decide +kernel
theorem dX5_copyFrom_61 : decode cX5_copyFrom 61 = .ok (.getfield 52, 3) := by decide +kernel
theorem dX5_copyFrom_64 : decode cX5_copyFrom 64 = .ok (.putfield 52, 3) := by decide +kernel
theorem dX5_copyFrom_67 : decode cX5_copyFrom 67 = .ok (.aload_n 0, 1) := by decide +kernel
theorem dX5_copyFrom_68 : decode cX5_copyFrom 68 = .ok (.aload_n 1, 1) := by decide +kernel
theorem dX5_copyFrom_69 : decode cX5_copyFrom 69 = .ok (.getfield 55, 3) := by decide +kernel
theorem dX5_copyFrom_72 : decode cX5_copyFrom 72 = .ok (.putfield 55, 3) := by decide +kernel
theorem dX5_copyFrom_75 : decode cX5_copyFrom 75 = .ok (.aload_n 0, 1) := by decide +kernel
theorem dX5_copyFrom_76 : decode cX5_copyFrom 76 = .ok (.aload_n 1, 1) := by decide +kernel
theorem dX5_copyFrom_77 : decode cX5_copyFrom 77 = .ok (.getfield 58, 3) := by decide +kernel
theorem dX5_copyFrom_80 : decode cX5_copyFrom 80 = .ok (.putfield 58, 3) := by decide +kernel
theorem dX5_copyFrom_83 : decode cX5_copyFrom 83 = .ok (.aload_n 0, 1) := by decide +kernel
theorem dX5_copyFrom_84 : decode cX5_copyFrom 84 = .ok (.getfield 21, 3) := by decide +kernel
theorem dX5_copyFrom_87 : decode cX5_copyFrom 87 = .ok (.aload_n 1, 1) := by decide +kernel
theorem dX5_copyFrom_88 : decode cX5_copyFrom 88 = .ok (.getfield 21, 3) := by decide +kernel
theorem dX5_copyFrom_91 : decode cX5_copyFrom 91 = .ok (.invokevirtual 61, 3) := by decide +kernel
theorem dX5_copyFrom_94 : decode cX5_copyFrom 94 = .ok (.aload_n 0, 1) := by decide +kernel
theorem dX5_copyFrom_95 : decode cX5_copyFrom 95 = .ok (.getfield 25, 3) := by decide +kernel
theorem dX5_copyFrom_98 : decode cX5_copyFrom 98 = .ok (.aload_n 1, 1) := by decide +kernel
theorem dX5_copyFrom_99 : decode cX5_copyFrom 99 = .ok (.getfield 25, 3) := by decide +kernel
theorem dX5_copyFrom_102 : decode cX5_copyFrom 102 = .ok (.invokevirtual 61, 3) := by decide +kernel
theorem dX5_copyFrom_105 : decode cX5_copyFrom 105 = .ok (.return_, 1) := by decide +kernel
theorem dX5_projectorNumbered_0 : decode cX5_projectorNumbered 0 = .ok (.iload_n 1, 1) := by decide +kernel
theorem dX5_projectorNumbered_1 : decode cX5_projectorNumbered 1 = .ok (.ifCond .ne 10, 3) := by decide +kernel
theorem dX5_projectorNumbered_4 : decode cX5_projectorNumbered 4 = .ok (.aload_n 0, 1) := by decide +kernel
theorem dX5_projectorNumbered_5 : decode cX5_projectorNumbered 5 = .ok (.getfield 21, 3) := by decide +kernel
theorem dX5_projectorNumbered_8 : decode cX5_projectorNumbered 8 = .ok (.goto 7, 3) := by decide +kernel
theorem dX5_projectorNumbered_11 : decode cX5_projectorNumbered 11 = .ok (.aload_n 0, 1) := by decide +kernel
theorem dX5_projectorNumbered_12 : decode cX5_projectorNumbered 12 = .ok (.getfield 25, 3) := by decide +kernel
theorem dX5_projectorNumbered_15 : decode cX5_projectorNumbered 15 = .ok (.areturn, 1) := by decide +kernel
theorem dX5_count_0 : decode cX5_count 0 = .ok (.iload_n 1, 1) := by decide +kernel
theorem dX5_count_1 : decode cX5_count 1 = .ok (.tableswitch 119 0 9 #[55, 68, 73, 78, 83, 88, 93, 98, 103, 111], 55) := by decide +kernel
theorem dX5_count_56 : decode cX5_count 56 = .ok (.aload_n 0, 1) := by decide +kernel
theorem dX5_count_57 : decode cX5_count 57 = .ok (.getfield 28, 3) := by decide +kernel
theorem dX5_count_60 : decode cX5_count 60 = .ok (.ifCond .eq 7, 3) := by decide +kernel
theorem dX5_count_63 : decode cX5_count 63 = .ok (.iconst 1, 1) := by decide +kernel
theorem dX5_count_64 : decode cX5_count 64 = .ok (.goto 4, 3) := by decide +kernel
theorem dX5_count_67 : decode cX5_count 67 = .ok (.iconst 0, 1) := by decide +kernel
theorem dX5_count_68 : decode cX5_count 68 = .ok (.ireturn, 1) := by decide +kernel
theorem dX5_count_69 : decode cX5_count 69 = .ok (.aload_n 0, 1) := by decide +kernel
theorem dX5_count_70 : decode cX5_count 70 = .ok (.getfield 32, 3) := by decide +kernel
theorem dX5_count_73 : decode cX5_count 73 = .ok (.ireturn, 1) := by decide +kernel
theorem dX5_count_74 : decode cX5_count 74 = .ok (.aload_n 0, 1) := by decide +kernel
theorem dX5_count_75 : decode cX5_count 75 = .ok (.getfield 52, 3) := by decide +kernel
theorem dX5_count_78 : decode cX5_count 78 = .ok (.ireturn, 1) := by decide +kernel
theorem dX5_count_79 : decode cX5_count 79 = .ok (.aload_n 0, 1) := by decide +kernel
theorem dX5_count_80 : decode cX5_count 80 = .ok (.getfield 36, 3) := by decide +kernel
theorem dX5_count_83 : decode cX5_count 83 = .ok (.ireturn, 1) := by decide +kernel
theorem dX5_count_84 : decode cX5_count 84 = .ok (.aload_n 0, 1) := by decide +kernel
theorem dX5_count_85 : decode cX5_count 85 = .ok (.getfield 39, 3) := by decide +kernel
theorem dX5_count_88 : decode cX5_count 88 = .ok (.ireturn, 1) := by decide +kernel
theorem dX5_count_89 : decode cX5_count 89 = .ok (.aload_n 0, 1) := by decide +kernel
theorem dX5_count_90 : decode cX5_count 90 = .ok (.getfield 42, 3) := by decide +kernel
theorem dX5_count_93 : decode cX5_count 93 = .ok (.ireturn, 1) := by decide +kernel
theorem dX5_count_94 : decode cX5_count 94 = .ok (.aload_n 0, 1) := by decide +kernel
theorem dX5_count_95 : decode cX5_count 95 = .ok (.getfield 45, 3) := by decide +kernel
theorem dX5_count_98 : decode cX5_count 98 = .ok (.ireturn, 1) := by decide +kernel
theorem dX5_count_99 : decode cX5_count 99 = .ok (.aload_n 0, 1) := by decide +kernel
theorem dX5_count_100 : decode cX5_count 100 = .ok (.getfield 55, 3) := by decide +kernel
theorem dX5_count_103 : decode cX5_count 103 = .ok (.ireturn, 1) := by decide +kernel
theorem dX5_count_104 : decode cX5_count 104 = .ok (.aload_n 0, 1) := by decide +kernel
theorem dX5_count_105 : decode cX5_count 105 = .ok (.getfield 12, 3) := by decide +kernel
theorem dX5_count_108 : decode cX5_count 108 = .ok (.getfield 64, 3) := by decide +kernel
theorem dX5_count_111 : decode cX5_count 111 = .ok (.ireturn, 1) := by decide +kernel
theorem dX5_count_112 : decode cX5_count 112 = .ok (.aload_n 0, 1) := by decide +kernel
theorem dX5_count_113 : decode cX5_count 113 = .ok (.getfield 12, 3) := by decide +kernel
theorem dX5_count_116 : decode cX5_count 116 = .ok (.getfield 67, 3) := by decide +kernel
theorem dX5_count_119 : decode cX5_count 119 = .ok (.ireturn, 1) := by decide +kernel
theorem dX5_count_120 : decode cX5_count 120 = .ok (.ldc 70, 2) := by decide +kernel
theorem dX5_count_122 : decode cX5_count 122 = .ok (.ireturn, 1) := by decide +kernel
set_option maxRecDepth 20000 in
theorem ggX5_open_X0_dropAll : GoodIn wsX5_open wsX0_dropAll := goodIn_r _ [20, 21, 22, 50, 51, 52, 53, 54, 55] (by decide +kernel) (by decide +kernel)
set_option maxRecDepth 20000 in
theorem gX5_open_X0_dropAll : GoodIn wsX5_open (wsV RX5 71 RX0 yX0_dropAll wsX0_dropAll) := goodIn_app (goodIn_of _ (by decide +kernel)) ggX5_open_X0_dropAll
set_option maxRecDepth 20000 in
theorem ggX5_open_X2_thread : GoodIn wsX5_open wsX2_thread := goodIn_r _ [27, 28, 29, 42, 43, 44] (by decide +kernel) (by decide +kernel)
set_option maxRecDepth 20000 in
theorem gX5_open_X2_thread : GoodIn wsX5_open (wsV RX5 74 RX2 yX2_thread wsX2_thread) := goodIn_app (goodIn_of _ (by decide +kernel)) ggX5_open_X2_thread
theorem dX5_open_0 : decode cX5_open 0 = .ok (.aload_n 0, 1) := by decide +kernel
theorem dX5_open_1 : decode cX5_open 1 = .ok (.iconst 1, 1) := by decide +kernel
theorem dX5_open_2 : decode cX5_open 2 = .ok (.putfield 28, 3) := by decide +kernel
theorem dX5_open_5 : decode cX5_open 5 = .ok (.aload_n 0, 1) := by decide +kernel
theorem dX5_open_6 : decode cX5_open 6 = .ok (.iconst 0, 1) := by decide +kernel
theorem dX5_open_7 : decode cX5_open 7 = .ok (.putfield 32, 3) := by decide +kernel
theorem dX5_open_10 : decode cX5_open 10 = .ok (.aload_n 0, 1) := by decide +kernel
theorem dX5_open_11 : decode cX5_open 11 = .ok (.iconst 0, 1) := by decide +kernel
theorem dX5_open_12 : decode cX5_open 12 = .ok (.putfield 36, 3) := by decide +kernel
theorem dX5_open_15 : decode cX5_open 15 = .ok (.aload_n 0, 1) := by decide +kernel
theorem dX5_open_16 : decode cX5_open 16 = .ok (.iconst 0, 1) := by decide +kernel
theorem dX5_open_17 : decode cX5_open 17 = .ok (.putfield 39, 3) := by decide +kernel
theorem dX5_open_20 : decode cX5_open 20 = .ok (.aload_n 0, 1) := by decide +kernel
theorem dX5_open_21 : decode cX5_open 21 = .ok (.iconst 0, 1) := by decide +kernel
theorem dX5_open_22 : decode cX5_open 22 = .ok (.putfield 42, 3) := by decide +kernel
theorem dX5_open_25 : decode cX5_open 25 = .ok (.aload_n 0, 1) := by decide +kernel
theorem dX5_open_26 : decode cX5_open 26 = .ok (.iconst 0, 1) := by decide +kernel
theorem dX5_open_27 : decode cX5_open 27 = .ok (.putfield 45, 3) := by decide +kernel
theorem dX5_open_30 : decode cX5_open 30 = .ok (.aload_n 0, 1) := by decide +kernel
theorem dX5_open_31 : decode cX5_open 31 = .ok (.iconst 0, 1) := by decide +kernel
theorem dX5_open_32 : decode cX5_open 32 = .ok (.putfield 52, 3) := by decide +kernel
theorem dX5_open_35 : decode cX5_open 35 = .ok (.aload_n 0, 1) := by decide +kernel
theorem dX5_open_36 : decode cX5_open 36 = .ok (.iconst 0, 1) := by decide +kernel
theorem dX5_open_37 : decode cX5_open 37 = .ok (.putfield 58, 3) := by decide +kernel
theorem dX5_open_40 : decode cX5_open 40 = .ok (.aload_n 0, 1) := by decide +kernel
theorem dX5_open_41 : decode cX5_open 41 = .ok (.getfield 12, 3) := by decide +kernel
theorem dX5_open_44 : decode cX5_open 44 = .ok (.invokevirtual 71, 3) := by decide +kernel
theorem dX5_open_47 : decode cX5_open 47 = .ok (.aload_n 0, 1) := by decide +kernel
theorem dX5_open_48 : decode cX5_open 48 = .ok (.getfield 21, 3) := by decide +kernel
theorem dX5_open_51 : decode cX5_open 51 = .ok (.iconst 0, 1) := by decide +kernel
theorem dX5_open_52 : decode cX5_open 52 = .ok (.invokevirtual 74, 3) := by decide +kernel
theorem dX5_open_55 : decode cX5_open 55 = .ok (.aload_n 0, 1) := by decide +kernel
theorem dX5_open_56 : decode cX5_open 56 = .ok (.getfield 21, 3) := by decide +kernel
theorem dX5_open_59 : decode cX5_open 59 = .ok (.iconst 3, 1) := by decide +kernel
theorem dX5_open_60 : decode cX5_open 60 = .ok (.putfield 78, 3) := by decide +kernel
theorem dX5_open_63 : decode cX5_open 63 = .ok (.aload_n 0, 1) := by decide +kernel
theorem dX5_open_64 : decode cX5_open 64 = .ok (.getfield 21, 3) := by decide +kernel
theorem dX5_open_67 : decode cX5_open 67 = .ok (.iconst 0, 1) := by decide +kernel
theorem dX5_open_68 : decode cX5_open 68 = .ok (.putfield 81, 3) := by decide +kernel
theorem dX5_open_71 : decode cX5_open 71 = .ok (.aload_n 0, 1) := by decide +kernel
theorem dX5_open_72 : decode cX5_open 72 = .ok (.getfield 25, 3) := by decide +kernel
theorem dX5_open_75 : decode cX5_open 75 = .ok (.iconst 0, 1) := by decide +kernel
theorem dX5_open_76 : decode cX5_open 76 = .ok (.putfield 78, 3) := by decide +kernel
theorem dX5_open_79 : decode cX5_open 79 = .ok (.aload_n 0, 1) := by decide +kernel
theorem dX5_open_80 : decode cX5_open 80 = .ok (.iconst 1, 1) := by decide +kernel
theorem dX5_open_81 : decode cX5_open 81 = .ok (.putfield 55, 3) := by decide +kernel
theorem dX5_open_84 : decode cX5_open 84 = .ok (.aload_n 1, 1) := by decide +kernel
theorem dX5_open_85 : decode cX5_open 85 = .ok (.getfield 84, 3) := by decide +kernel
theorem dX5_open_88 : decode cX5_open 88 = .ok (.iconst 1, 1) := by decide +kernel
theorem dX5_open_89 : decode cX5_open 89 = .ok (.if_icmp .le 16, 3) := by decide +kernel
theorem dX5_open_92 : decode cX5_open 92 = .ok (.aload_n 0, 1) := by decide +kernel
theorem dX5_open_93 : decode cX5_open 93 = .ok (.getfield 25, 3) := by decide +kernel
theorem dX5_open_96 : decode cX5_open 96 = .ok (.iconst 1, 1) := by decide +kernel
theorem dX5_open_97 : decode cX5_open 97 = .ok (.invokevirtual 74, 3) := by decide +kernel
theorem dX5_open_100 : decode cX5_open 100 = .ok (.aload_n 0, 1) := by decide +kernel
theorem dX5_open_101 : decode cX5_open 101 = .ok (.iconst 2, 1) := by decide +kernel
theorem dX5_open_102 : decode cX5_open 102 = .ok (.putfield 55, 3) := by decide +kernel
theorem dX5_open_105 : decode cX5_open 105 = .ok (.return_, 1) := by decide +kernel
set_option maxRecDepth 20000 in
theorem ggX5_run_X5_work : GoodIn wsX5_run wsX5_work := goodIn_r _ [9, 10, 11, 12, 13, 14, 15, 16, 17, 18, 19, 20, 21, 8, 22, 23, 24, 25, 26, 27, 28, 29, 30, 3, 4, 31, 32, 33, 34, 35, 36, 37, 38, 39, 40, 41, 2, 42, 43, 44, 45, 46, 47, 48, 49, 50, 51, 52, 53, 54, 55, 56, 57, 58, 59, 60, 61, 62, 63, 64, 65, 66, 67, 68, 69, 70, 71, 72, 73, 74, 75, 76, 77, 78, 79, 80, 81, 82, 83, 84, 85, 86, 87, 88, 89, 90, 91, 92, 93, 94, 95, 96, 97, 98, 99, 100, 101, 102, 103, 104, 105, 106, 107, 108, 109, 110, 111, 112, 113, 114, 115, 116, 117, 118, 119, 120, 121, 122, 123, 200, 201, 202, 203, 204, 205, 206, 207, 208, 209, 210, 211, 215, 216, 217, 218, 219, 220, 212, 213, 214, 221, 222, 223, 224, 225, 226, 227, 228, 229] (by decide +kernel) (by decide +kernel)
set_option maxRecDepth 20000 in
theorem gX5_run_X5_work : GoodIn wsX5_run (wsV RX5 89 RX5 yX5_work wsX5_work) := goodIn_app (goodIn_of _ (by decide +kernel)) ggX5_run_X5_work
set_option maxRecDepth 20000 in
theorem ggX5_run_X5_frontProjector : GoodIn wsX5_run wsX5_frontProjector := goodIn_r _ [127, 128, 27, 28, 29, 8, 30, 3, 4, 200, 201, 202, 203, 204, 205, 206, 207, 208, 209, 210, 211] (by decide +kernel) (by decide +kernel)
set_option maxRecDepth 20000 in
theorem gX5_run_X5_frontProjector : GoodIn wsX5_run (wsV RX5 93 RX5 yX5_frontProjector wsX5_frontProjector) := goodIn_app (goodIn_of _ (by decide +kernel)) ggX5_run_X5_frontProjector
set_option maxRecDepth 20000 in
theorem ggX5_run_X6_reelAtPlace : GoodIn wsX5_run wsX6_reelAtPlace := goodIn_r _ [52, 53, 54, 55, 51, 56, 57, 58, 59, 60, 61, 62, 63, 64, 65, 225, 226, 227, 228, 229] (by decide +kernel) (by decide +kernel)
set_option maxRecDepth 20000 in
theorem gX5_run_X6_reelAtPlace : GoodIn wsX5_run (wsV RX5 100 RX6 yX6_reelAtPlace wsX6_reelAtPlace) := goodIn_app (goodIn_of _ (by decide +kernel)) ggX5_run_X6_reelAtPlace
set_option maxRecDepth 20000 in
theorem ggX5_run_X5_startBack : GoodIn wsX5_run wsX5_startBack := goodIn_r _ [132, 25, 133, 134, 135, 136, 8, 137, 128, 27, 28, 29, 30, 3, 4, 138, 139, 140, 141, 142, 42, 43, 124, 125, 126, 127, 83, 84, 85, 51, 86, 87, 59, 143, 144, 145, 34, 146, 36, 147, 212, 213, 214, 200, 201, 202, 203, 204, 205, 206, 207, 208, 209, 210, 211, 221, 222, 223, 224, 225, 226, 227, 228, 229] (by decide +kernel) (by decide +kernel)
set_option maxRecDepth 20000 in
theorem gX5_run_X5_startBack : GoodIn wsX5_run (wsV RX5 104 RX5 yX5_startBack wsX5_startBack) := goodIn_app (goodIn_of _ (by decide +kernel)) ggX5_run_X5_startBack
set_option maxRecDepth 20000 in
theorem ggX5_run_X5_goOn : GoodIn wsX5_run wsX5_goOn := goodIn_r _ [150, 42, 151, 152, 153, 34, 154, 36, 212, 213, 214] (by decide +kernel) (by decide +kernel)
set_option maxRecDepth 20000 in
theorem gX5_run_X5_goOn : GoodIn wsX5_run (va_wsS RX5 108 yX5_goOn wsX5_goOn) := goodIn_app (goodIn_of _ (by decide +kernel)) ggX5_run_X5_goOn
set_option maxRecDepth 20000 in
theorem ggX5_run_X5_wearSplice : GoodIn wsX5_run wsX5_wearSplice := goodIn_r _ [158, 25, 42, 159, 10, 128, 124, 125, 126, 8, 127, 27, 28, 29, 30, 3, 4, 160, 161, 162, 69, 163, 71, 164, 165, 46, 166, 72, 73, 74, 75, 76, 77, 78, 79, 80, 81, 82, 167, 168, 169, 16, 170, 103, 98, 120, 121, 122, 123, 109, 134, 135, 136, 137, 212, 213, 214, 200, 201, 202, 203, 204, 205, 206, 207, 208, 209, 210, 211, 221, 222, 223, 224, 215, 216, 217, 218, 219, 220] (by decide +kernel) (by decide +kernel)
set_option maxRecDepth 20000 in
theorem gX5_run_X5_wearSplice : GoodIn wsX5_run (wsV RX5 111 RX5 yX5_wearSplice wsX5_wearSplice) := goodIn_app (goodIn_of _ (by decide +kernel)) ggX5_run_X5_wearSplice
set_option maxRecDepth 20000 in
theorem ggX5_run_X5_runOut : GoodIn wsX5_run wsX5_runOut := goodIn_r _ [174, 2, 175, 25, 42, 43, 142, 1, 124, 125, 126, 8, 127, 128, 27, 28, 29, 30, 3, 4, 83, 84, 85, 51, 86, 87, 59, 176, 177, 178, 179, 10, 26, 180, 181, 182, 16, 183, 103, 98, 109, 184, 185, 186, 187, 188, 93, 94, 95, 96, 97, 99, 100, 101, 102, 18, 212, 213, 214, 225, 226, 227, 228, 229, 221, 222, 223, 224, 200, 201, 202, 203, 204, 205, 206, 207, 208, 209, 210, 211, 215, 216, 217, 218, 219, 220] (by decide +kernel) (by decide +kernel)
set_option maxRecDepth 20000 in
theorem gX5_run_X5_runOut : GoodIn wsX5_run (wsV RX5 115 RX5 yX5_runOut wsX5_runOut) := goodIn_app (goodIn_of _ (by decide +kernel)) ggX5_run_X5_runOut
set_option maxRecDepth 20000 in
theorem ggX5_run_X5_changeOver : GoodIn wsX5_run wsX5_changeOver := goodIn_r _ [192, 142, 1, 25, 42, 193, 128, 134, 135, 136, 8, 137, 27, 28, 29, 30, 3, 4, 200, 201, 202, 203, 204, 205, 206, 207, 208, 209, 210, 211, 212, 213, 214] (by decide +kernel) (by decide +kernel)
set_option maxRecDepth 20000 in
theorem gX5_run_X5_changeOver : GoodIn wsX5_run (wsV RX5 118 RX5 yX5_changeOver wsX5_changeOver) := goodIn_app (goodIn_of _ (by decide +kernel)) ggX5_run_X5_changeOver
set_option maxRecDepth 20000 in
theorem ggX5_run_X5_countTick : GoodIn wsX5_run wsX5_countTick := goodIn_r _ [197, 198, 1, 25, 199, 124, 125, 126, 8, 127, 128, 27, 28, 29, 30, 3, 4, 200, 201, 202, 203, 204, 205, 206, 207, 208, 209, 210, 211, 212, 213, 214] (by decide +kernel) (by decide +kernel)
set_option maxRecDepth 20000 in
theorem gX5_run_X5_countTick : GoodIn wsX5_run (wsV RX5 121 RX5 yX5_countTick wsX5_countTick) := goodIn_app (goodIn_of _ (by decide +kernel)) ggX5_run_X5_countTick
theorem dX5_run_0 : decode cX5_run 0 = .ok (.iconst 0, 1) := by decide +kernel
theorem dX5_run_1 : decode cX5_run 1 = .ok (.istore_n 3, 1) := by decide +kernel
theorem dX5_run_2 : decode cX5_run 2 = .ok (.iload_n 3, 1) := by decide +kernel
theorem dX5_run_3 : decode cX5_run 3 = .ok (.iload_n 2, 1) := by decide +kernel
theorem dX5_run_4 : decode cX5_run 4 = .ok (.if_icmp .ge 81, 3) := by decide +kernel
theorem dX5_run_7 : decode cX5_run 7 = .ok (.aload_n 0, 1) := by decide +kernel
theorem dX5_run_8 : decode cX5_run 8 = .ok (.getfield 28, 3) := by decide +kernel
theorem dX5_run_11 : decode cX5_run 11 = .ok (.ifCond .eq 74, 3) := by decide +kernel
theorem dX5_run_14 : decode cX5_run 14 = .ok (.aload_n 0, 1) := by decide +kernel
theorem dX5_run_15 : decode cX5_run 15 = .ok (.aload_n 1, 1) := by decide +kernel
theorem dX5_run_16 : decode cX5_run 16 = .ok (.invokevirtual 89, 3) := by decide +kernel
theorem dX5_run_19 : decode cX5_run 19 = .ok (.aload_n 1, 1) := by decide +kernel
theorem dX5_run_20 : decode cX5_run 20 = .ok (.aload_n 0, 1) := by decide +kernel
theorem dX5_run_21 : decode cX5_run 21 = .ok (.invokevirtual 93, 3) := by decide +kernel
theorem dX5_run_24 : decode cX5_run 24 = .ok (.getfield 97, 3) := by decide +kernel
theorem dX5_run_27 : decode cX5_run 27 = .ok (.invokevirtual 100, 3) := by decide +kernel
theorem dX5_run_30 : decode cX5_run 30 = .ok (.astore 4, 2) := by decide +kernel
theorem dX5_run_32 : decode cX5_run 32 = .ok (.aload 4, 2) := by decide +kernel
theorem dX5_run_34 : decode cX5_run 34 = .ok (.ifnull 37, 3) := by decide +kernel
theorem dX5_run_37 : decode cX5_run 37 = .ok (.aload_n 0, 1) := by decide +kernel
theorem dX5_run_38 : decode cX5_run 38 = .ok (.aload_n 1, 1) := by decide +kernel
theorem dX5_run_39 : decode cX5_run 39 = .ok (.aload 4, 2) := by decide +kernel
theorem dX5_run_41 : decode cX5_run 41 = .ok (.invokevirtual 104, 3) := by decide +kernel
theorem dX5_run_44 : decode cX5_run 44 = .ok (.aload_n 0, 1) := by decide +kernel
theorem dX5_run_45 : decode cX5_run 45 = .ok (.getfield 21, 3) := by decide +kernel
theorem dX5_run_48 : decode cX5_run 48 = .ok (.invokestatic 108, 3) := by decide +kernel
theorem dX5_run_51 : decode cX5_run 51 = .ok (.aload_n 0, 1) := by decide +kernel
theorem dX5_run_52 : decode cX5_run 52 = .ok (.getfield 25, 3) := by decide +kernel
theorem dX5_run_55 : decode cX5_run 55 = .ok (.invokestatic 108, 3) := by decide +kernel
theorem dX5_run_58 : decode cX5_run 58 = .ok (.aload_n 0, 1) := by decide +kernel
theorem dX5_run_59 : decode cX5_run 59 = .ok (.aload 4, 2) := by decide +kernel
theorem dX5_run_61 : decode cX5_run 61 = .ok (.invokevirtual 111, 3) := by decide +kernel
theorem dX5_run_64 : decode cX5_run 64 = .ok (.aload_n 0, 1) := by decide +kernel
theorem dX5_run_65 : decode cX5_run 65 = .ok (.aload_n 1, 1) := by decide +kernel
theorem dX5_run_66 : decode cX5_run 66 = .ok (.aload 4, 2) := by decide +kernel
theorem dX5_run_68 : decode cX5_run 68 = .ok (.invokevirtual 115, 3) := by decide +kernel
theorem dX5_run_71 : decode cX5_run 71 = .ok (.aload_n 0, 1) := by decide +kernel
theorem dX5_run_72 : decode cX5_run 72 = .ok (.invokevirtual 118, 3) := by decide +kernel
theorem dX5_run_75 : decode cX5_run 75 = .ok (.aload_n 0, 1) := by decide +kernel
theorem dX5_run_76 : decode cX5_run 76 = .ok (.invokevirtual 121, 3) := by decide +kernel
theorem dX5_run_79 : decode cX5_run 79 = .ok (.iinc 3 1, 3) := by decide +kernel
theorem dX5_run_82 : decode cX5_run 82 = .ok (.goto (-80), 3) := by decide +kernel
theorem dX5_run_85 : decode cX5_run 85 = .ok (.iload_n 3, 1) := by decide +kernel
theorem dX5_run_86 : decode cX5_run 86 = .ok (.ireturn, 1) := by decide +kernel
set_option maxRecDepth 20000 in
theorem ggX5_frontProjector_X5_projectorNumbered : GoodIn wsX5_frontProjector wsX5_projectorNumbered := goodIn_r _ [6, 7, 8, 9, 10, 11, 12, 13, 14, 15, 16, 17, 18, 19, 20] (by decide +kernel) (by decide +kernel)
set_option maxRecDepth 20000 in
theorem gX5_frontProjector_X5_projectorNumbered : GoodIn wsX5_frontProjector (wsV RX5 124 RX5 yX5_projectorNumbered wsX5_projectorNumbered) := goodIn_app (goodIn_of _ (by decide +kernel)) ggX5_frontProjector_X5_projectorNumbered
theorem dX5_frontProjector_0 : decode cX5_frontProjector 0 = .ok (.aload_n 0, 1) := by decide +kernel
theorem dX5_frontProjector_1 : decode cX5_frontProjector 1 = .ok (.aload_n 0, 1) := by decide +kernel
theorem dX5_frontProjector_2 : decode cX5_frontProjector 2 = .ok (.getfield 52, 3) := by decide +kernel
theorem dX5_frontProjector_5 : decode cX5_frontProjector 5 = .ok (.invokevirtual 124, 3) := by decide +kernel
theorem dX5_frontProjector_8 : decode cX5_frontProjector 8 = .ok (.areturn, 1) := by decide +kernel
set_option maxRecDepth 20000 in
theorem ggX5_backProjector_X5_projectorNumbered : GoodIn wsX5_backProjector wsX5_projectorNumbered := goodIn_r _ [6, 7, 8, 9, 10, 11, 12, 13, 14, 15, 16, 17, 18, 19, 20] (by decide +kernel) (by decide +kernel)
set_option maxRecDepth 20000 in
theorem gX5_backProjector_X5_projectorNumbered : GoodIn wsX5_backProjector (wsV RX5 124 RX5 yX5_projectorNumbered wsX5_projectorNumbered) := goodIn_app (goodIn_of _ (by decide +kernel)) ggX5_backProjector_X5_projectorNumbered
theorem dX5_backProjector_0 : decode cX5_backProjector 0 = .ok (.aload_n 0, 1) := by decide +kernel
theorem dX5_backProjector_1 : decode cX5_backProjector 1 = .ok (.iconst 1, 1) := by decide +kernel
theorem dX5_backProjector_2 : decode cX5_backProjector 2 = .ok (.aload_n 0, 1) := by decide +kernel
theorem dX5_backProjector_3 : decode cX5_backProjector 3 = .ok (.getfield 52, 3) := by decide +kernel
theorem dX5_backProjector_6 : decode cX5_backProjector 6 = .ok (.isub, 1) := by decide +kernel
theorem dX5_backProjector_7 : decode cX5_backProjector 7 = .ok (.invokevirtual 124, 3) := by decide +kernel
theorem dX5_backProjector_10 : decode cX5_backProjector 10 = .ok (.areturn, 1) := by decide +kernel
set_option maxRecDepth 20000 in
theorem ggX5_work_X0_isWorking : GoodIn wsX5_work wsX0_isWorking := goodIn_r _ [8, 9, 131, 132, 133, 134, 135, 136] (by decide +kernel) (by decide +kernel)
set_option maxRecDepth 20000 in
theorem gX5_work_X0_isWorking : GoodIn wsX5_work (wsV RX5 128 RX0 yX0_isWorking wsX0_isWorking) := goodIn_app (goodIn_of _ (by decide +kernel)) ggX5_work_X0_isWorking
set_option maxRecDepth 20000 in
theorem ggX5_work_X5_finishTask : GoodIn wsX5_work wsX5_finishTask := goodIn_r _ [14, 1, 15, 16, 17, 18, 19, 20, 21, 13, 22, 23, 24, 25, 26, 27, 28, 29, 30, 31, 32, 33, 34, 35, 36, 37, 38, 39, 40, 41, 42, 43, 44, 45, 46, 47, 48, 49, 50, 51, 52, 53, 54, 55, 56, 57, 58, 59, 60, 61, 62, 63, 64, 65, 66, 67, 68, 69, 70, 71, 72, 73, 74, 75, 76, 77, 78, 79, 80, 81, 82, 119, 120, 121, 122, 123, 124, 125, 126, 127, 128, 129, 130, 131, 132, 133, 134, 135, 136, 137, 138, 139, 140, 141, 142, 143, 144, 145, 146, 147, 148] (by decide +kernel) (by decide +kernel)
set_option maxRecDepth 20000 in
theorem gX5_work_X5_finishTask : GoodIn wsX5_work (wsV RX5 132 RX5 yX5_finishTask wsX5_finishTask) := goodIn_app (goodIn_of _ (by decide +kernel)) ggX5_work_X5_finishTask
set_option maxRecDepth 20000 in
theorem ggX5_work_X5_ticksOfFirstTask : GoodIn wsX5_work wsX5_ticksOfFirstTask := goodIn_r _ [86, 1, 36, 87, 88, 89, 7, 90, 91, 92, 93, 94, 95, 96, 97, 9, 98, 99, 100, 101, 102, 103, 104, 19, 20, 21, 13, 22, 23, 24, 105, 106, 107, 46, 108, 82, 109, 110, 44, 45, 47, 48, 49, 50, 51, 52, 53, 54, 55, 56, 57, 58, 59, 60, 78, 79, 80, 81, 119, 120, 121, 122, 123, 124, 125, 126, 127, 128, 129, 130, 137, 138, 139, 131, 132, 133, 134, 135, 136, 144, 145, 146, 147, 148, 140, 141, 142, 143] (by decide +kernel) (by decide +kernel)
set_option maxRecDepth 20000 in
theorem gX5_work_X5_ticksOfFirstTask : GoodIn wsX5_work (wsV RX5 135 RX5 yX5_ticksOfFirstTask wsX5_ticksOfFirstTask) := goodIn_app (goodIn_of _ (by decide +kernel)) ggX5_work_X5_ticksOfFirstTask
set_option maxRecDepth 20000 in
theorem ggX5_work_X0_takeUp : GoodIn wsX5_work wsX0_takeUp := goodIn_r _ [114, 98, 93, 92, 104, 103, 9, 115, 116, 117, 118, 131, 132, 133, 134, 135, 136] (by decide +kernel) (by decide +kernel)
set_option maxRecDepth 20000 in
theorem gX5_work_X0_takeUp : GoodIn wsX5_work (wsV RX5 139 RX0 yX0_takeUp wsX0_takeUp) := goodIn_app (goodIn_of _ (by decide +kernel)) ggX5_work_X0_takeUp
theorem dX5_work_0 : decode cX5_work 0 = .ok (.aload_n 0, 1) := by decide +kernel
theorem dX5_work_1 : decode cX5_work 1 = .ok (.getfield 12, 3) := by decide +kernel
theorem dX5_work_4 : decode cX5_work 4 = .ok (.invokevirtual 128, 3) := by decide +kernel
theorem dX5_work_7 : decode cX5_work 7 = .ok (.ifCond .eq 34, 3) := by decide +kernel
theorem dX5_work_10 : decode cX5_work 10 = .ok (.aload_n 0, 1) := by decide +kernel
theorem dX5_work_11 : decode cX5_work 11 = .ok (.getfield 12, 3) := by decide +kernel
theorem dX5_work_14 : decode cX5_work 14 = .ok (.dup, 1) := by decide +kernel
theorem dX5_work_15 : decode cX5_work 15 = .ok (.getfield 67, 3) := by decide +kernel
theorem dX5_work_18 : decode cX5_work 18 = .ok (.iconst 1, 1) := by decide +kernel
theorem dX5_work_19 : decode cX5_work 19 = .ok (.isub, 1) := by decide +kernel
theorem dX5_work_20 : decode cX5_work 20 = .ok (.putfield 67, 3) := by decide +kernel
theorem dX5_work_23 : decode cX5_work 23 = .ok (.aload_n 0, 1) := by decide +kernel
theorem dX5_work_24 : decode cX5_work 24 = .ok (.getfield 12, 3) := by decide +kernel
theorem dX5_work_27 : decode cX5_work 27 = .ok (.invokevirtual 128, 3) := by decide +kernel
theorem dX5_work_30 : decode cX5_work 30 = .ok (.ifCond .ne 33, 3) := by decide +kernel
theorem dX5_work_33 : decode cX5_work 33 = .ok (.aload_n 0, 1) := by decide +kernel
theorem dX5_work_34 : decode cX5_work 34 = .ok (.aload_n 1, 1) := by decide +kernel
theorem dX5_work_35 : decode cX5_work 35 = .ok (.invokevirtual 132, 3) := by decide +kernel
theorem dX5_work_38 : decode cX5_work 38 = .ok (.goto 25, 3) := by decide +kernel
theorem dX5_work_41 : decode cX5_work 41 = .ok (.aload_n 0, 1) := by decide +kernel
theorem dX5_work_42 : decode cX5_work 42 = .ok (.getfield 12, 3) := by decide +kernel
theorem dX5_work_45 : decode cX5_work 45 = .ok (.getfield 64, 3) := by decide +kernel
theorem dX5_work_48 : decode cX5_work 48 = .ok (.ifCond .le 15, 3) := by decide +kernel
theorem dX5_work_51 : decode cX5_work 51 = .ok (.aload_n 0, 1) := by decide +kernel
theorem dX5_work_52 : decode cX5_work 52 = .ok (.getfield 12, 3) := by decide +kernel
theorem dX5_work_55 : decode cX5_work 55 = .ok (.aload_n 0, 1) := by decide +kernel
theorem dX5_work_56 : decode cX5_work 56 = .ok (.aload_n 1, 1) := by decide +kernel
theorem dX5_work_57 : decode cX5_work 57 = .ok (.invokevirtual 135, 3) := by decide +kernel
theorem dX5_work_60 : decode cX5_work 60 = .ok (.invokevirtual 139, 3) := by decide +kernel
theorem dX5_work_63 : decode cX5_work 63 = .ok (.return_, 1) := by decide +kernel
set_option maxRecDepth 20000 in
theorem ggX5_ticksOfFirstTask_X0_kindOf : GoodIn wsX5_ticksOfFirstTask wsX0_kindOf := goodIn_r _ [7, 8, 9, 10, 11, 12, 13, 6, 14, 15, 16, 73, 74, 75, 76, 77, 78] (by decide +kernel) (by decide +kernel)
set_option maxRecDepth 20000 in
theorem gX5_ticksOfFirstTask_X0_kindOf : GoodIn wsX5_ticksOfFirstTask (wsV RX5 142 RX0 yX0_kindOf wsX0_kindOf) := goodIn_app (goodIn_of _ (by decide +kernel)) ggX5_ticksOfFirstTask_X0_kindOf
set_option maxRecDepth 20000 in
theorem ggX5_ticksOfFirstTask_X0_projectorOf : GoodIn wsX5_ticksOfFirstTask wsX0_projectorOf := goodIn_r _ [20, 8, 21, 22, 11, 12, 13, 6, 14, 15, 16, 73, 74, 75, 76, 77, 78] (by decide +kernel) (by decide +kernel)
set_option maxRecDepth 20000 in
theorem gX5_ticksOfFirstTask_X0_projectorOf : GoodIn wsX5_ticksOfFirstTask (wsV RX5 146 RX0 yX0_projectorOf wsX0_projectorOf) := goodIn_app (goodIn_of _ (by decide +kernel)) ggX5_ticksOfFirstTask_X0_projectorOf
set_option maxRecDepth 20000 in
theorem ggX5_ticksOfFirstTask_X5_projectorNumbered : GoodIn wsX5_ticksOfFirstTask wsX5_projectorNumbered := goodIn_r _ [27, 28, 29, 58, 59, 60, 61, 62, 63, 64, 65, 66, 67, 68, 69] (by decide +kernel) (by decide +kernel)
set_option maxRecDepth 20000 in
theorem gX5_ticksOfFirstTask_X5_projectorNumbered : GoodIn wsX5_ticksOfFirstTask (wsV RX5 124 RX5 yX5_projectorNumbered wsX5_projectorNumbered) := goodIn_app (goodIn_of _ (by decide +kernel)) ggX5_ticksOfFirstTask_X5_projectorNumbered
set_option maxRecDepth 20000 in
theorem ggX5_ticksOfFirstTask_X6_clearingTime : GoodIn wsX5_ticksOfFirstTask wsX6_clearingTime := goodIn_r _ [34, 35, 36, 37, 38, 39, 33, 40, 41, 42, 43, 44, 45, 46, 47, 48, 49, 50, 51, 52, 53, 79, 80, 81, 82, 83, 84, 85, 86, 87] (by decide +kernel) (by decide +kernel)
set_option maxRecDepth 20000 in
theorem gX5_ticksOfFirstTask_X6_clearingTime : GoodIn wsX5_ticksOfFirstTask (wsV RX5 149 RX6 yX6_clearingTime wsX6_clearingTime) := goodIn_app (goodIn_of _ (by decide +kernel)) ggX5_ticksOfFirstTask_X6_clearingTime
set_option maxRecDepth 20000 in
theorem ggX5_ticksOfFirstTask_X6_settingNumbered : GoodIn wsX5_ticksOfFirstTask wsX6_settingNumbered := goodIn_r _ [57, 35, 47, 79, 80, 81, 82, 83] (by decide +kernel) (by decide +kernel)
set_option maxRecDepth 20000 in
theorem gX5_ticksOfFirstTask_X6_settingNumbered : GoodIn wsX5_ticksOfFirstTask (wsV RX5 152 RX6 yX6_settingNumbered wsX6_settingNumbered) := goodIn_app (goodIn_of _ (by decide +kernel)) ggX5_ticksOfFirstTask_X6_settingNumbered
theorem dX5_ticksOfFirstTask_0 : decode cX5_ticksOfFirstTask 0 = .ok (.aload_n 0, 1) := by decide +kernel
theorem dX5_ticksOfFirstTask_1 : decode cX5_ticksOfFirstTask 1 = .ok (.getfield 12, 3) := by decide +kernel
theorem dX5_ticksOfFirstTask_4 : decode cX5_ticksOfFirstTask 4 = .ok (.iconst 1, 1) := by decide +kernel
theorem dX5_ticksOfFirstTask_5 : decode cX5_ticksOfFirstTask 5 = .ok (.invokevirtual 142, 3) := by decide +kernel
theorem dX5_ticksOfFirstTask_8 : decode cX5_ticksOfFirstTask 8 = .ok (.lookupswitch 54 #[(0, 28), (1, 48)], 28) := by decide +kernel
theorem dX5_ticksOfFirstTask_36 : decode cX5_ticksOfFirstTask 36 = .ok (.aload_n 1, 1) := by decide +kernel
theorem dX5_ticksOfFirstTask_37 : decode cX5_ticksOfFirstTask 37 = .ok (.aload_n 0, 1) := by decide +kernel
theorem dX5_ticksOfFirstTask_38 : decode cX5_ticksOfFirstTask 38 = .ok (.aload_n 0, 1) := by decide +kernel
theorem dX5_ticksOfFirstTask_39 : decode cX5_ticksOfFirstTask 39 = .ok (.getfield 12, 3) := by decide +kernel
theorem dX5_ticksOfFirstTask_42 : decode cX5_ticksOfFirstTask 42 = .ok (.iconst 1, 1) := by decide +kernel
theorem dX5_ticksOfFirstTask_43 : decode cX5_ticksOfFirstTask 43 = .ok (.invokevirtual 146, 3) := by decide +kernel
theorem dX5_ticksOfFirstTask_46 : decode cX5_ticksOfFirstTask 46 = .ok (.invokevirtual 124, 3) := by decide +kernel
theorem dX5_ticksOfFirstTask_49 : decode cX5_ticksOfFirstTask 49 = .ok (.getfield 97, 3) := by decide +kernel
theorem dX5_ticksOfFirstTask_52 : decode cX5_ticksOfFirstTask 52 = .ok (.invokevirtual 149, 3) := by decide +kernel
theorem dX5_ticksOfFirstTask_55 : decode cX5_ticksOfFirstTask 55 = .ok (.ireturn, 1) := by decide +kernel
theorem dX5_ticksOfFirstTask_56 : decode cX5_ticksOfFirstTask 56 = .ok (.aload_n 1, 1) := by decide +kernel
theorem dX5_ticksOfFirstTask_57 : decode cX5_ticksOfFirstTask 57 = .ok (.iconst 5, 1) := by decide +kernel
theorem dX5_ticksOfFirstTask_58 : decode cX5_ticksOfFirstTask 58 = .ok (.invokevirtual 152, 3) := by decide +kernel
theorem dX5_ticksOfFirstTask_61 : decode cX5_ticksOfFirstTask 61 = .ok (.ireturn, 1) := by decide +kernel
theorem dX5_ticksOfFirstTask_62 : decode cX5_ticksOfFirstTask 62 = .ok (.aload_n 1, 1) := by decide +kernel
theorem dX5_ticksOfFirstTask_63 : decode cX5_ticksOfFirstTask 63 = .ok (.bipush 6, 2) := by decide +kernel
theorem dX5_ticksOfFirstTask_65 : decode cX5_ticksOfFirstTask 65 = .ok (.invokevirtual 152, 3) := by decide +kernel
theorem dX5_ticksOfFirstTask_68 : decode cX5_ticksOfFirstTask 68 = .ok (.ireturn, 1) := by decide +kernel
set_option maxRecDepth 20000 in
theorem ggX5_finishTask_X5_projectorNumbered : GoodIn wsX5_finishTask wsX5_projectorNumbered := goodIn_r _ [10, 11, 12, 71, 72, 73, 74, 75, 76, 77, 78, 79, 80, 81, 82] (by decide +kernel) (by decide +kernel)
set_option maxRecDepth 20000 in
theorem gX5_finishTask_X5_projectorNumbered : GoodIn wsX5_finishTask (wsV RX5 124 RX5 yX5_projectorNumbered wsX5_projectorNumbered) := goodIn_app (goodIn_of _ (by decide +kernel)) ggX5_finishTask_X5_projectorNumbered
set_option maxRecDepth 20000 in
theorem ggX5_finishTask_X2_thread : GoodIn wsX5_finishTask wsX2_thread := goodIn_r _ [17, 18, 19, 89, 90, 91] (by decide +kernel) (by decide +kernel)
set_option maxRecDepth 20000 in
theorem gX5_finishTask_X2_thread : GoodIn wsX5_finishTask (wsV RX5 74 RX2 yX2_thread wsX2_thread) := goodIn_app (goodIn_of _ (by decide +kernel)) ggX5_finishTask_X2_thread
set_option maxRecDepth 20000 in
theorem ggX5_finishTask_X5_finishRepair : GoodIn wsX5_finishTask wsX5_finishRepair := goodIn_r _ [23, 24, 25, 26, 27, 28, 29, 30, 4, 31, 32, 33, 34, 35, 36, 37, 38, 39, 40, 41, 42, 43, 44, 45, 46, 47, 48, 49, 50, 51, 52, 53, 54, 55, 56, 57, 58, 59, 60, 61, 62, 63, 64, 65, 66, 67, 68, 69, 70, 89, 90, 91, 92, 93, 94, 95, 96, 97, 98, 99, 100] (by decide +kernel) (by decide +kernel)
set_option maxRecDepth 20000 in
theorem gX5_finishTask_X5_finishRepair : GoodIn wsX5_finishTask (wsV RX5 161 RX5 yX5_finishRepair wsX5_finishRepair) := goodIn_app (goodIn_of _ (by decide +kernel)) ggX5_finishTask_X5_finishRepair
theorem dX5_finishTask_0 : decode cX5_finishTask 0 = .ok (.aload_n 0, 1) := by decide +kernel
theorem dX5_finishTask_1 : decode cX5_finishTask 1 = .ok (.aload_n 0, 1) := by decide +kernel
theorem dX5_finishTask_2 : decode cX5_finishTask 2 = .ok (.getfield 12, 3) := by decide +kernel
theorem dX5_finishTask_5 : decode cX5_finishTask 5 = .ok (.getfield 155, 3) := by decide +kernel
theorem dX5_finishTask_8 : decode cX5_finishTask 8 = .ok (.invokevirtual 124, 3) := by decide +kernel
theorem dX5_finishTask_11 : decode cX5_finishTask 11 = .ok (.astore_n 2, 1) := by decide +kernel
theorem dX5_finishTask_12 : decode cX5_finishTask 12 = .ok (.aload_n 0, 1) := by decide +kernel
theorem dX5_finishTask_13 : decode cX5_finishTask 13 = .ok (.getfield 12, 3) := by decide +kernel
theorem dX5_finishTask_16 : decode cX5_finishTask 16 = .ok (.getfield 158, 3) := by decide +kernel
theorem dX5_finishTask_19 : decode cX5_finishTask 19 = .ok (.lookupswitch 54 #[(0, 25), (1, 33)], 25) := by decide +kernel
theorem dX5_finishTask_44 : decode cX5_finishTask 44 = .ok (.aload_n 2, 1) := by decide +kernel
theorem dX5_finishTask_45 : decode cX5_finishTask 45 = .ok (.iconst 0, 1) := by decide +kernel
theorem dX5_finishTask_46 : decode cX5_finishTask 46 = .ok (.putfield 78, 3) := by decide +kernel
theorem dX5_finishTask_49 : decode cX5_finishTask 49 = .ok (.goto 30, 3) := by decide +kernel
theorem dX5_finishTask_52 : decode cX5_finishTask 52 = .ok (.aload_n 2, 1) := by decide +kernel
theorem dX5_finishTask_53 : decode cX5_finishTask 53 = .ok (.aload_n 0, 1) := by decide +kernel
theorem dX5_finishTask_54 : decode cX5_finishTask 54 = .ok (.getfield 55, 3) := by decide +kernel
theorem dX5_finishTask_57 : decode cX5_finishTask 57 = .ok (.invokevirtual 74, 3) := by decide +kernel
theorem dX5_finishTask_60 : decode cX5_finishTask 60 = .ok (.aload_n 0, 1) := by decide +kernel
theorem dX5_finishTask_61 : decode cX5_finishTask 61 = .ok (.dup, 1) := by decide +kernel
theorem dX5_finishTask_62 : decode cX5_finishTask 62 = .ok (.getfield 55, 3) := by decide +kernel
theorem dX5_finishTask_65 : decode cX5_finishTask 65 = .ok (.iconst 1, 1) := by decide +kernel
theorem dX5_finishTask_66 : decode cX5_finishTask 66 = .ok (.iadd, 1) := by decide +kernel
theorem dX5_finishTask_67 : decode cX5_finishTask 67 = .ok (.putfield 55, 3) := by decide +kernel
theorem dX5_finishTask_70 : decode cX5_finishTask 70 = .ok (.goto 9, 3) := by decide +kernel
theorem dX5_finishTask_73 : decode cX5_finishTask 73 = .ok (.aload_n 0, 1) := by decide +kernel
theorem dX5_finishTask_74 : decode cX5_finishTask 74 = .ok (.aload_n 2, 1) := by decide +kernel
theorem dX5_finishTask_75 : decode cX5_finishTask 75 = .ok (.aload_n 1, 1) := by decide +kernel
theorem dX5_finishTask_76 : decode cX5_finishTask 76 = .ok (.invokevirtual 161, 3) := by decide +kernel
theorem dX5_finishTask_79 : decode cX5_finishTask 79 = .ok (.return_, 1) := by decide +kernel
set_option maxRecDepth 20000 in
theorem ggX5_finishRepair_X6_reelAtPlace : GoodIn wsX5_finishRepair wsX6_reelAtPlace := goodIn_r _ [13, 14, 15, 16, 12, 17, 18, 19, 20, 21, 22, 23, 24, 25, 26, 56, 57, 58, 59, 60] (by decide +kernel) (by decide +kernel)
set_option maxRecDepth 20000 in
theorem gX5_finishRepair_X6_reelAtPlace : GoodIn wsX5_finishRepair (wsV RX5 100 RX6 yX6_reelAtPlace wsX6_reelAtPlace) := goodIn_app (goodIn_of _ (by decide +kernel)) ggX5_finishRepair_X6_reelAtPlace
set_option maxRecDepth 20000 in
theorem ggX5_finishRepair_X3_repairAt : GoodIn wsX5_finishRepair wsX3_repairAt := goodIn_r _ [31, 32, 33, 34, 35, 30, 36, 37, 38, 39, 40, 41, 42, 43, 52, 53, 54, 55] (by decide +kernel) (by decide +kernel)
set_option maxRecDepth 20000 in
theorem gX5_finishRepair_X3_repairAt : GoodIn wsX5_finishRepair (wsV RX5 165 RX3 yX3_repairAt wsX3_repairAt) := goodIn_app (goodIn_of _ (by decide +kernel)) ggX5_finishRepair_X3_repairAt
set_option maxRecDepth 20000 in
theorem ggX5_finishRepair_X6_settingNumbered : GoodIn wsX5_finishRepair wsX6_settingNumbered := goodIn_r _ [47, 48, 20, 56, 57, 58, 59, 60] (by decide +kernel) (by decide +kernel)
set_option maxRecDepth 20000 in
theorem gX5_finishRepair_X6_settingNumbered : GoodIn wsX5_finishRepair (wsV RX5 152 RX6 yX6_settingNumbered wsX6_settingNumbered) := goodIn_app (goodIn_of _ (by decide +kernel)) ggX5_finishRepair_X6_settingNumbered
theorem dX5_finishRepair_0 : decode cX5_finishRepair 0 = .ok (.aload_n 2, 1) := by decide +kernel
theorem dX5_finishRepair_1 : decode cX5_finishRepair 1 = .ok (.aload_n 1, 1) := by decide +kernel
theorem dX5_finishRepair_2 : decode cX5_finishRepair 2 = .ok (.getfield 97, 3) := by decide +kernel
theorem dX5_finishRepair_5 : decode cX5_finishRepair 5 = .ok (.invokevirtual 100, 3) := by decide +kernel
theorem dX5_finishRepair_8 : decode cX5_finishRepair 8 = .ok (.astore_n 3, 1) := by decide +kernel
theorem dX5_finishRepair_9 : decode cX5_finishRepair 9 = .ok (.aload_n 3, 1) := by decide +kernel
theorem dX5_finishRepair_10 : decode cX5_finishRepair 10 = .ok (.ifnull 42, 3) := by decide +kernel
theorem dX5_finishRepair_13 : decode cX5_finishRepair 13 = .ok (.aload_n 3, 1) := by decide +kernel
theorem dX5_finishRepair_14 : decode cX5_finishRepair 14 = .ok (.aload_n 1, 1) := by decide +kernel
theorem dX5_finishRepair_15 : decode cX5_finishRepair 15 = .ok (.getfield 81, 3) := by decide +kernel
theorem dX5_finishRepair_18 : decode cX5_finishRepair 18 = .ok (.invokevirtual 165, 3) := by decide +kernel
theorem dX5_finishRepair_21 : decode cX5_finishRepair 21 = .ok (.aload_n 1, 1) := by decide +kernel
theorem dX5_finishRepair_22 : decode cX5_finishRepair 22 = .ok (.getfield 81, 3) := by decide +kernel
theorem dX5_finishRepair_25 : decode cX5_finishRepair 25 = .ok (.aload_n 2, 1) := by decide +kernel
theorem dX5_finishRepair_26 : decode cX5_finishRepair 26 = .ok (.bipush 7, 2) := by decide +kernel
theorem dX5_finishRepair_28 : decode cX5_finishRepair 28 = .ok (.invokevirtual 152, 3) := by decide +kernel
theorem dX5_finishRepair_31 : decode cX5_finishRepair 31 = .ok (.iadd, 1) := by decide +kernel
theorem dX5_finishRepair_32 : decode cX5_finishRepair 32 = .ok (.istore 4, 2) := by decide +kernel
theorem dX5_finishRepair_34 : decode cX5_finishRepair 34 = .ok (.aload_n 1, 1) := by decide +kernel
theorem dX5_finishRepair_35 : decode cX5_finishRepair 35 = .ok (.iload 4, 2) := by decide +kernel
theorem dX5_finishRepair_37 : decode cX5_finishRepair 37 = .ok (.aload_n 3, 1) := by decide +kernel
theorem dX5_finishRepair_38 : decode cX5_finishRepair 38 = .ok (.getfield 170, 3) := by decide +kernel
theorem dX5_finishRepair_41 : decode cX5_finishRepair 41 = .ok (.invokestatic 173, 3) := by decide +kernel
theorem dX5_finishRepair_44 : decode cX5_finishRepair 44 = .ok (.putfield 81, 3) := by decide +kernel
theorem dX5_finishRepair_47 : decode cX5_finishRepair 47 = .ok (.aload_n 1, 1) := by decide +kernel
theorem dX5_finishRepair_48 : decode cX5_finishRepair 48 = .ok (.iconst 3, 1) := by decide +kernel
theorem dX5_finishRepair_49 : decode cX5_finishRepair 49 = .ok (.putfield 78, 3) := by decide +kernel
theorem dX5_finishRepair_52 : decode cX5_finishRepair 52 = .ok (.return_, 1) := by decide +kernel
set_option maxRecDepth 20000 in
theorem ggX5_startBack_X5_backProjector : GoodIn wsX5_startBack wsX5_backProjector := goodIn_r _ [7, 8, 9, 10, 11, 6, 12, 13, 14, 43, 44, 45, 46, 47, 48, 49, 50, 51, 52, 53, 54] (by decide +kernel) (by decide +kernel)
set_option maxRecDepth 20000 in
theorem gX5_startBack_X5_backProjector : GoodIn wsX5_startBack (wsV RX5 179 RX5 yX5_backProjector wsX5_backProjector) := goodIn_app (goodIn_of _ (by decide +kernel)) ggX5_startBack_X5_backProjector
set_option maxRecDepth 20000 in
theorem ggX5_startBack_X5_framesBehindMark : GoodIn wsX5_startBack wsX5_framesBehindMark := goodIn_r _ [18, 19, 1, 20, 21, 22, 23, 24, 6, 25, 8, 9, 10, 11, 12, 13, 14, 26, 27, 28, 29, 30, 31, 32, 43, 44, 45, 46, 47, 48, 49, 50, 51, 52, 53, 54, 40, 41, 42, 55, 56, 57, 58, 59, 60, 61, 62, 63] (by decide +kernel) (by decide +kernel)
set_option maxRecDepth 20000 in
theorem gX5_startBack_X5_framesBehindMark : GoodIn wsX5_startBack (wsV RX5 182 RX5 yX5_framesBehindMark wsX5_framesBehindMark) := goodIn_app (goodIn_of _ (by decide +kernel)) ggX5_startBack_X5_framesBehindMark
set_option maxRecDepth 20000 in
theorem ggX5_startBack_X6_settingNumbered : GoodIn wsX5_startBack wsX6_settingNumbered := goodIn_r _ [30, 31, 32, 59, 60, 61, 62, 63] (by decide +kernel) (by decide +kernel)
set_option maxRecDepth 20000 in
theorem gX5_startBack_X6_settingNumbered : GoodIn wsX5_startBack (wsV RX5 152 RX6 yX6_settingNumbered wsX6_settingNumbered) := goodIn_app (goodIn_of _ (by decide +kernel)) ggX5_startBack_X6_settingNumbered
set_option maxRecDepth 20000 in
theorem ggX5_startBack_X2_start : GoodIn wsX5_startBack wsX2_start := goodIn_r _ [37, 38, 39, 40, 41, 42] (by decide +kernel) (by decide +kernel)
set_option maxRecDepth 20000 in
theorem gX5_startBack_X2_start : GoodIn wsX5_startBack (wsV RX5 186 RX2 yX2_start wsX2_start) := goodIn_app (goodIn_of _ (by decide +kernel)) ggX5_startBack_X2_start
theorem dX5_startBack_0 : decode cX5_startBack 0 = .ok (.aload_n 0, 1) := by decide +kernel
theorem dX5_startBack_1 : decode cX5_startBack 1 = .ok (.invokevirtual 179, 3) := by decide +kernel
theorem dX5_startBack_4 : decode cX5_startBack 4 = .ok (.astore_n 3, 1) := by decide +kernel
theorem dX5_startBack_5 : decode cX5_startBack 5 = .ok (.aload_n 3, 1) := by decide +kernel
theorem dX5_startBack_6 : decode cX5_startBack 6 = .ok (.getfield 78, 3) := by decide +kernel
theorem dX5_startBack_9 : decode cX5_startBack 9 = .ok (.iconst 1, 1) := by decide +kernel
theorem dX5_startBack_10 : decode cX5_startBack 10 = .ok (.if_icmp .eq 4, 3) := by decide +kernel
theorem dX5_startBack_13 : decode cX5_startBack 13 = .ok (.return_, 1) := by decide +kernel
theorem dX5_startBack_14 : decode cX5_startBack 14 = .ok (.aload_n 0, 1) := by decide +kernel
theorem dX5_startBack_15 : decode cX5_startBack 15 = .ok (.aload_n 1, 1) := by decide +kernel
theorem dX5_startBack_16 : decode cX5_startBack 16 = .ok (.aload_n 2, 1) := by decide +kernel
theorem dX5_startBack_17 : decode cX5_startBack 17 = .ok (.invokevirtual 182, 3) := by decide +kernel
theorem dX5_startBack_20 : decode cX5_startBack 20 = .ok (.istore 4, 2) := by decide +kernel
theorem dX5_startBack_22 : decode cX5_startBack 22 = .ok (.iload 4, 2) := by decide +kernel
theorem dX5_startBack_24 : decode cX5_startBack 24 = .ok (.ifCond .lt 28, 3) := by decide +kernel
theorem dX5_startBack_27 : decode cX5_startBack 27 = .ok (.aload_n 3, 1) := by decide +kernel
theorem dX5_startBack_28 : decode cX5_startBack 28 = .ok (.aload_n 1, 1) := by decide +kernel
theorem dX5_startBack_29 : decode cX5_startBack 29 = .ok (.iconst 0, 1) := by decide +kernel
theorem dX5_startBack_30 : decode cX5_startBack 30 = .ok (.invokevirtual 152, 3) := by decide +kernel
theorem dX5_startBack_33 : decode cX5_startBack 33 = .ok (.ineg, 1) := by decide +kernel
theorem dX5_startBack_34 : decode cX5_startBack 34 = .ok (.invokevirtual 186, 3) := by decide +kernel
theorem dX5_startBack_37 : decode cX5_startBack 37 = .ok (.iload 4, 2) := by decide +kernel
theorem dX5_startBack_39 : decode cX5_startBack 39 = .ok (.ifCond .le 13, 3) := by decide +kernel
theorem dX5_startBack_42 : decode cX5_startBack 42 = .ok (.aload_n 0, 1) := by decide +kernel
theorem dX5_startBack_43 : decode cX5_startBack 43 = .ok (.dup, 1) := by decide +kernel
theorem dX5_startBack_44 : decode cX5_startBack 44 = .ok (.getfield 42, 3) := by decide +kernel
theorem dX5_startBack_47 : decode cX5_startBack 47 = .ok (.iconst 1, 1) := by decide +kernel
theorem dX5_startBack_48 : decode cX5_startBack 48 = .ok (.iadd, 1) := by decide +kernel
theorem dX5_startBack_49 : decode cX5_startBack 49 = .ok (.putfield 42, 3) := by decide +kernel
theorem dX5_startBack_52 : decode cX5_startBack 52 = .ok (.return_, 1) := by decide +kernel
set_option maxRecDepth 20000 in
theorem ggX5_framesBehindMark_X5_frontProjector : GoodIn wsX5_framesBehindMark wsX5_frontProjector := goodIn_r _ [9, 10, 11, 12, 13, 8, 14, 15, 16, 24, 25, 26, 27, 28, 29, 30, 31, 32, 33, 34, 35] (by decide +kernel) (by decide +kernel)
set_option maxRecDepth 20000 in
theorem gX5_framesBehindMark_X5_frontProjector : GoodIn wsX5_framesBehindMark (wsV RX5 93 RX5 yX5_frontProjector wsX5_frontProjector) := goodIn_app (goodIn_of _ (by decide +kernel)) ggX5_framesBehindMark_X5_frontProjector
set_option maxRecDepth 20000 in
theorem ggX5_framesBehindMark_X6_settingNumbered : GoodIn wsX5_framesBehindMark wsX6_settingNumbered := goodIn_r _ [21, 22, 23, 43, 44, 45, 46, 47] (by decide +kernel) (by decide +kernel)
set_option maxRecDepth 20000 in
theorem gX5_framesBehindMark_X6_settingNumbered : GoodIn wsX5_framesBehindMark (wsV RX5 152 RX6 yX6_settingNumbered wsX6_settingNumbered) := goodIn_app (goodIn_of _ (by decide +kernel)) ggX5_framesBehindMark_X6_settingNumbered
theorem dX5_framesBehindMark_0 : decode cX5_framesBehindMark 0 = .ok (.aload_n 0, 1) := by decide +kernel
theorem dX5_framesBehindMark_1 : decode cX5_framesBehindMark 1 = .ok (.getfield 58, 3) := by decide +kernel
theorem dX5_framesBehindMark_4 : decode cX5_framesBehindMark 4 = .ok (.ifCond .eq 5, 3) := by decide +kernel
theorem dX5_framesBehindMark_7 : decode cX5_framesBehindMark 7 = .ok (.iconst 1, 1) := by decide +kernel
theorem dX5_framesBehindMark_8 : decode cX5_framesBehindMark 8 = .ok (.ireturn, 1) := by decide +kernel
theorem dX5_framesBehindMark_9 : decode cX5_framesBehindMark 9 = .ok (.aload_n 0, 1) := by decide +kernel
theorem dX5_framesBehindMark_10 : decode cX5_framesBehindMark 10 = .ok (.invokevirtual 93, 3) := by decide +kernel
theorem dX5_framesBehindMark_13 : decode cX5_framesBehindMark 13 = .ok (.getfield 78, 3) := by decide +kernel
theorem dX5_framesBehindMark_16 : decode cX5_framesBehindMark 16 = .ok (.iconst 3, 1) := by decide +kernel
theorem dX5_framesBehindMark_17 : decode cX5_framesBehindMark 17 = .ok (.if_icmp .eq 5, 3) := by decide +kernel
theorem dX5_framesBehindMark_20 : decode cX5_framesBehindMark 20 = .ok (.iconst (-1), 1) := by decide +kernel
theorem dX5_framesBehindMark_21 : decode cX5_framesBehindMark 21 = .ok (.ireturn, 1) := by decide +kernel
theorem dX5_framesBehindMark_22 : decode cX5_framesBehindMark 22 = .ok (.aload_n 0, 1) := by decide +kernel
theorem dX5_framesBehindMark_23 : decode cX5_framesBehindMark 23 = .ok (.invokevirtual 93, 3) := by decide +kernel
theorem dX5_framesBehindMark_26 : decode cX5_framesBehindMark 26 = .ok (.getfield 81, 3) := by decide +kernel
theorem dX5_framesBehindMark_29 : decode cX5_framesBehindMark 29 = .ok (.aload_n 2, 1) := by decide +kernel
theorem dX5_framesBehindMark_30 : decode cX5_framesBehindMark 30 = .ok (.getfield 170, 3) := by decide +kernel
theorem dX5_framesBehindMark_33 : decode cX5_framesBehindMark 33 = .ok (.aload_n 1, 1) := by decide +kernel
theorem dX5_framesBehindMark_34 : decode cX5_framesBehindMark 34 = .ok (.iconst 1, 1) := by decide +kernel
theorem dX5_framesBehindMark_35 : decode cX5_framesBehindMark 35 = .ok (.invokevirtual 152, 3) := by decide +kernel
theorem dX5_framesBehindMark_38 : decode cX5_framesBehindMark 38 = .ok (.isub, 1) := by decide +kernel
theorem dX5_framesBehindMark_39 : decode cX5_framesBehindMark 39 = .ok (.isub, 1) := by decide +kernel
theorem dX5_framesBehindMark_40 : decode cX5_framesBehindMark 40 = .ok (.ireturn, 1) := by decide +kernel
set_option maxRecDepth 20000 in
theorem ggX5_goOn_X2_isMoving : GoodIn wsX5_goOn wsX2_isMoving := goodIn_r _ [6, 7, 8, 9, 10] (by decide +kernel) (by decide +kernel)
set_option maxRecDepth 20000 in
theorem gX5_goOn_X2_isMoving : GoodIn wsX5_goOn (wsV RX5 189 RX2 yX2_isMoving wsX2_isMoving) := goodIn_app (goodIn_of _ (by decide +kernel)) ggX5_goOn_X2_isMoving
theorem dX5_goOn_0 : decode cX5_goOn 0 = .ok (.aload_n 0, 1) := by decide +kernel
theorem dX5_goOn_1 : decode cX5_goOn 1 = .ok (.invokevirtual 189, 3) := by decide +kernel
theorem dX5_goOn_4 : decode cX5_goOn 4 = .ok (.ifCond .eq 13, 3) := by decide +kernel
theorem dX5_goOn_7 : decode cX5_goOn 7 = .ok (.aload_n 0, 1) := by decide +kernel
theorem dX5_goOn_8 : decode cX5_goOn 8 = .ok (.dup, 1) := by decide +kernel
theorem dX5_goOn_9 : decode cX5_goOn 9 = .ok (.getfield 81, 3) := by decide +kernel
theorem dX5_goOn_12 : decode cX5_goOn 12 = .ok (.iconst 1, 1) := by decide +kernel
theorem dX5_goOn_13 : decode cX5_goOn 13 = .ok (.iadd, 1) := by decide +kernel
theorem dX5_goOn_14 : decode cX5_goOn 14 = .ok (.putfield 81, 3) := by decide +kernel
theorem dX5_goOn_17 : decode cX5_goOn 17 = .ok (.return_, 1) := by decide +kernel
set_option maxRecDepth 20000 in
theorem ggX5_wearSplice_X5_frontProjector : GoodIn wsX5_wearSplice wsX5_frontProjector := goodIn_r _ [10, 5, 11, 12, 13, 9, 14, 15, 16, 57, 58, 59, 60, 61, 62, 63, 64, 65, 66, 67, 68] (by decide +kernel) (by decide +kernel)
set_option maxRecDepth 20000 in
theorem gX5_wearSplice_X5_frontProjector : GoodIn wsX5_wearSplice (wsV RX5 93 RX5 yX5_frontProjector wsX5_frontProjector) := goodIn_app (goodIn_of _ (by decide +kernel)) ggX5_wearSplice_X5_frontProjector
set_option maxRecDepth 20000 in
theorem ggX5_wearSplice_X3_breaksAt : GoodIn wsX5_wearSplice wsX3_breaksAt := goodIn_r _ [21, 22, 23, 24, 25, 26, 27, 28, 29, 20, 30, 31, 32, 33, 34, 35, 36, 37, 69, 70, 71, 72] (by decide +kernel) (by decide +kernel)
set_option maxRecDepth 20000 in
theorem gX5_wearSplice_X3_breaksAt : GoodIn wsX5_wearSplice (wsV RX5 192 RX3 yX3_breaksAt wsX3_breaksAt) := goodIn_app (goodIn_of _ (by decide +kernel)) ggX5_wearSplice_X3_breaksAt
set_option maxRecDepth 20000 in
theorem ggX5_wearSplice_X0_addFirst : GoodIn wsX5_wearSplice wsX0_addFirst := goodIn_r _ [42, 43, 44, 45, 46, 47, 48, 49, 73, 74, 75, 76, 77, 78] (by decide +kernel) (by decide +kernel)
set_option maxRecDepth 20000 in
theorem gX5_wearSplice_X0_addFirst : GoodIn wsX5_wearSplice (wsV RX5 196 RX0 yX0_addFirst wsX0_addFirst) := goodIn_app (goodIn_of _ (by decide +kernel)) ggX5_wearSplice_X0_addFirst
set_option maxRecDepth 20000 in
theorem ggX5_wearSplice_X5_backProjector : GoodIn wsX5_wearSplice wsX5_backProjector := goodIn_r _ [53, 5, 11, 12, 13, 9, 14, 15, 16, 57, 58, 59, 60, 61, 62, 63, 64, 65, 66, 67, 68] (by decide +kernel) (by decide +kernel)
set_option maxRecDepth 20000 in
theorem gX5_wearSplice_X5_backProjector : GoodIn wsX5_wearSplice (wsV RX5 179 RX5 yX5_backProjector wsX5_backProjector) := goodIn_app (goodIn_of _ (by decide +kernel)) ggX5_wearSplice_X5_backProjector
theorem dX5_wearSplice_0 : decode cX5_wearSplice 0 = .ok (.aload_n 0, 1) := by decide +kernel
theorem dX5_wearSplice_1 : decode cX5_wearSplice 1 = .ok (.invokevirtual 93, 3) := by decide +kernel
theorem dX5_wearSplice_4 : decode cX5_wearSplice 4 = .ok (.astore_n 2, 1) := by decide +kernel
theorem dX5_wearSplice_5 : decode cX5_wearSplice 5 = .ok (.aload_n 2, 1) := by decide +kernel
theorem dX5_wearSplice_6 : decode cX5_wearSplice 6 = .ok (.getfield 78, 3) := by decide +kernel
theorem dX5_wearSplice_9 : decode cX5_wearSplice 9 = .ok (.iconst 3, 1) := by decide +kernel
theorem dX5_wearSplice_10 : decode cX5_wearSplice 10 = .ok (.if_icmp .ne 14, 3) := by decide +kernel
theorem dX5_wearSplice_13 : decode cX5_wearSplice 13 = .ok (.aload_n 1, 1) := by decide +kernel
theorem dX5_wearSplice_14 : decode cX5_wearSplice 14 = .ok (.aload_n 2, 1) := by decide +kernel
theorem dX5_wearSplice_15 : decode cX5_wearSplice 15 = .ok (.getfield 81, 3) := by decide +kernel
theorem dX5_wearSplice_18 : decode cX5_wearSplice 18 = .ok (.invokevirtual 192, 3) := by decide +kernel
theorem dX5_wearSplice_21 : decode cX5_wearSplice 21 = .ok (.ifCond .ne 4, 3) := by decide +kernel
theorem dX5_wearSplice_24 : decode cX5_wearSplice 24 = .ok (.return_, 1) := by decide +kernel
theorem dX5_wearSplice_25 : decode cX5_wearSplice 25 = .ok (.aload_n 2, 1) := by decide +kernel
theorem dX5_wearSplice_26 : decode cX5_wearSplice 26 = .ok (.iconst 5, 1) := by decide +kernel
theorem dX5_wearSplice_27 : decode cX5_wearSplice 27 = .ok (.putfield 78, 3) := by decide +kernel
theorem dX5_wearSplice_30 : decode cX5_wearSplice 30 = .ok (.aload_n 0, 1) := by decide +kernel
theorem dX5_wearSplice_31 : decode cX5_wearSplice 31 = .ok (.dup, 1) := by decide +kernel
theorem dX5_wearSplice_32 : decode cX5_wearSplice 32 = .ok (.getfield 45, 3) := by decide +kernel
theorem dX5_wearSplice_35 : decode cX5_wearSplice 35 = .ok (.iconst 1, 1) := by decide +kernel
theorem dX5_wearSplice_36 : decode cX5_wearSplice 36 = .ok (.iadd, 1) := by decide +kernel
theorem dX5_wearSplice_37 : decode cX5_wearSplice 37 = .ok (.putfield 45, 3) := by decide +kernel
theorem dX5_wearSplice_40 : decode cX5_wearSplice 40 = .ok (.aload_n 0, 1) := by decide +kernel
theorem dX5_wearSplice_41 : decode cX5_wearSplice 41 = .ok (.getfield 12, 3) := by decide +kernel
theorem dX5_wearSplice_44 : decode cX5_wearSplice 44 = .ok (.iconst 2, 1) := by decide +kernel
theorem dX5_wearSplice_45 : decode cX5_wearSplice 45 = .ok (.aload_n 0, 1) := by decide +kernel
theorem dX5_wearSplice_46 : decode cX5_wearSplice 46 = .ok (.getfield 52, 3) := by decide +kernel
theorem dX5_wearSplice_49 : decode cX5_wearSplice 49 = .ok (.invokevirtual 196, 3) := by decide +kernel
theorem dX5_wearSplice_52 : decode cX5_wearSplice 52 = .ok (.aload_n 0, 1) := by decide +kernel
theorem dX5_wearSplice_53 : decode cX5_wearSplice 53 = .ok (.invokevirtual 179, 3) := by decide +kernel
theorem dX5_wearSplice_56 : decode cX5_wearSplice 56 = .ok (.getfield 78, 3) := by decide +kernel
theorem dX5_wearSplice_59 : decode cX5_wearSplice 59 = .ok (.iconst 2, 1) := by decide +kernel
theorem dX5_wearSplice_60 : decode cX5_wearSplice 60 = .ok (.if_icmp .ne 11, 3) := by decide +kernel
theorem dX5_wearSplice_63 : decode cX5_wearSplice 63 = .ok (.aload_n 0, 1) := by decide +kernel
theorem dX5_wearSplice_64 : decode cX5_wearSplice 64 = .ok (.invokevirtual 179, 3) := by decide +kernel
theorem dX5_wearSplice_67 : decode cX5_wearSplice 67 = .ok (.iconst 1, 1) := by decide +kernel
theorem dX5_wearSplice_68 : decode cX5_wearSplice 68 = .ok (.putfield 78, 3) := by decide +kernel
theorem dX5_wearSplice_71 : decode cX5_wearSplice 71 = .ok (.return_, 1) := by decide +kernel
set_option maxRecDepth 20000 in
theorem ggX5_runOut_X5_frontProjector : GoodIn wsX5_runOut wsX5_frontProjector := goodIn_r _ [12, 13, 14, 15, 16, 11, 17, 18, 19, 68, 69, 70, 71, 72, 73, 74, 75, 76, 77, 78, 79] (by decide +kernel) (by decide +kernel)
set_option maxRecDepth 20000 in
theorem gX5_runOut_X5_frontProjector : GoodIn wsX5_runOut (wsV RX5 93 RX5 yX5_frontProjector wsX5_frontProjector) := goodIn_app (goodIn_of _ (by decide +kernel)) ggX5_runOut_X5_frontProjector
set_option maxRecDepth 20000 in
theorem ggX5_runOut_X6_settingNumbered : GoodIn wsX5_runOut wsX6_settingNumbered := goodIn_r _ [24, 25, 26, 59, 60, 61, 62, 63] (by decide +kernel) (by decide +kernel)
set_option maxRecDepth 20000 in
theorem gX5_runOut_X6_settingNumbered : GoodIn wsX5_runOut (wsV RX5 152 RX6 yX6_settingNumbered wsX6_settingNumbered) := goodIn_app (goodIn_of _ (by decide +kernel)) ggX5_runOut_X6_settingNumbered
set_option maxRecDepth 20000 in
theorem ggX5_runOut_X5_orderNextReel : GoodIn wsX5_runOut wsX5_orderNextReel := goodIn_r _ [30, 31, 13, 2, 32, 33, 34, 35, 36, 37, 38, 39, 40, 41, 42, 43, 44, 45, 46, 47, 48, 49, 50, 51, 52, 53, 54, 55, 68, 69, 70, 71, 72, 73, 74, 75, 76, 77, 78, 79, 59, 60, 61, 62, 63, 80, 81, 82, 83, 84, 85] (by decide +kernel) (by decide +kernel)
set_option maxRecDepth 20000 in
theorem gX5_runOut_X5_orderNextReel : GoodIn wsX5_runOut (wsV RX5 200 RX5 yX5_orderNextReel wsX5_orderNextReel) := goodIn_app (goodIn_of _ (by decide +kernel)) ggX5_runOut_X5_orderNextReel
theorem dX5_runOut_0 : decode cX5_runOut 0 = .ok (.aload_n 0, 1) := by decide +kernel
theorem dX5_runOut_1 : decode cX5_runOut 1 = .ok (.invokevirtual 93, 3) := by decide +kernel
theorem dX5_runOut_4 : decode cX5_runOut 4 = .ok (.astore_n 3, 1) := by decide +kernel
theorem dX5_runOut_5 : decode cX5_runOut 5 = .ok (.aload_n 3, 1) := by decide +kernel
theorem dX5_runOut_6 : decode cX5_runOut 6 = .ok (.getfield 97, 3) := by decide +kernel
theorem dX5_runOut_9 : decode cX5_runOut 9 = .ok (.aload_n 1, 1) := by decide +kernel
theorem dX5_runOut_10 : decode cX5_runOut 10 = .ok (.getfield 84, 3) := by decide +kernel
theorem dX5_runOut_13 : decode cX5_runOut 13 = .ok (.iconst 1, 1) := by decide +kernel
theorem dX5_runOut_14 : decode cX5_runOut 14 = .ok (.isub, 1) := by decide +kernel
theorem dX5_runOut_15 : decode cX5_runOut 15 = .ok (.if_icmp .ne 7, 3) := by decide +kernel
theorem dX5_runOut_18 : decode cX5_runOut 18 = .ok (.iconst 1, 1) := by decide +kernel
theorem dX5_runOut_19 : decode cX5_runOut 19 = .ok (.goto 4, 3) := by decide +kernel
theorem dX5_runOut_22 : decode cX5_runOut 22 = .ok (.iconst 0, 1) := by decide +kernel
theorem dX5_runOut_23 : decode cX5_runOut 23 = .ok (.istore 4, 2) := by decide +kernel
theorem dX5_runOut_25 : decode cX5_runOut 25 = .ok (.iload 4, 2) := by decide +kernel
theorem dX5_runOut_27 : decode cX5_runOut 27 = .ok (.ifCond .eq 7, 3) := by decide +kernel
theorem dX5_runOut_30 : decode cX5_runOut 30 = .ok (.iconst 0, 1) := by decide +kernel
theorem dX5_runOut_31 : decode cX5_runOut 31 = .ok (.goto 8, 3) := by decide +kernel
theorem dX5_runOut_34 : decode cX5_runOut 34 = .ok (.aload_n 1, 1) := by decide +kernel
theorem dX5_runOut_35 : decode cX5_runOut 35 = .ok (.iconst 2, 1) := by decide +kernel
theorem dX5_runOut_36 : decode cX5_runOut 36 = .ok (.invokevirtual 152, 3) := by decide +kernel
theorem dX5_runOut_39 : decode cX5_runOut 39 = .ok (.istore 5, 2) := by decide +kernel
theorem dX5_runOut_41 : decode cX5_runOut 41 = .ok (.aload_n 3, 1) := by decide +kernel
theorem dX5_runOut_42 : decode cX5_runOut 42 = .ok (.getfield 78, 3) := by decide +kernel
theorem dX5_runOut_45 : decode cX5_runOut 45 = .ok (.iconst 3, 1) := by decide +kernel
theorem dX5_runOut_46 : decode cX5_runOut 46 = .ok (.if_icmp .ne 17, 3) := by decide +kernel
theorem dX5_runOut_49 : decode cX5_runOut 49 = .ok (.aload_n 3, 1) := by decide +kernel
theorem dX5_runOut_50 : decode cX5_runOut 50 = .ok (.getfield 81, 3) := by decide +kernel
theorem dX5_runOut_53 : decode cX5_runOut 53 = .ok (.aload_n 2, 1) := by decide +kernel
theorem dX5_runOut_54 : decode cX5_runOut 54 = .ok (.getfield 170, 3) := by decide +kernel
theorem dX5_runOut_57 : decode cX5_runOut 57 = .ok (.iload 5, 2) := by decide +kernel
theorem dX5_runOut_59 : decode cX5_runOut 59 = .ok (.isub, 1) := by decide +kernel
theorem dX5_runOut_60 : decode cX5_runOut 60 = .ok (.if_icmp .ge 4, 3) := by decide +kernel
theorem dX5_runOut_63 : decode cX5_runOut 63 = .ok (.return_, 1) := by decide +kernel
theorem dX5_runOut_64 : decode cX5_runOut 64 = .ok (.aload_n 3, 1) := by decide +kernel
theorem dX5_runOut_65 : decode cX5_runOut 65 = .ok (.iconst 4, 1) := by decide +kernel
theorem dX5_runOut_66 : decode cX5_runOut 66 = .ok (.putfield 78, 3) := by decide +kernel
theorem dX5_runOut_69 : decode cX5_runOut 69 = .ok (.aload_n 0, 1) := by decide +kernel
theorem dX5_runOut_70 : decode cX5_runOut 70 = .ok (.iconst 1, 1) := by decide +kernel
theorem dX5_runOut_71 : decode cX5_runOut 71 = .ok (.putfield 58, 3) := by decide +kernel
theorem dX5_runOut_74 : decode cX5_runOut 74 = .ok (.iload 4, 2) := by decide +kernel
theorem dX5_runOut_76 : decode cX5_runOut 76 = .ok (.ifCond .eq 11, 3) := by decide +kernel
theorem dX5_runOut_79 : decode cX5_runOut 79 = .ok (.aload_n 0, 1) := by decide +kernel
theorem dX5_runOut_80 : decode cX5_runOut 80 = .ok (.iconst 0, 1) := by decide +kernel
theorem dX5_runOut_81 : decode cX5_runOut 81 = .ok (.putfield 28, 3) := by decide +kernel
theorem dX5_runOut_84 : decode cX5_runOut 84 = .ok (.goto 8, 3) := by decide +kernel
theorem dX5_runOut_87 : decode cX5_runOut 87 = .ok (.aload_n 0, 1) := by decide +kernel
theorem dX5_runOut_88 : decode cX5_runOut 88 = .ok (.aload_n 1, 1) := by decide +kernel
theorem dX5_runOut_89 : decode cX5_runOut 89 = .ok (.invokevirtual 200, 3) := by decide +kernel
theorem dX5_runOut_92 : decode cX5_runOut 92 = .ok (.return_, 1) := by decide +kernel
set_option maxRecDepth 20000 in
theorem ggX5_orderNextReel_X0_addLast : GoodIn wsX5_orderNextReel wsX0_addLast := goodIn_r _ [9, 10, 11, 12, 45, 46, 47, 48, 49, 50] (by decide +kernel) (by decide +kernel)
set_option maxRecDepth 20000 in
theorem gX5_orderNextReel_X0_addLast : GoodIn wsX5_orderNextReel (wsV RX5 203 RX0 yX0_addLast wsX0_addLast) := goodIn_app (goodIn_of _ (by decide +kernel)) ggX5_orderNextReel_X0_addLast
set_option maxRecDepth 20000 in
theorem ggX5_orderNextReel_X0_threadTasks : GoodIn wsX5_orderNextReel wsX0_threadTasks := goodIn_r _ [16, 17, 18, 19, 8, 20, 21, 22, 11, 23, 24, 25, 26, 27, 10, 45, 46, 47, 48, 49, 50] (by decide +kernel) (by decide +kernel)
set_option maxRecDepth 20000 in
theorem gX5_orderNextReel_X0_threadTasks : GoodIn wsX5_orderNextReel (wsV RX5 206 RX0 yX0_threadTasks wsX0_threadTasks) := goodIn_app (goodIn_of _ (by decide +kernel)) ggX5_orderNextReel_X0_threadTasks
theorem dX5_orderNextReel_0 : decode cX5_orderNextReel 0 = .ok (.aload_n 0, 1) := by decide +kernel
theorem dX5_orderNextReel_1 : decode cX5_orderNextReel 1 = .ok (.getfield 12, 3) := by decide +kernel
theorem dX5_orderNextReel_4 : decode cX5_orderNextReel 4 = .ok (.iconst 0, 1) := by decide +kernel
theorem dX5_orderNextReel_5 : decode cX5_orderNextReel 5 = .ok (.aload_n 0, 1) := by decide +kernel
theorem dX5_orderNextReel_6 : decode cX5_orderNextReel 6 = .ok (.getfield 52, 3) := by decide +kernel
theorem dX5_orderNextReel_9 : decode cX5_orderNextReel 9 = .ok (.invokevirtual 203, 3) := by decide +kernel
theorem dX5_orderNextReel_12 : decode cX5_orderNextReel 12 = .ok (.aload_n 1, 1) := by decide +kernel
theorem dX5_orderNextReel_13 : decode cX5_orderNextReel 13 = .ok (.getfield 84, 3) := by decide +kernel
theorem dX5_orderNextReel_16 : decode cX5_orderNextReel 16 = .ok (.aload_n 0, 1) := by decide +kernel
theorem dX5_orderNextReel_17 : decode cX5_orderNextReel 17 = .ok (.getfield 55, 3) := by decide +kernel
theorem dX5_orderNextReel_20 : decode cX5_orderNextReel 20 = .ok (.isub, 1) := by decide +kernel
theorem dX5_orderNextReel_21 : decode cX5_orderNextReel 21 = .ok (.aload_n 0, 1) := by decide +kernel
theorem dX5_orderNextReel_22 : decode cX5_orderNextReel 22 = .ok (.getfield 12, 3) := by decide +kernel
theorem dX5_orderNextReel_25 : decode cX5_orderNextReel 25 = .ok (.invokevirtual 206, 3) := by decide +kernel
theorem dX5_orderNextReel_28 : decode cX5_orderNextReel 28 = .ok (.if_icmp .le 15, 3) := by decide +kernel
theorem dX5_orderNextReel_31 : decode cX5_orderNextReel 31 = .ok (.aload_n 0, 1) := by decide +kernel
theorem dX5_orderNextReel_32 : decode cX5_orderNextReel 32 = .ok (.getfield 12, 3) := by decide +kernel
theorem dX5_orderNextReel_35 : decode cX5_orderNextReel 35 = .ok (.iconst 1, 1) := by decide +kernel
theorem dX5_orderNextReel_36 : decode cX5_orderNextReel 36 = .ok (.aload_n 0, 1) := by decide +kernel
theorem dX5_orderNextReel_37 : decode cX5_orderNextReel 37 = .ok (.getfield 52, 3) := by decide +kernel
theorem dX5_orderNextReel_40 : decode cX5_orderNextReel 40 = .ok (.invokevirtual 203, 3) := by decide +kernel
theorem dX5_orderNextReel_43 : decode cX5_orderNextReel 43 = .ok (.return_, 1) := by decide +kernel
set_option maxRecDepth 20000 in
theorem ggX5_changeOver_X5_backProjector : GoodIn wsX5_changeOver wsX5_backProjector := goodIn_r _ [11, 6, 12, 13, 14, 10, 15, 16, 17, 18, 19, 20, 21, 22, 23, 24, 25, 26, 27, 28, 29] (by decide +kernel) (by decide +kernel)
set_option maxRecDepth 20000 in
theorem gX5_changeOver_X5_backProjector : GoodIn wsX5_changeOver (wsV RX5 179 RX5 yX5_backProjector wsX5_backProjector) := goodIn_app (goodIn_of _ (by decide +kernel)) ggX5_changeOver_X5_backProjector
theorem dX5_changeOver_0 : decode cX5_changeOver 0 = .ok (.aload_n 0, 1) := by decide +kernel
theorem dX5_changeOver_1 : decode cX5_changeOver 1 = .ok (.invokevirtual 179, 3) := by decide +kernel
theorem dX5_changeOver_4 : decode cX5_changeOver 4 = .ok (.astore_n 1, 1) := by decide +kernel
theorem dX5_changeOver_5 : decode cX5_changeOver 5 = .ok (.aload_n 0, 1) := by decide +kernel
theorem dX5_changeOver_6 : decode cX5_changeOver 6 = .ok (.getfield 58, 3) := by decide +kernel
theorem dX5_changeOver_9 : decode cX5_changeOver 9 = .ok (.ifCond .eq 58, 3) := by decide +kernel
theorem dX5_changeOver_12 : decode cX5_changeOver 12 = .ok (.aload_n 0, 1) := by decide +kernel
theorem dX5_changeOver_13 : decode cX5_changeOver 13 = .ok (.getfield 28, 3) := by decide +kernel
theorem dX5_changeOver_16 : decode cX5_changeOver 16 = .ok (.ifCond .eq 51, 3) := by decide +kernel
theorem dX5_changeOver_19 : decode cX5_changeOver 19 = .ok (.aload_n 1, 1) := by decide +kernel
theorem dX5_changeOver_20 : decode cX5_changeOver 20 = .ok (.getfield 78, 3) := by decide +kernel
theorem dX5_changeOver_23 : decode cX5_changeOver 23 = .ok (.iconst 2, 1) := by decide +kernel
theorem dX5_changeOver_24 : decode cX5_changeOver 24 = .ok (.if_icmp .ne 43, 3) := by decide +kernel
theorem dX5_changeOver_27 : decode cX5_changeOver 27 = .ok (.aload_n 1, 1) := by decide +kernel
theorem dX5_changeOver_28 : decode cX5_changeOver 28 = .ok (.getfield 81, 3) := by decide +kernel
theorem dX5_changeOver_31 : decode cX5_changeOver 31 = .ok (.ifCond .lt 36, 3) := by decide +kernel
theorem dX5_changeOver_34 : decode cX5_changeOver 34 = .ok (.aload_n 1, 1) := by decide +kernel
theorem dX5_changeOver_35 : decode cX5_changeOver 35 = .ok (.iconst 3, 1) := by decide +kernel
theorem dX5_changeOver_36 : decode cX5_changeOver 36 = .ok (.putfield 78, 3) := by decide +kernel
theorem dX5_changeOver_39 : decode cX5_changeOver 39 = .ok (.aload_n 0, 1) := by decide +kernel
theorem dX5_changeOver_40 : decode cX5_changeOver 40 = .ok (.dup, 1) := by decide +kernel
theorem dX5_changeOver_41 : decode cX5_changeOver 41 = .ok (.getfield 39, 3) := by decide +kernel
theorem dX5_changeOver_44 : decode cX5_changeOver 44 = .ok (.aload_n 1, 1) := by decide +kernel
theorem dX5_changeOver_45 : decode cX5_changeOver 45 = .ok (.getfield 81, 3) := by decide +kernel
theorem dX5_changeOver_48 : decode cX5_changeOver 48 = .ok (.iadd, 1) := by decide +kernel
theorem dX5_changeOver_49 : decode cX5_changeOver 49 = .ok (.putfield 39, 3) := by decide +kernel
theorem dX5_changeOver_52 : decode cX5_changeOver 52 = .ok (.aload_n 0, 1) := by decide +kernel
theorem dX5_changeOver_53 : decode cX5_changeOver 53 = .ok (.iconst 1, 1) := by decide +kernel
theorem dX5_changeOver_54 : decode cX5_changeOver 54 = .ok (.aload_n 0, 1) := by decide +kernel
theorem dX5_changeOver_55 : decode cX5_changeOver 55 = .ok (.getfield 52, 3) := by decide +kernel
theorem dX5_changeOver_58 : decode cX5_changeOver 58 = .ok (.isub, 1) := by decide +kernel
theorem dX5_changeOver_59 : decode cX5_changeOver 59 = .ok (.putfield 52, 3) := by decide +kernel
theorem dX5_changeOver_62 : decode cX5_changeOver 62 = .ok (.aload_n 0, 1) := by decide +kernel
theorem dX5_changeOver_63 : decode cX5_changeOver 63 = .ok (.iconst 0, 1) := by decide +kernel
theorem dX5_changeOver_64 : decode cX5_changeOver 64 = .ok (.putfield 58, 3) := by decide +kernel
theorem dX5_changeOver_67 : decode cX5_changeOver 67 = .ok (.return_, 1) := by decide +kernel
set_option maxRecDepth 20000 in
theorem ggX5_countTick_X5_frontProjector : GoodIn wsX5_countTick wsX5_frontProjector := goodIn_r _ [9, 10, 11, 12, 13, 8, 14, 15, 16, 17, 18, 19, 20, 21, 22, 23, 24, 25, 26, 27, 28] (by decide +kernel) (by decide +kernel)
set_option maxRecDepth 20000 in
theorem gX5_countTick_X5_frontProjector : GoodIn wsX5_countTick (wsV RX5 93 RX5 yX5_frontProjector wsX5_frontProjector) := goodIn_app (goodIn_of _ (by decide +kernel)) ggX5_countTick_X5_frontProjector
theorem dX5_countTick_0 : decode cX5_countTick 0 = .ok (.aload_n 0, 1) := by decide +kernel
theorem dX5_countTick_1 : decode cX5_countTick 1 = .ok (.dup, 1) := by decide +kernel
theorem dX5_countTick_2 : decode cX5_countTick 2 = .ok (.getfield 32, 3) := by decide +kernel
theorem dX5_countTick_5 : decode cX5_countTick 5 = .ok (.iconst 1, 1) := by decide +kernel
theorem dX5_countTick_6 : decode cX5_countTick 6 = .ok (.iadd, 1) := by decide +kernel
theorem dX5_countTick_7 : decode cX5_countTick 7 = .ok (.putfield 32, 3) := by decide +kernel
theorem dX5_countTick_10 : decode cX5_countTick 10 = .ok (.aload_n 0, 1) := by decide +kernel
theorem dX5_countTick_11 : decode cX5_countTick 11 = .ok (.getfield 28, 3) := by decide +kernel
theorem dX5_countTick_14 : decode cX5_countTick 14 = .ok (.ifCond .eq 24, 3) := by decide +kernel
theorem dX5_countTick_17 : decode cX5_countTick 17 = .ok (.aload_n 0, 1) := by decide +kernel
theorem dX5_countTick_18 : decode cX5_countTick 18 = .ok (.invokevirtual 93, 3) := by decide +kernel
theorem dX5_countTick_21 : decode cX5_countTick 21 = .ok (.getfield 78, 3) := by decide +kernel
theorem dX5_countTick_24 : decode cX5_countTick 24 = .ok (.iconst 3, 1) := by decide +kernel
theorem dX5_countTick_25 : decode cX5_countTick 25 = .ok (.if_icmp .eq 13, 3) := by decide +kernel
theorem dX5_countTick_28 : decode cX5_countTick 28 = .ok (.aload_n 0, 1) := by decide +kernel
theorem dX5_countTick_29 : decode cX5_countTick 29 = .ok (.dup, 1) := by decide +kernel
theorem dX5_countTick_30 : decode cX5_countTick 30 = .ok (.getfield 36, 3) := by decide +kernel
theorem dX5_countTick_33 : decode cX5_countTick 33 = .ok (.iconst 1, 1) := by decide +kernel
theorem dX5_countTick_34 : decode cX5_countTick 34 = .ok (.iadd, 1) := by decide +kernel
theorem dX5_countTick_35 : decode cX5_countTick 35 = .ok (.putfield 36, 3) := by decide +kernel
theorem dX5_countTick_38 : decode cX5_countTick 38 = .ok (.return_, 1) := by decide +kernel
set_option maxRecDepth 20000 in
theorem ggX6_init_X3_init : GoodIn wsX6_init wsX3_init := goodIn_r _ [17, 18, 2, 3, 6, 19, 20, 26, 27, 28, 29] (by decide +kernel) (by decide +kernel)
set_option maxRecDepth 20000 in
theorem gX6_init_X3_init_n24 : GoodIn wsX6_init (wsX3_init) := ggX6_init_X3_init
theorem dX6_init_0 : decode cX6_init 0 = .ok (.aload_n 0, 1) := by decide +kernel
theorem dX6_init_1 : decode cX6_init 1 = .ok (.invokespecial 3, 3) := by decide +kernel
theorem dX6_init_4 : decode cX6_init 4 = .ok (.aload_n 0, 1) := by decide +kernel
theorem dX6_init_5 : decode cX6_init 5 = .ok (.bipush 10, 2) := by decide +kernel
theorem dX6_init_7 : decode cX6_init 7 = .ok (.anewarray 11, 3) := by decide +kernel
theorem dX6_init_10 : decode cX6_init 10 = .ok (.putfield 13, 3) := by decide +kernel
theorem dX6_init_13 : decode cX6_init 13 = .ok (.aload_n 0, 1) := by decide +kernel
theorem dX6_init_14 : decode cX6_init 14 = .ok (.bipush 8, 2) := by decide +kernel
theorem dX6_init_16 : decode cX6_init 16 = .ok (.newarray .int, 2) := by decide +kernel
theorem dX6_init_18 : decode cX6_init 18 = .ok (.putfield 17, 3) := by decide +kernel
theorem dX6_init_21 : decode cX6_init 21 = .ok (.aload_n 0, 1) := by decide +kernel
theorem dX6_init_22 : decode cX6_init 22 = .ok (.bipush 12, 2) := by decide +kernel
theorem dX6_init_24 : decode cX6_init 24 = .ok (.newarray .int, 2) := by decide +kernel
theorem dX6_init_26 : decode cX6_init 26 = .ok (.putfield 21, 3) := by decide +kernel
theorem dX6_init_29 : decode cX6_init 29 = .ok (.iconst 0, 1) := by decide +kernel
theorem dX6_init_30 : decode cX6_init 30 = .ok (.istore_n 1, 1) := by decide +kernel
theorem dX6_init_31 : decode cX6_init 31 = .ok (.iload_n 1, 1) := by decide +kernel
theorem dX6_init_32 : decode cX6_init 32 = .ok (.bipush 10, 2) := by decide +kernel
theorem dX6_init_34 : decode cX6_init 34 = .ok (.if_icmp .ge 22, 3) := by decide +kernel
theorem dX6_init_37 : decode cX6_init 37 = .ok (.aload_n 0, 1) := by decide +kernel
theorem dX6_init_38 : decode cX6_init 38 = .ok (.getfield 13, 3) := by decide +kernel
theorem dX6_init_41 : decode cX6_init 41 = .ok (.iload_n 1, 1) := by decide +kernel
theorem dX6_init_42 : decode cX6_init 42 = .ok (.new 11, 3) := by decide +kernel
theorem dX6_init_45 : decode cX6_init 45 = .ok (.dup, 1) := by decide +kernel
theorem dX6_init_46 : decode cX6_init 46 = .ok (.invokespecial 24, 3) := by decide +kernel
theorem dX6_init_49 : decode cX6_init 49 = .ok (.aastore, 1) := by decide +kernel
theorem dX6_init_50 : decode cX6_init 50 = .ok (.iinc 1 1, 3) := by decide +kernel
theorem dX6_init_53 : decode cX6_init 53 = .ok (.goto (-22), 3) := by decide +kernel
theorem dX6_init_56 : decode cX6_init 56 = .ok (.getstatic 25, 3) := by decide +kernel
theorem dX6_init_59 : decode cX6_init 59 = .ok (.iconst 0, 1) := by decide +kernel
theorem dX6_init_60 : decode cX6_init 60 = .ok (.aload_n 0, 1) := by decide +kernel
theorem dX6_init_61 : decode cX6_init 61 = .ok (.getfield 17, 3) := by decide +kernel
theorem dX6_init_64 : decode cX6_init 64 = .ok (.iconst 0, 1) := by decide +kernel
theorem dX6_init_65 : decode cX6_init 65 = .ok (.bipush 8, 2) := by decide +kernel
theorem dX6_init_67 : decode cX6_init 67 = .ok (.invokestatic 28, 3) := by decide +kernel
theorem dX6_init_70 : decode cX6_init 70 = .ok (.return_, 1) := by decide +kernel
set_option maxRecDepth 20000 in
theorem ggX6_copyFrom_X3_copyFrom : GoodIn wsX6_copyFrom wsX3_copyFrom := goodIn_r _ [14, 15, 16, 17, 18, 5, 6, 7, 19, 34, 35, 36, 37] (by decide +kernel) (by decide +kernel)
set_option maxRecDepth 20000 in
theorem gX6_copyFrom_X3_copyFrom : GoodIn wsX6_copyFrom (wsV RX6 38 RX3 yX3_copyFrom wsX3_copyFrom) := goodIn_app (goodIn_of _ (by decide +kernel)) ggX6_copyFrom_X3_copyFrom
set_option maxRecDepth 20000 in
theorem ggX6_copyFrom_X6_takeProgram : GoodIn wsX6_copyFrom wsX6_takeProgram := goodIn_r _ [24, 25, 26, 27, 28, 9, 8, 29, 30, 31, 32, 33] (by decide +kernel) (by decide +kernel)
set_option maxRecDepth 20000 in
theorem gX6_copyFrom_X6_takeProgram : GoodIn wsX6_copyFrom (wsV RX6 45 RX6 yX6_takeProgram wsX6_takeProgram) := goodIn_app (goodIn_of _ (by decide +kernel)) ggX6_copyFrom_X6_takeProgram
theorem dX6_copyFrom_0 : decode cX6_copyFrom 0 = .ok (.aload_n 0, 1) := by decide +kernel
theorem dX6_copyFrom_1 : decode cX6_copyFrom 1 = .ok (.aload_n 1, 1) := by decide +kernel
theorem dX6_copyFrom_2 : decode cX6_copyFrom 2 = .ok (.getfield 34, 3) := by decide +kernel
theorem dX6_copyFrom_5 : decode cX6_copyFrom 5 = .ok (.putfield 34, 3) := by decide +kernel
theorem dX6_copyFrom_8 : decode cX6_copyFrom 8 = .ok (.iconst 0, 1) := by decide +kernel
theorem dX6_copyFrom_9 : decode cX6_copyFrom 9 = .ok (.istore_n 2, 1) := by decide +kernel
theorem dX6_copyFrom_10 : decode cX6_copyFrom 10 = .ok (.iload_n 2, 1) := by decide +kernel
theorem dX6_copyFrom_11 : decode cX6_copyFrom 11 = .ok (.bipush 10, 2) := by decide +kernel
theorem dX6_copyFrom_13 : decode cX6_copyFrom 13 = .ok (.if_icmp .ge 39, 3) := by decide +kernel
theorem dX6_copyFrom_16 : decode cX6_copyFrom 16 = .ok (.aload_n 1, 1) := by decide +kernel
theorem dX6_copyFrom_17 : decode cX6_copyFrom 17 = .ok (.getfield 13, 3) := by decide +kernel
theorem dX6_copyFrom_20 : decode cX6_copyFrom 20 = .ok (.iload_n 2, 1) := by decide +kernel
theorem dX6_copyFrom_21 : decode cX6_copyFrom 21 = .ok (.aaload, 1) := by decide +kernel
theorem dX6_copyFrom_22 : decode cX6_copyFrom 22 = .ok (.astore_n 3, 1) := by decide +kernel
theorem dX6_copyFrom_23 : decode cX6_copyFrom 23 = .ok (.aload_n 0, 1) := by decide +kernel
theorem dX6_copyFrom_24 : decode cX6_copyFrom 24 = .ok (.getfield 13, 3) := by decide +kernel
theorem dX6_copyFrom_27 : decode cX6_copyFrom 27 = .ok (.iload_n 2, 1) := by decide +kernel
theorem dX6_copyFrom_28 : decode cX6_copyFrom 28 = .ok (.aaload, 1) := by decide +kernel
theorem dX6_copyFrom_29 : decode cX6_copyFrom 29 = .ok (.ifnull 17, 3) := by decide +kernel
theorem dX6_copyFrom_32 : decode cX6_copyFrom 32 = .ok (.aload_n 3, 1) := by decide +kernel
theorem dX6_copyFrom_33 : decode cX6_copyFrom 33 = .ok (.ifnull 13, 3) := by decide +kernel
theorem dX6_copyFrom_36 : decode cX6_copyFrom 36 = .ok (.aload_n 0, 1) := by decide +kernel
theorem dX6_copyFrom_37 : decode cX6_copyFrom 37 = .ok (.getfield 13, 3) := by decide +kernel
theorem dX6_copyFrom_40 : decode cX6_copyFrom 40 = .ok (.iload_n 2, 1) := by decide +kernel
theorem dX6_copyFrom_41 : decode cX6_copyFrom 41 = .ok (.aaload, 1) := by decide +kernel
theorem dX6_copyFrom_42 : decode cX6_copyFrom 42 = .ok (.aload_n 3, 1) := by decide +kernel
theorem dX6_copyFrom_43 : decode cX6_copyFrom 43 = .ok (.invokevirtual 38, 3) := by decide +kernel
theorem dX6_copyFrom_46 : decode cX6_copyFrom 46 = .ok (.iinc 2 1, 3) := by decide +kernel
theorem dX6_copyFrom_49 : decode cX6_copyFrom 49 = .ok (.goto (-39), 3) := by decide +kernel
theorem dX6_copyFrom_52 : decode cX6_copyFrom 52 = .ok (.aload_n 1, 1) := by decide +kernel
theorem dX6_copyFrom_53 : decode cX6_copyFrom 53 = .ok (.getfield 17, 3) := by decide +kernel
theorem dX6_copyFrom_56 : decode cX6_copyFrom 56 = .ok (.iconst 0, 1) := by decide +kernel
theorem dX6_copyFrom_57 : decode cX6_copyFrom 57 = .ok (.aload_n 0, 1) := by decide +kernel
theorem dX6_copyFrom_58 : decode cX6_copyFrom 58 = .ok (.getfield 17, 3) := by decide +kernel
theorem dX6_copyFrom_61 : decode cX6_copyFrom 61 = .ok (.iconst 0, 1) := by decide +kernel
theorem dX6_copyFrom_62 : decode cX6_copyFrom 62 = .ok (.bipush 8, 2) := by decide +kernel
theorem dX6_copyFrom_64 : decode cX6_copyFrom 64 = .ok (.invokestatic 28, 3) := by decide +kernel
theorem dX6_copyFrom_67 : decode cX6_copyFrom 67 = .ok (.aload_n 0, 1) := by decide +kernel
theorem dX6_copyFrom_68 : decode cX6_copyFrom 68 = .ok (.aload_n 1, 1) := by decide +kernel
theorem dX6_copyFrom_69 : decode cX6_copyFrom 69 = .ok (.getfield 21, 3) := by decide +kernel
theorem dX6_copyFrom_72 : decode cX6_copyFrom 72 = .ok (.aload_n 1, 1) := by decide +kernel
theorem dX6_copyFrom_73 : decode cX6_copyFrom 73 = .ok (.getfield 42, 3) := by decide +kernel
theorem dX6_copyFrom_76 : decode cX6_copyFrom 76 = .ok (.invokevirtual 45, 3) := by decide +kernel
theorem dX6_copyFrom_79 : decode cX6_copyFrom 79 = .ok (.return_, 1) := by decide +kernel
set_option maxRecDepth 20000 in
theorem ggX6_addReel_X6_reelNumbered : GoodIn wsX6_addReel wsX6_reelNumbered := goodIn_r _ [7, 1, 8, 16, 17, 18, 19, 20] (by decide +kernel) (by decide +kernel)
set_option maxRecDepth 20000 in
theorem gX6_addReel_X6_reelNumbered : GoodIn wsX6_addReel (wsV RX6 50 RX6 yX6_reelNumbered wsX6_reelNumbered) := goodIn_app (goodIn_of _ (by decide +kernel)) ggX6_addReel_X6_reelNumbered
set_option maxRecDepth 20000 in
theorem ggX6_addReel_X3_renew : GoodIn wsX6_addReel wsX3_renew := goodIn_r _ [13, 14, 15, 21, 22, 23, 24] (by decide +kernel) (by decide +kernel)
set_option maxRecDepth 20000 in
theorem gX6_addReel_X3_renew : GoodIn wsX6_addReel (wsV RX6 54 RX3 yX3_renew wsX3_renew) := goodIn_app (goodIn_of _ (by decide +kernel)) ggX6_addReel_X3_renew
theorem dX6_addReel_0 : decode cX6_addReel 0 = .ok (.aload_n 0, 1) := by decide +kernel
theorem dX6_addReel_1 : decode cX6_addReel 1 = .ok (.getfield 34, 3) := by decide +kernel
theorem dX6_addReel_4 : decode cX6_addReel 4 = .ok (.bipush 10, 2) := by decide +kernel
theorem dX6_addReel_6 : decode cX6_addReel 6 = .ok (.if_icmp .lt 6, 3) := by decide +kernel
theorem dX6_addReel_9 : decode cX6_addReel 9 = .ok (.ldc 49, 2) := by decide +kernel
theorem dX6_addReel_11 : decode cX6_addReel 11 = .ok (.ireturn, 1) := by decide +kernel
theorem dX6_addReel_12 : decode cX6_addReel 12 = .ok (.aload_n 0, 1) := by decide +kernel
theorem dX6_addReel_13 : decode cX6_addReel 13 = .ok (.getfield 34, 3) := by decide +kernel
theorem dX6_addReel_16 : decode cX6_addReel 16 = .ok (.istore_n 2, 1) := by decide +kernel
theorem dX6_addReel_17 : decode cX6_addReel 17 = .ok (.aload_n 0, 1) := by decide +kernel
theorem dX6_addReel_18 : decode cX6_addReel 18 = .ok (.dup, 1) := by decide +kernel
theorem dX6_addReel_19 : decode cX6_addReel 19 = .ok (.getfield 34, 3) := by decide +kernel
theorem dX6_addReel_22 : decode cX6_addReel 22 = .ok (.iconst 1, 1) := by decide +kernel
theorem dX6_addReel_23 : decode cX6_addReel 23 = .ok (.iadd, 1) := by decide +kernel
theorem dX6_addReel_24 : decode cX6_addReel 24 = .ok (.putfield 34, 3) := by decide +kernel
theorem dX6_addReel_27 : decode cX6_addReel 27 = .ok (.aload_n 0, 1) := by decide +kernel
theorem dX6_addReel_28 : decode cX6_addReel 28 = .ok (.iload_n 2, 1) := by decide +kernel
theorem dX6_addReel_29 : decode cX6_addReel 29 = .ok (.invokevirtual 50, 3) := by decide +kernel
theorem dX6_addReel_32 : decode cX6_addReel 32 = .ok (.astore_n 3, 1) := by decide +kernel
theorem dX6_addReel_33 : decode cX6_addReel 33 = .ok (.aload_n 3, 1) := by decide +kernel
theorem dX6_addReel_34 : decode cX6_addReel 34 = .ok (.ifnull 8, 3) := by decide +kernel
theorem dX6_addReel_37 : decode cX6_addReel 37 = .ok (.aload_n 3, 1) := by decide +kernel
theorem dX6_addReel_38 : decode cX6_addReel 38 = .ok (.iload_n 1, 1) := by decide +kernel
theorem dX6_addReel_39 : decode cX6_addReel 39 = .ok (.invokevirtual 54, 3) := by decide +kernel
theorem dX6_addReel_42 : decode cX6_addReel 42 = .ok (.iload_n 2, 1) := by decide +kernel
theorem dX6_addReel_43 : decode cX6_addReel 43 = .ok (.ireturn, 1) := by decide +kernel
theorem dX6_reelNumbered_0 : decode cX6_reelNumbered 0 = .ok (.iload_n 1, 1) := by decide +kernel
theorem dX6_reelNumbered_1 : decode cX6_reelNumbered 1 = .ok (.ifCond .lt 26, 3) := by decide +kernel
theorem dX6_reelNumbered_4 : decode cX6_reelNumbered 4 = .ok (.iload_n 1, 1) := by decide +kernel
theorem dX6_reelNumbered_5 : decode cX6_reelNumbered 5 = .ok (.aload_n 0, 1) := by decide +kernel
theorem dX6_reelNumbered_6 : decode cX6_reelNumbered 6 = .ok (.getfield 34, 3) := by decide +kernel
theorem dX6_reelNumbered_9 : decode cX6_reelNumbered 9 = .ok (.if_icmp .ge 18, 3) := by decide +kernel
theorem dX6_reelNumbered_12 : decode cX6_reelNumbered 12 = .ok (.iload_n 1, 1) := by decide +kernel
theorem dX6_reelNumbered_13 : decode cX6_reelNumbered 13 = .ok (.bipush 10, 2) := by decide +kernel
theorem dX6_reelNumbered_15 : decode cX6_reelNumbered 15 = .ok (.if_icmp .ge 12, 3) := by decide +kernel
theorem dX6_reelNumbered_18 : decode cX6_reelNumbered 18 = .ok (.aload_n 0, 1) := by decide +kernel
theorem dX6_reelNumbered_19 : decode cX6_reelNumbered 19 = .ok (.getfield 13, 3) := by decide +kernel
theorem dX6_reelNumbered_22 : decode cX6_reelNumbered 22 = .ok (.iload_n 1, 1) := by decide +kernel
theorem dX6_reelNumbered_23 : decode cX6_reelNumbered 23 = .ok (.aaload, 1) := by decide +kernel
theorem dX6_reelNumbered_24 : decode cX6_reelNumbered 24 = .ok (.goto 4, 3) := by decide +kernel
theorem dX6_reelNumbered_27 : decode cX6_reelNumbered 27 = .ok (.aconst_null, 1) := by decide +kernel
theorem dX6_reelNumbered_28 : decode cX6_reelNumbered 28 = .ok (.areturn, 1) := by decide +kernel
theorem dX6_isSettingValue_0 : decode cX6_isSettingValue 0 = .ok (.iload_n 0, 1) := by decide +kernel
theorem dX6_isSettingValue_1 : decode cX6_isSettingValue 1 = .ok (.ifCond .lt 31, 3) := by decide +kernel
theorem dX6_isSettingValue_4 : decode cX6_isSettingValue 4 = .ok (.iload_n 0, 1) := by decide +kernel
theorem dX6_isSettingValue_5 : decode cX6_isSettingValue 5 = .ok (.bipush 8, 2) := by decide +kernel
theorem dX6_isSettingValue_7 : decode cX6_isSettingValue 7 = .ok (.if_icmp .ge 25, 3) := by decide +kernel
theorem dX6_isSettingValue_10 : decode cX6_isSettingValue 10 = .ok (.iload_n 1, 1) := by decide +kernel
theorem dX6_isSettingValue_11 : decode cX6_isSettingValue 11 = .ok (.getstatic 58, 3) := by decide +kernel
theorem dX6_isSettingValue_14 : decode cX6_isSettingValue 14 = .ok (.iload_n 0, 1) := by decide +kernel
theorem dX6_isSettingValue_15 : decode cX6_isSettingValue 15 = .ok (.iaload, 1) := by decide +kernel
theorem dX6_isSettingValue_16 : decode cX6_isSettingValue 16 = .ok (.if_icmp .lt 16, 3) := by decide +kernel
theorem dX6_isSettingValue_19 : decode cX6_isSettingValue 19 = .ok (.iload_n 1, 1) := by decide +kernel
theorem dX6_isSettingValue_20 : decode cX6_isSettingValue 20 = .ok (.getstatic 61, 3) := by decide +kernel
theorem dX6_isSettingValue_23 : decode cX6_isSettingValue 23 = .ok (.iload_n 0, 1) := by decide +kernel
theorem dX6_isSettingValue_24 : decode cX6_isSettingValue 24 = .ok (.iaload, 1) := by decide +kernel
theorem dX6_isSettingValue_25 : decode cX6_isSettingValue 25 = .ok (.if_icmp .gt 7, 3) := by decide +kernel
theorem dX6_isSettingValue_28 : decode cX6_isSettingValue 28 = .ok (.iconst 1, 1) := by decide +kernel
theorem dX6_isSettingValue_29 : decode cX6_isSettingValue 29 = .ok (.goto 4, 3) := by decide +kernel
theorem dX6_isSettingValue_32 : decode cX6_isSettingValue 32 = .ok (.iconst 0, 1) := by decide +kernel
theorem dX6_isSettingValue_33 : decode cX6_isSettingValue 33 = .ok (.ireturn, 1) := by decide +kernel
theorem dX6_settingNumbered_0 : decode cX6_settingNumbered 0 = .ok (.iload_n 1, 1) := by decide +kernel
theorem dX6_settingNumbered_1 : decode cX6_settingNumbered 1 = .ok (.ifCond .lt 18, 3) := by decide +kernel
theorem dX6_settingNumbered_4 : decode cX6_settingNumbered 4 = .ok (.iload_n 1, 1) := by decide +kernel
theorem dX6_settingNumbered_5 : decode cX6_settingNumbered 5 = .ok (.bipush 8, 2) := by decide +kernel
theorem dX6_settingNumbered_7 : decode cX6_settingNumbered 7 = .ok (.if_icmp .ge 12, 3) := by decide +kernel
theorem dX6_settingNumbered_10 : decode cX6_settingNumbered 10 = .ok (.aload_n 0, 1) := by decide +kernel
theorem dX6_settingNumbered_11 : decode cX6_settingNumbered 11 = .ok (.getfield 17, 3) := by decide +kernel
theorem dX6_settingNumbered_14 : decode cX6_settingNumbered 14 = .ok (.iload_n 1, 1) := by decide +kernel
theorem dX6_settingNumbered_15 : decode cX6_settingNumbered 15 = .ok (.iaload, 1) := by decide +kernel
theorem dX6_settingNumbered_16 : decode cX6_settingNumbered 16 = .ok (.goto 5, 3) := by decide +kernel
theorem dX6_settingNumbered_19 : decode cX6_settingNumbered 19 = .ok (.ldc 64, 2) := by decide +kernel
theorem dX6_settingNumbered_21 : decode cX6_settingNumbered 21 = .ok (.ireturn, 1) := by decide +kernel
set_option maxRecDepth 20000 in
theorem ggX6_changeSetting_X6_settingNumbered : GoodIn wsX6_changeSetting wsX6_settingNumbered := goodIn_r _ [6, 1, 7, 13, 14, 15, 16, 17] (by decide +kernel) (by decide +kernel)
set_option maxRecDepth 20000 in
theorem gX6_changeSetting_X6_settingNumbered : GoodIn wsX6_changeSetting (wsV RX6 65 RX6 yX6_settingNumbered wsX6_settingNumbered) := goodIn_app (goodIn_of _ (by decide +kernel)) ggX6_changeSetting_X6_settingNumbered
set_option maxRecDepth 20000 in
theorem ggX6_changeSetting_X6_isSettingValue : GoodIn wsX6_changeSetting wsX6_isSettingValue := goodIn_r _ [10, 11, 12] (by decide +kernel) (by decide +kernel)
set_option maxRecDepth 20000 in
theorem gX6_changeSetting_X6_isSettingValue : GoodIn wsX6_changeSetting (va_wsS RX6 69 yX6_isSettingValue wsX6_isSettingValue) := goodIn_app (goodIn_of _ (by decide +kernel)) ggX6_changeSetting_X6_isSettingValue
theorem dX6_changeSetting_0 : decode cX6_changeSetting 0 = .ok (.aload_n 0, 1) := by decide +kernel
theorem dX6_changeSetting_1 : decode cX6_changeSetting 1 = .ok (.iload_n 1, 1) := by decide +kernel
theorem dX6_changeSetting_2 : decode cX6_changeSetting 2 = .ok (.invokevirtual 65, 3) := by decide +kernel
theorem dX6_changeSetting_5 : decode cX6_changeSetting 5 = .ok (.istore_n 3, 1) := by decide +kernel
theorem dX6_changeSetting_6 : decode cX6_changeSetting 6 = .ok (.iload_n 1, 1) := by decide +kernel
theorem dX6_changeSetting_7 : decode cX6_changeSetting 7 = .ok (.iload_n 2, 1) := by decide +kernel
theorem dX6_changeSetting_8 : decode cX6_changeSetting 8 = .ok (.invokestatic 69, 3) := by decide +kernel
theorem dX6_changeSetting_11 : decode cX6_changeSetting 11 = .ok (.ifCond .eq 10, 3) := by decide +kernel
theorem dX6_changeSetting_14 : decode cX6_changeSetting 14 = .ok (.aload_n 0, 1) := by decide +kernel
theorem dX6_changeSetting_15 : decode cX6_changeSetting 15 = .ok (.getfield 17, 3) := by decide +kernel
theorem dX6_changeSetting_18 : decode cX6_changeSetting 18 = .ok (.iload_n 1, 1) := by decide +kernel
theorem dX6_changeSetting_19 : decode cX6_changeSetting 19 = .ok (.iload_n 2, 1) := by decide +kernel
theorem dX6_changeSetting_20 : decode cX6_changeSetting 20 = .ok (.iastore, 1) := by decide +kernel
theorem dX6_changeSetting_21 : decode cX6_changeSetting 21 = .ok (.iload_n 3, 1) := by decide +kernel
theorem dX6_changeSetting_22 : decode cX6_changeSetting 22 = .ok (.ireturn, 1) := by decide +kernel
theorem dX6_takeProgram_0 : decode cX6_takeProgram 0 = .ok (.aload_n 0, 1) := by decide +kernel
theorem dX6_takeProgram_1 : decode cX6_takeProgram 1 = .ok (.iload_n 2, 1) := by decide +kernel
theorem dX6_takeProgram_2 : decode cX6_takeProgram 2 = .ok (.bipush 12, 2) := by decide +kernel
theorem dX6_takeProgram_4 : decode cX6_takeProgram 4 = .ok (.invokestatic 73, 3) := by decide +kernel
theorem dX6_takeProgram_7 : decode cX6_takeProgram 7 = .ok (.putfield 42, 3) := by decide +kernel
theorem dX6_takeProgram_10 : decode cX6_takeProgram 10 = .ok (.iconst 0, 1) := by decide +kernel
theorem dX6_takeProgram_11 : decode cX6_takeProgram 11 = .ok (.istore_n 3, 1) := by decide +kernel
theorem dX6_takeProgram_12 : decode cX6_takeProgram 12 = .ok (.iload_n 3, 1) := by decide +kernel
theorem dX6_takeProgram_13 : decode cX6_takeProgram 13 = .ok (.aload_n 0, 1) := by decide +kernel
theorem dX6_takeProgram_14 : decode cX6_takeProgram 14 = .ok (.getfield 42, 3) := by decide +kernel
theorem dX6_takeProgram_17 : decode cX6_takeProgram 17 = .ok (.if_icmp .ge 24, 3) := by decide +kernel
theorem dX6_takeProgram_20 : decode cX6_takeProgram 20 = .ok (.iload_n 3, 1) := by decide +kernel
theorem dX6_takeProgram_21 : decode cX6_takeProgram 21 = .ok (.aload_n 1, 1) := by decide +kernel
theorem dX6_takeProgram_22 : decode cX6_takeProgram 22 = .ok (.arraylength, 1) := by decide +kernel
theorem dX6_takeProgram_23 : decode cX6_takeProgram 23 = .ok (.if_icmp .ge 18, 3) := by decide +kernel
theorem dX6_takeProgram_26 : decode cX6_takeProgram 26 = .ok (.aload_n 0, 1) := by decide +kernel
theorem dX6_takeProgram_27 : decode cX6_takeProgram 27 = .ok (.getfield 21, 3) := by decide +kernel
theorem dX6_takeProgram_30 : decode cX6_takeProgram 30 = .ok (.iload_n 3, 1) := by decide +kernel
theorem dX6_takeProgram_31 : decode cX6_takeProgram 31 = .ok (.aload_n 1, 1) := by decide +kernel
theorem dX6_takeProgram_32 : decode cX6_takeProgram 32 = .ok (.iload_n 3, 1) := by decide +kernel
theorem dX6_takeProgram_33 : decode cX6_takeProgram 33 = .ok (.iaload, 1) := by decide +kernel
theorem dX6_takeProgram_34 : decode cX6_takeProgram 34 = .ok (.iastore, 1) := by decide +kernel
theorem dX6_takeProgram_35 : decode cX6_takeProgram 35 = .ok (.iinc 3 1, 3) := by decide +kernel
theorem dX6_takeProgram_38 : decode cX6_takeProgram 38 = .ok (.goto (-26), 3) := by decide +kernel
theorem dX6_takeProgram_41 : decode cX6_takeProgram 41 = .ok (.return_, 1) := by decide +kernel
theorem dX6_numberAtPlace_0 : decode cX6_numberAtPlace 0 = .ok (.iload_n 1, 1) := by decide +kernel
theorem dX6_numberAtPlace_1 : decode cX6_numberAtPlace 1 = .ok (.ifCond .lt 26, 3) := by decide +kernel
theorem dX6_numberAtPlace_4 : decode cX6_numberAtPlace 4 = .ok (.iload_n 1, 1) := by decide +kernel
theorem dX6_numberAtPlace_5 : decode cX6_numberAtPlace 5 = .ok (.aload_n 0, 1) := by decide +kernel
theorem dX6_numberAtPlace_6 : decode cX6_numberAtPlace 6 = .ok (.getfield 42, 3) := by decide +kernel
theorem dX6_numberAtPlace_9 : decode cX6_numberAtPlace 9 = .ok (.if_icmp .ge 18, 3) := by decide +kernel
theorem dX6_numberAtPlace_12 : decode cX6_numberAtPlace 12 = .ok (.iload_n 1, 1) := by decide +kernel
theorem dX6_numberAtPlace_13 : decode cX6_numberAtPlace 13 = .ok (.bipush 12, 2) := by decide +kernel
theorem dX6_numberAtPlace_15 : decode cX6_numberAtPlace 15 = .ok (.if_icmp .ge 12, 3) := by decide +kernel
theorem dX6_numberAtPlace_18 : decode cX6_numberAtPlace 18 = .ok (.aload_n 0, 1) := by decide +kernel
theorem dX6_numberAtPlace_19 : decode cX6_numberAtPlace 19 = .ok (.getfield 21, 3) := by decide +kernel
theorem dX6_numberAtPlace_22 : decode cX6_numberAtPlace 22 = .ok (.iload_n 1, 1) := by decide +kernel
theorem dX6_numberAtPlace_23 : decode cX6_numberAtPlace 23 = .ok (.iaload, 1) := by decide +kernel
theorem dX6_numberAtPlace_24 : decode cX6_numberAtPlace 24 = .ok (.goto 5, 3) := by decide +kernel
theorem dX6_numberAtPlace_27 : decode cX6_numberAtPlace 27 = .ok (.ldc 64, 2) := by decide +kernel
theorem dX6_numberAtPlace_29 : decode cX6_numberAtPlace 29 = .ok (.ireturn, 1) := by decide +kernel
set_option maxRecDepth 20000 in
theorem ggX6_reelAtPlace_X6_numberAtPlace : GoodIn wsX6_reelAtPlace wsX6_numberAtPlace := goodIn_r _ [5, 6, 7, 8, 15, 16, 17, 18, 19] (by decide +kernel) (by decide +kernel)
set_option maxRecDepth 20000 in
theorem gX6_reelAtPlace_X6_numberAtPlace : GoodIn wsX6_reelAtPlace (wsV RX6 79 RX6 yX6_numberAtPlace wsX6_numberAtPlace) := goodIn_app (goodIn_of _ (by decide +kernel)) ggX6_reelAtPlace_X6_numberAtPlace
set_option maxRecDepth 20000 in
theorem ggX6_reelAtPlace_X6_reelNumbered : GoodIn wsX6_reelAtPlace wsX6_reelNumbered := goodIn_r _ [12, 13, 14, 15, 16, 17, 18, 19] (by decide +kernel) (by decide +kernel)
set_option maxRecDepth 20000 in
theorem gX6_reelAtPlace_X6_reelNumbered : GoodIn wsX6_reelAtPlace (wsV RX6 50 RX6 yX6_reelNumbered wsX6_reelNumbered) := goodIn_app (goodIn_of _ (by decide +kernel)) ggX6_reelAtPlace_X6_reelNumbered
theorem dX6_reelAtPlace_0 : decode cX6_reelAtPlace 0 = .ok (.aload_n 0, 1) := by decide +kernel
theorem dX6_reelAtPlace_1 : decode cX6_reelAtPlace 1 = .ok (.aload_n 0, 1) := by decide +kernel
theorem dX6_reelAtPlace_2 : decode cX6_reelAtPlace 2 = .ok (.iload_n 1, 1) := by decide +kernel
theorem dX6_reelAtPlace_3 : decode cX6_reelAtPlace 3 = .ok (.invokevirtual 79, 3) := by decide +kernel
theorem dX6_reelAtPlace_6 : decode cX6_reelAtPlace 6 = .ok (.invokevirtual 50, 3) := by decide +kernel
theorem dX6_reelAtPlace_9 : decode cX6_reelAtPlace 9 = .ok (.areturn, 1) := by decide +kernel
set_option maxRecDepth 20000 in
theorem ggX6_clearingTime_X6_reelAtPlace : GoodIn wsX6_clearingTime wsX6_reelAtPlace := goodIn_r _ [7, 8, 9, 10, 6, 11, 12, 13, 14, 15, 16, 17, 18, 19, 20, 21, 22, 23, 24, 25] (by decide +kernel) (by decide +kernel)
set_option maxRecDepth 20000 in
theorem gX6_clearingTime_X6_reelAtPlace : GoodIn wsX6_clearingTime (wsV RX6 82 RX6 yX6_reelAtPlace wsX6_reelAtPlace) := goodIn_app (goodIn_of _ (by decide +kernel)) ggX6_clearingTime_X6_reelAtPlace
theorem dX6_clearingTime_0 : decode cX6_clearingTime 0 = .ok (.aload_n 0, 1) := by decide +kernel
theorem dX6_clearingTime_1 : decode cX6_clearingTime 1 = .ok (.iload_n 1, 1) := by decide +kernel
theorem dX6_clearingTime_2 : decode cX6_clearingTime 2 = .ok (.invokevirtual 82, 3) := by decide +kernel
theorem dX6_clearingTime_5 : decode cX6_clearingTime 5 = .ok (.astore_n 2, 1) := by decide +kernel
theorem dX6_clearingTime_6 : decode cX6_clearingTime 6 = .ok (.aload_n 0, 1) := by decide +kernel
theorem dX6_clearingTime_7 : decode cX6_clearingTime 7 = .ok (.getfield 17, 3) := by decide +kernel
theorem dX6_clearingTime_10 : decode cX6_clearingTime 10 = .ok (.iconst 4, 1) := by decide +kernel
theorem dX6_clearingTime_11 : decode cX6_clearingTime 11 = .ok (.iaload, 1) := by decide +kernel
theorem dX6_clearingTime_12 : decode cX6_clearingTime 12 = .ok (.istore_n 3, 1) := by decide +kernel
theorem dX6_clearingTime_13 : decode cX6_clearingTime 13 = .ok (.aload_n 2, 1) := by decide +kernel
theorem dX6_clearingTime_14 : decode cX6_clearingTime 14 = .ok (.ifnull 8, 3) := by decide +kernel
theorem dX6_clearingTime_17 : decode cX6_clearingTime 17 = .ok (.iload_n 3, 1) := by decide +kernel
theorem dX6_clearingTime_18 : decode cX6_clearingTime 18 = .ok (.iconst 1, 1) := by decide +kernel
theorem dX6_clearingTime_19 : decode cX6_clearingTime 19 = .ok (.if_icmp .ge 10, 3) := by decide +kernel
theorem dX6_clearingTime_22 : decode cX6_clearingTime 22 = .ok (.aload_n 0, 1) := by decide +kernel
theorem dX6_clearingTime_23 : decode cX6_clearingTime 23 = .ok (.getfield 17, 3) := by decide +kernel
theorem dX6_clearingTime_26 : decode cX6_clearingTime 26 = .ok (.iconst 3, 1) := by decide +kernel
theorem dX6_clearingTime_27 : decode cX6_clearingTime 27 = .ok (.iaload, 1) := by decide +kernel
theorem dX6_clearingTime_28 : decode cX6_clearingTime 28 = .ok (.ireturn, 1) := by decide +kernel
theorem dX6_clearingTime_29 : decode cX6_clearingTime 29 = .ok (.aload_n 0, 1) := by decide +kernel
theorem dX6_clearingTime_30 : decode cX6_clearingTime 30 = .ok (.getfield 17, 3) := by decide +kernel
theorem dX6_clearingTime_33 : decode cX6_clearingTime 33 = .ok (.iconst 3, 1) := by decide +kernel
theorem dX6_clearingTime_34 : decode cX6_clearingTime 34 = .ok (.iaload, 1) := by decide +kernel
theorem dX6_clearingTime_35 : decode cX6_clearingTime 35 = .ok (.aload_n 2, 1) := by decide +kernel
theorem dX6_clearingTime_36 : decode cX6_clearingTime 36 = .ok (.getfield 85, 3) := by decide +kernel
theorem dX6_clearingTime_39 : decode cX6_clearingTime 39 = .ok (.iload_n 3, 1) := by decide +kernel
theorem dX6_clearingTime_40 : decode cX6_clearingTime 40 = .ok (.iadd, 1) := by decide +kernel
theorem dX6_clearingTime_41 : decode cX6_clearingTime 41 = .ok (.iconst 1, 1) := by decide +kernel
theorem dX6_clearingTime_42 : decode cX6_clearingTime 42 = .ok (.isub, 1) := by decide +kernel
theorem dX6_clearingTime_43 : decode cX6_clearingTime 43 = .ok (.iload_n 3, 1) := by decide +kernel
theorem dX6_clearingTime_44 : decode cX6_clearingTime 44 = .ok (.idiv, 1) := by decide +kernel
theorem dX6_clearingTime_45 : decode cX6_clearingTime 45 = .ok (.iadd, 1) := by decide +kernel
theorem dX6_clearingTime_46 : decode cX6_clearingTime 46 = .ok (.ireturn, 1) := by decide +kernel
