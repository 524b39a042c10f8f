theorem dX7_setWeight_21 : decode cX7_setWeight 21 = .ok (.ireturn, 1) := by decide +kernel
theorem dX7_setWeight_22 : decode cX7_setWeight 22 = .ok (.aload_n 0, 1) := by decide +kernel
theorem dX7_setWeight_23 : decode cX7_setWeight 23 = .ok (.invokevirtual 118, 3) := by decide +kernel
theorem dX7_setWeight_26 : decode cX7_setWeight 26 = .ok (.aload_n 0, 1) := by decide +kernel
theorem dX7_setWeight_27 : decode cX7_setWeight 27 = .ok (.getfield 19, 3) := by decide +kernel
theorem dX7_setWeight_30 : decode cX7_setWeight 30 = .ok (.iconst 0, 1) := by decide +kernel
theorem dX7_setWeight_31 : decode cX7_setWeight 31 = .ok (.iload_n 1, 1) := by decide +kernel
theorem dX7_setWeight_32 : decode cX7_setWeight 32 = .ok (.iadd, 1) := by decide +kernel
theorem dX7_setWeight_33 : decode cX7_setWeight 33 = .ok (.iaload, 1) := by decide +kernel
theorem dX7_setWeight_34 : decode cX7_setWeight 34 = .ok (.istore_n 3, 1) := by decide +kernel
theorem dX7_setWeight_35 : decode cX7_setWeight 35 = .ok (.aload_n 0, 1) := by decide +kernel
theorem dX7_setWeight_36 : decode cX7_setWeight 36 = .ok (.getfield 19, 3) := by decide +kernel
theorem dX7_setWeight_39 : decode cX7_setWeight 39 = .ok (.iconst 0, 1) := by decide +kernel
theorem dX7_setWeight_40 : decode cX7_setWeight 40 = .ok (.iload_n 1, 1) := by decide +kernel
theorem dX7_setWeight_41 : decode cX7_setWeight 41 = .ok (.iadd, 1) := by decide +kernel
theorem dX7_setWeight_42 : decode cX7_setWeight 42 = .ok (.iload_n 2, 1) := by decide +kernel
theorem dX7_setWeight_43 : decode cX7_setWeight 43 = .ok (.iastore, 1) := by decide +kernel
theorem dX7_setWeight_44 : decode cX7_setWeight 44 = .ok (.aload_n 0, 1) := by decide +kernel
theorem dX7_setWeight_45 : decode cX7_setWeight 45 = .ok (.invokevirtual 102, 3) := by decide +kernel
theorem dX7_setWeight_48 : decode cX7_setWeight 48 = .ok (.aload_n 0, 1) := by decide +kernel
theorem dX7_setWeight_49 : decode cX7_setWeight 49 = .ok (.invokevirtual 105, 3) := by decide +kernel
theorem dX7_setWeight_52 : decode cX7_setWeight 52 = .ok (.iload_n 3, 1) := by decide +kernel
theorem dX7_setWeight_53 : decode cX7_setWeight 53 = .ok (.ireturn, 1) := by decide +kernel
set_option maxRecDepth 20000 in
theorem ggX7_setCounterLimit_X7_in : GoodIn wsX7_setCounterLimit wsX7_in := goodIn_r _ [6] (by decide +kernel) (by decide +kernel)
set_option maxRecDepth 20000 in
theorem gX7_setCounterLimit_X7_in : GoodIn wsX7_setCounterLimit (va_wsS RX7 60 yX7_in wsX7_in) := goodIn_app (goodIn_of _ (by decide +kernel)) ggX7_setCounterLimit_X7_in
set_option maxRecDepth 20000 in
theorem ggX7_setCounterLimit_X7_save : GoodIn wsX7_setCounterLimit wsX7_save := goodIn_r _ [10, 11, 12, 2, 17, 18, 19, 20, 21, 22, 23, 24, 25, 26, 27, 28, 29, 30, 31, 32, 33, 34, 35] (by decide +kernel) (by decide +kernel)
set_option maxRecDepth 20000 in
theorem gX7_setCounterLimit_X7_save : GoodIn wsX7_setCounterLimit (wsV RX7 118 RX7 yX7_save wsX7_save) := goodIn_app (goodIn_of _ (by decide +kernel)) ggX7_setCounterLimit_X7_save
set_option maxRecDepth 20000 in
theorem ggX7_setCounterLimit_X7_resetCounts : GoodIn wsX7_setCounterLimit wsX7_resetCounts := goodIn_r _ [16, 2, 17, 18, 19, 20, 21, 22, 23, 24, 25, 26, 27, 28, 29, 30, 31, 32, 33, 34, 35] (by decide +kernel) (by decide +kernel)
set_option maxRecDepth 20000 in
theorem gX7_setCounterLimit_X7_resetCounts : GoodIn wsX7_setCounterLimit (wsV RX7 105 RX7 yX7_resetCounts wsX7_resetCounts) := goodIn_app (goodIn_of _ (by decide +kernel)) ggX7_setCounterLimit_X7_resetCounts
theorem dX7_setCounterLimit_0 : decode cX7_setCounterLimit 0 = .ok (.iload_n 1, 1) := by decide +kernel
theorem dX7_setCounterLimit_1 : decode cX7_setCounterLimit 1 = .ok (.iconst 1, 1) := by decide +kernel
theorem dX7_setCounterLimit_2 : decode cX7_setCounterLimit 2 = .ok (.ldc 98, 2) := by decide +kernel
theorem dX7_setCounterLimit_4 : decode cX7_setCounterLimit 4 = .ok (.invokestatic 60, 3) := by decide +kernel
theorem dX7_setCounterLimit_7 : decode cX7_setCounterLimit 7 = .ok (.ifCond .ne 6, 3) := by decide +kernel
theorem dX7_setCounterLimit_10 : decode cX7_setCounterLimit 10 = .ok (.bipush (-101), 2) := by decide +kernel
theorem dX7_setCounterLimit_12 : decode cX7_setCounterLimit 12 = .ok (.ireturn, 1) := by decide +kernel
theorem dX7_setCounterLimit_13 : decode cX7_setCounterLimit 13 = .ok (.aload_n 0, 1) := by decide +kernel
theorem dX7_setCounterLimit_14 : decode cX7_setCounterLimit 14 = .ok (.invokevirtual 118, 3) := by decide +kernel
theorem dX7_setCounterLimit_17 : decode cX7_setCounterLimit 17 = .ok (.aload_n 0, 1) := by decide +kernel
theorem dX7_setCounterLimit_18 : decode cX7_setCounterLimit 18 = .ok (.getfield 19, 3) := by decide +kernel
theorem dX7_setCounterLimit_21 : decode cX7_setCounterLimit 21 = .ok (.bipush 80, 2) := by decide +kernel
theorem dX7_setCounterLimit_23 : decode cX7_setCounterLimit 23 = .ok (.iaload, 1) := by decide +kernel
theorem dX7_setCounterLimit_24 : decode cX7_setCounterLimit 24 = .ok (.istore_n 2, 1) := by decide +kernel
theorem dX7_setCounterLimit_25 : decode cX7_setCounterLimit 25 = .ok (.aload_n 0, 1) := by decide +kernel
theorem dX7_setCounterLimit_26 : decode cX7_setCounterLimit 26 = .ok (.getfield 19, 3) := by decide +kernel
theorem dX7_setCounterLimit_29 : decode cX7_setCounterLimit 29 = .ok (.bipush 80, 2) := by decide +kernel
theorem dX7_setCounterLimit_31 : decode cX7_setCounterLimit 31 = .ok (.iload_n 1, 1) := by decide +kernel
theorem dX7_setCounterLimit_32 : decode cX7_setCounterLimit 32 = .ok (.iastore, 1) := by decide +kernel
theorem dX7_setCounterLimit_33 : decode cX7_setCounterLimit 33 = .ok (.aload_n 0, 1) := by decide +kernel
theorem dX7_setCounterLimit_34 : decode cX7_setCounterLimit 34 = .ok (.invokevirtual 105, 3) := by decide +kernel
theorem dX7_setCounterLimit_37 : decode cX7_setCounterLimit 37 = .ok (.iload_n 2, 1) := by decide +kernel
theorem dX7_setCounterLimit_38 : decode cX7_setCounterLimit 38 = .ok (.ireturn, 1) := by decide +kernel
set_option maxRecDepth 20000 in
theorem ggX7_pass_X7_isTree : GoodIn wsX7_pass wsX7_isTree := goodIn_r _ [8, 1, 9, 10, 11, 12, 13, 14, 15, 16, 17, 18, 19, 20, 21, 22, 23, 24, 25, 26, 27] (by decide +kernel) (by decide +kernel)
set_option maxRecDepth 20000 in
theorem gX7_pass_X7_isTree : GoodIn wsX7_pass (wsV RX7 121 RX7 yX7_isTree wsX7_isTree) := goodIn_app (goodIn_of _ (by decide +kernel)) ggX7_pass_X7_isTree
theorem dX7_pass_0 : decode cX7_pass 0 = .ok (.aload_n 0, 1) := by decide +kernel
theorem dX7_pass_1 : decode cX7_pass 1 = .ok (.getfield 19, 3) := by decide +kernel
theorem dX7_pass_4 : decode cX7_pass 4 = .ok (.bipush 60, 2) := by decide +kernel
theorem dX7_pass_6 : decode cX7_pass 6 = .ok (.iload_n 1, 1) := by decide +kernel
theorem dX7_pass_7 : decode cX7_pass 7 = .ok (.iadd, 1) := by decide +kernel
theorem dX7_pass_8 : decode cX7_pass 8 = .ok (.dup2, 1) := by decide +kernel
theorem dX7_pass_9 : decode cX7_pass 9 = .ok (.iaload, 1) := by decide +kernel
theorem dX7_pass_10 : decode cX7_pass 10 = .ok (.iconst 1, 1) := by decide +kernel
theorem dX7_pass_11 : decode cX7_pass 11 = .ok (.iadd, 1) := by decide +kernel
theorem dX7_pass_12 : decode cX7_pass 12 = .ok (.iastore, 1) := by decide +kernel
theorem dX7_pass_13 : decode cX7_pass 13 = .ok (.aload_n 0, 1) := by decide +kernel
theorem dX7_pass_14 : decode cX7_pass 14 = .ok (.iload_n 1, 1) := by decide +kernel
theorem dX7_pass_15 : decode cX7_pass 15 = .ok (.invokevirtual 121, 3) := by decide +kernel
theorem dX7_pass_18 : decode cX7_pass 18 = .ok (.ifCond .ne 35, 3) := by decide +kernel
theorem dX7_pass_21 : decode cX7_pass 21 = .ok (.aload_n 0, 1) := by decide +kernel
theorem dX7_pass_22 : decode cX7_pass 22 = .ok (.getfield 19, 3) := by decide +kernel
theorem dX7_pass_25 : decode cX7_pass 25 = .ok (.bipush 40, 2) := by decide +kernel
theorem dX7_pass_27 : decode cX7_pass 27 = .ok (.iload_n 1, 1) := by decide +kernel
theorem dX7_pass_28 : decode cX7_pass 28 = .ok (.iadd, 1) := by decide +kernel
theorem dX7_pass_29 : decode cX7_pass 29 = .ok (.iaload, 1) := by decide +kernel
theorem dX7_pass_30 : decode cX7_pass 30 = .ok (.aload_n 0, 1) := by decide +kernel
theorem dX7_pass_31 : decode cX7_pass 31 = .ok (.getfield 19, 3) := by decide +kernel
theorem dX7_pass_34 : decode cX7_pass 34 = .ok (.bipush 80, 2) := by decide +kernel
theorem dX7_pass_36 : decode cX7_pass 36 = .ok (.iaload, 1) := by decide +kernel
theorem dX7_pass_37 : decode cX7_pass 37 = .ok (.if_icmp .ge 16, 3) := by decide +kernel
theorem dX7_pass_40 : decode cX7_pass 40 = .ok (.aload_n 0, 1) := by decide +kernel
theorem dX7_pass_41 : decode cX7_pass 41 = .ok (.getfield 19, 3) := by decide +kernel
theorem dX7_pass_44 : decode cX7_pass 44 = .ok (.bipush 40, 2) := by decide +kernel
theorem dX7_pass_46 : decode cX7_pass 46 = .ok (.iload_n 1, 1) := by decide +kernel
theorem dX7_pass_47 : decode cX7_pass 47 = .ok (.iadd, 1) := by decide +kernel
theorem dX7_pass_48 : decode cX7_pass 48 = .ok (.dup2, 1) := by decide +kernel
theorem dX7_pass_49 : decode cX7_pass 49 = .ok (.iaload, 1) := by decide +kernel
theorem dX7_pass_50 : decode cX7_pass 50 = .ok (.iconst 1, 1) := by decide +kernel
theorem dX7_pass_51 : decode cX7_pass 51 = .ok (.iadd, 1) := by decide +kernel
theorem dX7_pass_52 : decode cX7_pass 52 = .ok (.iastore, 1) := by decide +kernel
theorem dX7_pass_53 : decode cX7_pass 53 = .ok (.aload_n 0, 1) := by decide +kernel
theorem dX7_pass_54 : decode cX7_pass 54 = .ok (.getfield 16, 3) := by decide +kernel
theorem dX7_pass_57 : decode cX7_pass 57 = .ok (.iload_n 1, 1) := by decide +kernel
theorem dX7_pass_58 : decode cX7_pass 58 = .ok (.iaload, 1) := by decide +kernel
theorem dX7_pass_59 : decode cX7_pass 59 = .ok (.aload_n 0, 1) := by decide +kernel
theorem dX7_pass_60 : decode cX7_pass 60 = .ok (.getfield 92, 3) := by decide +kernel
theorem dX7_pass_63 : decode cX7_pass 63 = .ok (.iconst 1, 1) := by decide +kernel
theorem dX7_pass_64 : decode cX7_pass 64 = .ok (.isub, 1) := by decide +kernel
theorem dX7_pass_65 : decode cX7_pass 65 = .ok (.if_icmp .ne 7, 3) := by decide +kernel
theorem dX7_pass_68 : decode cX7_pass 68 = .ok (.iconst 1, 1) := by decide +kernel
theorem dX7_pass_69 : decode cX7_pass 69 = .ok (.goto 4, 3) := by decide +kernel
theorem dX7_pass_72 : decode cX7_pass 72 = .ok (.iconst 0, 1) := by decide +kernel
theorem dX7_pass_73 : decode cX7_pass 73 = .ok (.istore_n 2, 1) := by decide +kernel
theorem dX7_pass_74 : decode cX7_pass 74 = .ok (.aload_n 0, 1) := by decide +kernel
theorem dX7_pass_75 : decode cX7_pass 75 = .ok (.getfield 19, 3) := by decide +kernel
theorem dX7_pass_78 : decode cX7_pass 78 = .ok (.bipush 81, 2) := by decide +kernel
theorem dX7_pass_80 : decode cX7_pass 80 = .ok (.dup2, 1) := by decide +kernel
theorem dX7_pass_81 : decode cX7_pass 81 = .ok (.iaload, 1) := by decide +kernel
theorem dX7_pass_82 : decode cX7_pass 82 = .ok (.iload_n 2, 1) := by decide +kernel
theorem dX7_pass_83 : decode cX7_pass 83 = .ok (.ifCond .eq 7, 3) := by decide +kernel
theorem dX7_pass_86 : decode cX7_pass 86 = .ok (.iconst 1, 1) := by decide +kernel
theorem dX7_pass_87 : decode cX7_pass 87 = .ok (.goto 4, 3) := by decide +kernel
theorem dX7_pass_90 : decode cX7_pass 90 = .ok (.iconst 0, 1) := by decide +kernel
theorem dX7_pass_91 : decode cX7_pass 91 = .ok (.iadd, 1) := by decide +kernel
theorem dX7_pass_92 : decode cX7_pass 92 = .ok (.iastore, 1) := by decide +kernel
theorem dX7_pass_93 : decode cX7_pass 93 = .ok (.aload_n 0, 1) := by decide +kernel
theorem dX7_pass_94 : decode cX7_pass 94 = .ok (.getfield 19, 3) := by decide +kernel
theorem dX7_pass_97 : decode cX7_pass 97 = .ok (.bipush 82, 2) := by decide +kernel
theorem dX7_pass_99 : decode cX7_pass 99 = .ok (.iload_n 2, 1) := by decide +kernel
theorem dX7_pass_100 : decode cX7_pass 100 = .ok (.ifCond .eq 7, 3) := by decide +kernel
theorem dX7_pass_103 : decode cX7_pass 103 = .ok (.iconst 0, 1) := by decide +kernel
theorem dX7_pass_104 : decode cX7_pass 104 = .ok (.goto 9, 3) := by decide +kernel
theorem dX7_pass_107 : decode cX7_pass 107 = .ok (.aload_n 0, 1) := by decide +kernel
theorem dX7_pass_108 : decode cX7_pass 108 = .ok (.getfield 16, 3) := by decide +kernel
theorem dX7_pass_111 : decode cX7_pass 111 = .ok (.iload_n 1, 1) := by decide +kernel
theorem dX7_pass_112 : decode cX7_pass 112 = .ok (.iaload, 1) := by decide +kernel
theorem dX7_pass_113 : decode cX7_pass 113 = .ok (.iastore, 1) := by decide +kernel
theorem dX7_pass_114 : decode cX7_pass 114 = .ok (.return_, 1) := by decide +kernel
set_option maxRecDepth 20000 in
theorem ggX7_follow_X7_isEdge : GoodIn wsX7_follow wsX7_isEdge := goodIn_r _ [7, 8, 9, 10, 6, 11, 28, 29, 30, 31, 32, 33, 34, 35, 36, 37, 38, 39, 40, 41, 42, 43, 44, 45, 46] (by decide +kernel) (by decide +kernel)
set_option maxRecDepth 20000 in
theorem gX7_follow_X7_isEdge : GoodIn wsX7_follow (wsV RX7 115 RX7 yX7_isEdge wsX7_isEdge) := goodIn_app (goodIn_of _ (by decide +kernel)) ggX7_follow_X7_isEdge
set_option maxRecDepth 20000 in
theorem ggX7_follow_X7_save : GoodIn wsX7_follow wsX7_save := goodIn_r _ [15, 16, 17, 2, 28, 29, 30, 31, 32, 33, 34, 35, 36, 37, 38, 39, 40, 41, 42, 43, 44, 45, 46] (by decide +kernel) (by decide +kernel)
set_option maxRecDepth 20000 in
theorem gX7_follow_X7_save : GoodIn wsX7_follow (wsV RX7 118 RX7 yX7_save wsX7_save) := goodIn_app (goodIn_of _ (by decide +kernel)) ggX7_follow_X7_save
set_option maxRecDepth 20000 in
theorem ggX7_follow_X7_pass : GoodIn wsX7_follow wsX7_pass := goodIn_r _ [21, 2, 22, 23, 24, 25, 26, 6, 27, 28, 29, 30, 31, 32, 33, 34, 35, 36, 37, 38, 39, 40, 41, 42, 43, 44, 45, 46] (by decide +kernel) (by decide +kernel)
set_option maxRecDepth 20000 in
theorem gX7_follow_X7_pass : GoodIn wsX7_follow (wsV RX7 124 RX7 yX7_pass wsX7_pass) := goodIn_app (goodIn_of _ (by decide +kernel)) ggX7_follow_X7_pass
theorem dX7_follow_0 : decode cX7_follow 0 = .ok (.aload_n 0, 1) := by decide +kernel
theorem dX7_follow_1 : decode cX7_follow 1 = .ok (.iload_n 1, 1) := by decide +kernel
theorem dX7_follow_2 : decode cX7_follow 2 = .ok (.invokevirtual 115, 3) := by decide +kernel
theorem dX7_follow_5 : decode cX7_follow 5 = .ok (.ifCond .ne 6, 3) := by decide +kernel
theorem dX7_follow_8 : decode cX7_follow 8 = .ok (.bipush (-101), 2) := by decide +kernel
theorem dX7_follow_10 : decode cX7_follow 10 = .ok (.ireturn, 1) := by decide +kernel
theorem dX7_follow_11 : decode cX7_follow 11 = .ok (.aload_n 0, 1) := by decide +kernel
theorem dX7_follow_12 : decode cX7_follow 12 = .ok (.getfield 13, 3) := by decide +kernel
theorem dX7_follow_15 : decode cX7_follow 15 = .ok (.iload_n 1, 1) := by decide +kernel
theorem dX7_follow_16 : decode cX7_follow 16 = .ok (.iaload, 1) := by decide +kernel
theorem dX7_follow_17 : decode cX7_follow 17 = .ok (.aload_n 0, 1) := by decide +kernel
theorem dX7_follow_18 : decode cX7_follow 18 = .ok (.getfield 19, 3) := by decide +kernel
theorem dX7_follow_21 : decode cX7_follow 21 = .ok (.bipush 82, 2) := by decide +kernel
theorem dX7_follow_23 : decode cX7_follow 23 = .ok (.iaload, 1) := by decide +kernel
theorem dX7_follow_24 : decode cX7_follow 24 = .ok (.if_icmp .eq 6, 3) := by decide +kernel
theorem dX7_follow_27 : decode cX7_follow 27 = .ok (.bipush (-102), 2) := by decide +kernel
theorem dX7_follow_29 : decode cX7_follow 29 = .ok (.ireturn, 1) := by decide +kernel
theorem dX7_follow_30 : decode cX7_follow 30 = .ok (.aload_n 0, 1) := by decide +kernel
theorem dX7_follow_31 : decode cX7_follow 31 = .ok (.invokevirtual 118, 3) := by decide +kernel
theorem dX7_follow_34 : decode cX7_follow 34 = .ok (.aload_n 0, 1) := by decide +kernel
theorem dX7_follow_35 : decode cX7_follow 35 = .ok (.iload_n 1, 1) := by decide +kernel
theorem dX7_follow_36 : decode cX7_follow 36 = .ok (.invokevirtual 124, 3) := by decide +kernel
theorem dX7_follow_39 : decode cX7_follow 39 = .ok (.aload_n 0, 1) := by decide +kernel
theorem dX7_follow_40 : decode cX7_follow 40 = .ok (.getfield 19, 3) := by decide +kernel
theorem dX7_follow_43 : decode cX7_follow 43 = .ok (.bipush 82, 2) := by decide +kernel
theorem dX7_follow_45 : decode cX7_follow 45 = .ok (.iaload, 1) := by decide +kernel
theorem dX7_follow_46 : decode cX7_follow 46 = .ok (.ireturn, 1) := by decide +kernel
theorem dX7_leavingEdge_0 : decode cX7_leavingEdge 0 = .ok (.iload_n 1, 1) := by decide +kernel
theorem dX7_leavingEdge_1 : decode cX7_leavingEdge 1 = .ok (.istore_n 2, 1) := by decide +kernel
theorem dX7_leavingEdge_2 : decode cX7_leavingEdge 2 = .ok (.iconst 0, 1) := by decide +kernel
theorem dX7_leavingEdge_3 : decode cX7_leavingEdge 3 = .ok (.istore_n 3, 1) := by decide +kernel
theorem dX7_leavingEdge_4 : decode cX7_leavingEdge 4 = .ok (.iload_n 3, 1) := by decide +kernel
theorem dX7_leavingEdge_5 : decode cX7_leavingEdge 5 = .ok (.aload_n 0, 1) := by decide +kernel
theorem dX7_leavingEdge_6 : decode cX7_leavingEdge 6 = .ok (.getfield 95, 3) := by decide +kernel
theorem dX7_leavingEdge_9 : decode cX7_leavingEdge 9 = .ok (.if_icmp .ge 34, 3) := by decide +kernel
theorem dX7_leavingEdge_12 : decode cX7_leavingEdge 12 = .ok (.aload_n 0, 1) := by decide +kernel
theorem dX7_leavingEdge_13 : decode cX7_leavingEdge 13 = .ok (.getfield 13, 3) := by decide +kernel
theorem dX7_leavingEdge_16 : decode cX7_leavingEdge 16 = .ok (.iload_n 3, 1) := by decide +kernel
theorem dX7_leavingEdge_17 : decode cX7_leavingEdge 17 = .ok (.iaload, 1) := by decide +kernel
theorem dX7_leavingEdge_18 : decode cX7_leavingEdge 18 = .ok (.aload_n 0, 1) := by decide +kernel
theorem dX7_leavingEdge_19 : decode cX7_leavingEdge 19 = .ok (.getfield 19, 3) := by decide +kernel
theorem dX7_leavingEdge_22 : decode cX7_leavingEdge 22 = .ok (.bipush 82, 2) := by decide +kernel
theorem dX7_leavingEdge_24 : decode cX7_leavingEdge 24 = .ok (.iaload, 1) := by decide +kernel
theorem dX7_leavingEdge_25 : decode cX7_leavingEdge 25 = .ok (.if_icmp .ne 12, 3) := by decide +kernel
theorem dX7_leavingEdge_28 : decode cX7_leavingEdge 28 = .ok (.iload_n 2, 1) := by decide +kernel
theorem dX7_leavingEdge_29 : decode cX7_leavingEdge 29 = .ok (.ifCond .ne 5, 3) := by decide +kernel
theorem dX7_leavingEdge_32 : decode cX7_leavingEdge 32 = .ok (.iload_n 3, 1) := by decide +kernel
theorem dX7_leavingEdge_33 : decode cX7_leavingEdge 33 = .ok (.ireturn, 1) := by decide +kernel
theorem dX7_leavingEdge_34 : decode cX7_leavingEdge 34 = .ok (.iinc 2 (-1), 3) := by decide +kernel
theorem dX7_leavingEdge_37 : decode cX7_leavingEdge 37 = .ok (.iinc 3 1, 3) := by decide +kernel
theorem dX7_leavingEdge_40 : decode cX7_leavingEdge 40 = .ok (.goto (-36), 3) := by decide +kernel
theorem dX7_leavingEdge_43 : decode cX7_leavingEdge 43 = .ok (.bipush (-104), 2) := by decide +kernel
theorem dX7_leavingEdge_45 : decode cX7_leavingEdge 45 = .ok (.ireturn, 1) := by decide +kernel
theorem dX7_leavingCount_0 : decode cX7_leavingCount 0 = .ok (.iconst 0, 1) := by decide +kernel
theorem dX7_leavingCount_1 : decode cX7_leavingCount 1 = .ok (.istore_n 1, 1) := by decide +kernel
theorem dX7_leavingCount_2 : decode cX7_leavingCount 2 = .ok (.iconst 0, 1) := by decide +kernel
theorem dX7_leavingCount_3 : decode cX7_leavingCount 3 = .ok (.istore_n 2, 1) := by decide +kernel
theorem dX7_leavingCount_4 : decode cX7_leavingCount 4 = .ok (.iload_n 2, 1) := by decide +kernel
theorem dX7_leavingCount_5 : decode cX7_leavingCount 5 = .ok (.aload_n 0, 1) := by decide +kernel
theorem dX7_leavingCount_6 : decode cX7_leavingCount 6 = .ok (.getfield 95, 3) := by decide +kernel
theorem dX7_leavingCount_9 : decode cX7_leavingCount 9 = .ok (.if_icmp .ge 33, 3) := by decide +kernel
theorem dX7_leavingCount_12 : decode cX7_leavingCount 12 = .ok (.iload_n 1, 1) := by decide +kernel
theorem dX7_leavingCount_13 : decode cX7_leavingCount 13 = .ok (.aload_n 0, 1) := by decide +kernel
theorem dX7_leavingCount_14 : decode cX7_leavingCount 14 = .ok (.getfield 13, 3) := by decide +kernel
theorem dX7_leavingCount_17 : decode cX7_leavingCount 17 = .ok (.iload_n 2, 1) := by decide +kernel
theorem dX7_leavingCount_18 : decode cX7_leavingCount 18 = .ok (.iaload, 1) := by decide +kernel
theorem dX7_leavingCount_19 : decode cX7_leavingCount 19 = .ok (.aload_n 0, 1) := by decide +kernel
theorem dX7_leavingCount_20 : decode cX7_leavingCount 20 = .ok (.getfield 19, 3) := by decide +kernel
theorem dX7_leavingCount_23 : decode cX7_leavingCount 23 = .ok (.bipush 82, 2) := by decide +kernel
theorem dX7_leavingCount_25 : decode cX7_leavingCount 25 = .ok (.iaload, 1) := by decide +kernel
theorem dX7_leavingCount_26 : decode cX7_leavingCount 26 = .ok (.if_icmp .ne 7, 3) := by decide +kernel
theorem dX7_leavingCount_29 : decode cX7_leavingCount 29 = .ok (.iconst 1, 1) := by decide +kernel
theorem dX7_leavingCount_30 : decode cX7_leavingCount 30 = .ok (.goto 4, 3) := by decide +kernel
theorem dX7_leavingCount_33 : decode cX7_leavingCount 33 = .ok (.iconst 0, 1) := by decide +kernel
theorem dX7_leavingCount_34 : decode cX7_leavingCount 34 = .ok (.iadd, 1) := by decide +kernel
theorem dX7_leavingCount_35 : decode cX7_leavingCount 35 = .ok (.istore_n 1, 1) := by decide +kernel
theorem dX7_leavingCount_36 : decode cX7_leavingCount 36 = .ok (.iinc 2 1, 3) := by decide +kernel
theorem dX7_leavingCount_39 : decode cX7_leavingCount 39 = .ok (.goto (-35), 3) := by decide +kernel
theorem dX7_leavingCount_42 : decode cX7_leavingCount 42 = .ok (.iload_n 1, 1) := by decide +kernel
theorem dX7_leavingCount_43 : decode cX7_leavingCount 43 = .ok (.ireturn, 1) := by decide +kernel
set_option maxRecDepth 20000 in
theorem ggX7_drive_X7_in : GoodIn wsX7_drive wsX7_in := goodIn_r _ [8] (by decide +kernel) (by decide +kernel)
set_option maxRecDepth 20000 in
theorem gX7_drive_X7_in : GoodIn wsX7_drive (va_wsS RX7 60 yX7_in wsX7_in) := goodIn_app (goodIn_of _ (by decide +kernel)) ggX7_drive_X7_in
set_option maxRecDepth 20000 in
theorem ggX7_drive_X7_save : GoodIn wsX7_drive wsX7_save := goodIn_r _ [12, 13, 14, 1, 35, 36, 37, 38, 39, 40, 41, 42, 43, 44, 45, 46, 47, 48, 49, 50, 51, 52, 53] (by decide +kernel) (by decide +kernel)
set_option maxRecDepth 20000 in
theorem gX7_drive_X7_save : GoodIn wsX7_drive (wsV RX7 118 RX7 yX7_save wsX7_save) := goodIn_app (goodIn_of _ (by decide +kernel)) ggX7_drive_X7_save
set_option maxRecDepth 20000 in
theorem ggX7_drive_X7_leavingCount : GoodIn wsX7_drive wsX7_leavingCount := goodIn_r _ [18, 19, 20, 1, 35, 36, 37, 38, 39, 40, 41, 42, 43, 44, 45, 46, 47, 48, 49, 50, 51, 52, 53] (by decide +kernel) (by decide +kernel)
set_option maxRecDepth 20000 in
theorem gX7_drive_X7_leavingCount : GoodIn wsX7_drive (wsV RX7 134 RX7 yX7_leavingCount wsX7_leavingCount) := goodIn_app (goodIn_of _ (by decide +kernel)) ggX7_drive_X7_leavingCount
set_option maxRecDepth 20000 in
theorem ggX7_drive_X7_leavingEdge : GoodIn wsX7_drive wsX7_leavingEdge := goodIn_r _ [24, 19, 20, 1, 35, 36, 37, 38, 39, 40, 41, 42, 43, 44, 45, 46, 47, 48, 49, 50, 51, 52, 53] (by decide +kernel) (by decide +kernel)
set_option maxRecDepth 20000 in
theorem gX7_drive_X7_leavingEdge : GoodIn wsX7_drive (wsV RX7 137 RX7 yX7_leavingEdge wsX7_leavingEdge) := goodIn_app (goodIn_of _ (by decide +kernel)) ggX7_drive_X7_leavingEdge
set_option maxRecDepth 20000 in
theorem ggX7_drive_X7_pass : GoodIn wsX7_drive wsX7_pass := goodIn_r _ [28, 1, 29, 30, 31, 32, 33, 7, 34, 35, 36, 37, 38, 39, 40, 41, 42, 43, 44, 45, 46, 47, 48, 49, 50, 51, 52, 53] (by decide +kernel) (by decide +kernel)
set_option maxRecDepth 20000 in
theorem gX7_drive_X7_pass : GoodIn wsX7_drive (wsV RX7 124 RX7 yX7_pass wsX7_pass) := goodIn_app (goodIn_of _ (by decide +kernel)) ggX7_drive_X7_pass
theorem dX7_drive_0 : decode cX7_drive 0 = .ok (.iload_n 1, 1) := by decide +kernel
theorem dX7_drive_1 : decode cX7_drive 1 = .ok (.iconst 0, 1) := by decide +kernel
theorem dX7_drive_2 : decode cX7_drive 2 = .ok (.sipush 9999, 3) := by decide +kernel
theorem dX7_drive_5 : decode cX7_drive 5 = .ok (.invokestatic 60, 3) := by decide +kernel
theorem dX7_drive_8 : decode cX7_drive 8 = .ok (.ifCond .eq 14, 3) := by decide +kernel
theorem dX7_drive_11 : decode cX7_drive 11 = .ok (.iload_n 2, 1) := by decide +kernel
theorem dX7_drive_12 : decode cX7_drive 12 = .ok (.iconst 1, 1) := by decide +kernel
theorem dX7_drive_13 : decode cX7_drive 13 = .ok (.sipush 500, 3) := by decide +kernel
theorem dX7_drive_16 : decode cX7_drive 16 = .ok (.invokestatic 60, 3) := by decide +kernel
theorem dX7_drive_19 : decode cX7_drive 19 = .ok (.ifCond .ne 6, 3) := by decide +kernel
theorem dX7_drive_22 : decode cX7_drive 22 = .ok (.bipush (-101), 2) := by decide +kernel
theorem dX7_drive_24 : decode cX7_drive 24 = .ok (.ireturn, 1) := by decide +kernel
theorem dX7_drive_25 : decode cX7_drive 25 = .ok (.aload_n 0, 1) := by decide +kernel
theorem dX7_drive_26 : decode cX7_drive 26 = .ok (.invokevirtual 118, 3) := by decide +kernel
theorem dX7_drive_29 : decode cX7_drive 29 = .ok (.aload_n 0, 1) := by decide +kernel
theorem dX7_drive_30 : decode cX7_drive 30 = .ok (.getfield 19, 3) := by decide +kernel
theorem dX7_drive_33 : decode cX7_drive 33 = .ok (.bipush 81, 2) := by decide +kernel
theorem dX7_drive_35 : decode cX7_drive 35 = .ok (.iaload, 1) := by decide +kernel
theorem dX7_drive_36 : decode cX7_drive 36 = .ok (.istore_n 3, 1) := by decide +kernel
theorem dX7_drive_37 : decode cX7_drive 37 = .ok (.iconst 0, 1) := by decide +kernel
theorem dX7_drive_38 : decode cX7_drive 38 = .ok (.istore 4, 2) := by decide +kernel
theorem dX7_drive_40 : decode cX7_drive 40 = .ok (.iload 4, 2) := by decide +kernel
theorem dX7_drive_42 : decode cX7_drive 42 = .ok (.iload_n 2, 1) := by decide +kernel
theorem dX7_drive_43 : decode cX7_drive 43 = .ok (.if_icmp .ge 55, 3) := by decide +kernel
theorem dX7_drive_46 : decode cX7_drive 46 = .ok (.ldc2_w 128, 3) := by decide +kernel
theorem dX7_drive_49 : decode cX7_drive 49 = .ok (.iload_n 1, 1) := by decide +kernel
theorem dX7_drive_50 : decode cX7_drive 50 = .ok (.i2l, 1) := by decide +kernel
theorem dX7_drive_51 : decode cX7_drive 51 = .ok (.lmul, 1) := by decide +kernel
theorem dX7_drive_52 : decode cX7_drive 52 = .ok (.ldc2_w 130, 3) := by decide +kernel
theorem dX7_drive_55 : decode cX7_drive 55 = .ok (.iload 4, 2) := by decide +kernel
theorem dX7_drive_57 : decode cX7_drive 57 = .ok (.i2l, 1) := by decide +kernel
theorem dX7_drive_58 : decode cX7_drive 58 = .ok (.lmul, 1) := by decide +kernel
theorem dX7_drive_59 : decode cX7_drive 59 = .ok (.ladd, 1) := by decide +kernel
theorem dX7_drive_60 : decode cX7_drive 60 = .ok (.lconst 1, 1) := by decide +kernel
theorem dX7_drive_61 : decode cX7_drive 61 = .ok (.ladd, 1) := by decide +kernel
theorem dX7_drive_62 : decode cX7_drive 62 = .ok (.lstore 5, 2) := by decide +kernel
theorem dX7_drive_64 : decode cX7_drive 64 = .ok (.lload 5, 2) := by decide +kernel
theorem dX7_drive_66 : decode cX7_drive 66 = .ok (.lload 5, 2) := by decide +kernel
theorem dX7_drive_68 : decode cX7_drive 68 = .ok (.lmul, 1) := by decide +kernel
theorem dX7_drive_69 : decode cX7_drive 69 = .ok (.ldc2_w 132, 3) := by decide +kernel
theorem dX7_drive_72 : decode cX7_drive 72 = .ok (.lrem, 1) := by decide +kernel
theorem dX7_drive_73 : decode cX7_drive 73 = .ok (.lstore 7, 2) := by decide +kernel
theorem dX7_drive_75 : decode cX7_drive 75 = .ok (.aload_n 0, 1) := by decide +kernel
theorem dX7_drive_76 : decode cX7_drive 76 = .ok (.aload_n 0, 1) := by decide +kernel
theorem dX7_drive_77 : decode cX7_drive 77 = .ok (.lload 7, 2) := by decide +kernel
theorem dX7_drive_79 : decode cX7_drive 79 = .ok (.aload_n 0, 1) := by decide +kernel
theorem dX7_drive_80 : decode cX7_drive 80 = .ok (.invokevirtual 134, 3) := by decide +kernel
theorem dX7_drive_83 : decode cX7_drive 83 = .ok (.i2l, 1) := by decide +kernel
theorem dX7_drive_84 : decode cX7_drive 84 = .ok (.lrem, 1) := by decide +kernel
theorem dX7_drive_85 : decode cX7_drive 85 = .ok (.l2i, 1) := by decide +kernel
theorem dX7_drive_86 : decode cX7_drive 86 = .ok (.invokevirtual 137, 3) := by decide +kernel
theorem dX7_drive_89 : decode cX7_drive 89 = .ok (.invokevirtual 124, 3) := by decide +kernel
theorem dX7_drive_92 : decode cX7_drive 92 = .ok (.iinc 4 1, 3) := by decide +kernel
theorem dX7_drive_95 : decode cX7_drive 95 = .ok (.goto (-55), 3) := by decide +kernel
theorem dX7_drive_98 : decode cX7_drive 98 = .ok (.aload_n 0, 1) := by decide +kernel
theorem dX7_drive_99 : decode cX7_drive 99 = .ok (.getfield 19, 3) := by decide +kernel
theorem dX7_drive_102 : decode cX7_drive 102 = .ok (.bipush 81, 2) := by decide +kernel
theorem dX7_drive_104 : decode cX7_drive 104 = .ok (.iaload, 1) := by decide +kernel
theorem dX7_drive_105 : decode cX7_drive 105 = .ok (.iload_n 3, 1) := by decide +kernel
theorem dX7_drive_106 : decode cX7_drive 106 = .ok (.isub, 1) := by decide +kernel
theorem dX7_drive_107 : decode cX7_drive 107 = .ok (.ireturn, 1) := by decide +kernel
set_option maxRecDepth 20000 in
theorem ggX7_adoptCounts_X7_isUncertain : GoodIn wsX7_adoptCounts wsX7_isUncertain := goodIn_r _ [8, 1, 9, 10, 11, 7, 12, 3, 13, 14, 15, 16, 17, 18, 19, 20, 21, 22, 23, 24, 25, 26, 27, 28, 29, 30, 52, 53, 54, 55, 56, 57, 58, 59, 60, 61, 62, 63, 64, 65, 66, 67, 68, 69, 70] (by decide +kernel) (by decide +kernel)
set_option maxRecDepth 20000 in
theorem gX7_adoptCounts_X7_isUncertain : GoodIn wsX7_adoptCounts (wsV RX7 141 RX7 yX7_isUncertain wsX7_isUncertain) := goodIn_app (goodIn_of _ (by decide +kernel)) ggX7_adoptCounts_X7_isUncertain
set_option maxRecDepth 20000 in
theorem ggX7_adoptCounts_X7_save : GoodIn wsX7_adoptCounts wsX7_save := goodIn_r _ [34, 35, 36, 3, 52, 53, 54, 55, 56, 57, 58, 59, 60, 61, 62, 63, 64, 65, 66, 67, 68, 69, 70] (by decide +kernel) (by decide +kernel)
set_option maxRecDepth 20000 in
theorem gX7_adoptCounts_X7_save : GoodIn wsX7_adoptCounts (wsV RX7 118 RX7 yX7_save wsX7_save) := goodIn_app (goodIn_of _ (by decide +kernel)) ggX7_adoptCounts_X7_save
set_option maxRecDepth 20000 in
theorem ggX7_adoptCounts_X7_countOf : GoodIn wsX7_adoptCounts wsX7_countOf := goodIn_r _ [40, 3, 21, 27, 1, 22, 9, 10, 11, 7, 12, 23, 24, 25, 26, 28, 29, 30, 52, 53, 54, 55, 56, 57, 58, 59, 60, 61, 62, 63, 64, 65, 66, 67, 68, 69, 70] (by decide +kernel) (by decide +kernel)
set_option maxRecDepth 20000 in
theorem gX7_adoptCounts_X7_countOf : GoodIn wsX7_adoptCounts (wsV RX7 144 RX7 yX7_countOf wsX7_countOf) := goodIn_app (goodIn_of _ (by decide +kernel)) ggX7_adoptCounts_X7_countOf
set_option maxRecDepth 20000 in
theorem ggX7_adoptCounts_X7_findTree : GoodIn wsX7_adoptCounts wsX7_findTree := goodIn_r _ [44, 3, 1, 22, 21, 23, 24, 25, 7, 26, 27, 45, 46, 47, 52, 53, 54, 55, 56, 57, 58, 59, 60, 61, 62, 63, 64, 65, 66, 67, 68, 69, 70] (by decide +kernel) (by decide +kernel)
set_option maxRecDepth 20000 in
theorem gX7_adoptCounts_X7_findTree : GoodIn wsX7_adoptCounts (wsV RX7 102 RX7 yX7_findTree wsX7_findTree) := goodIn_app (goodIn_of _ (by decide +kernel)) ggX7_adoptCounts_X7_findTree
set_option maxRecDepth 20000 in
theorem ggX7_adoptCounts_X7_resetCounts : GoodIn wsX7_adoptCounts wsX7_resetCounts := goodIn_r _ [51, 3, 52, 53, 54, 55, 56, 57, 58, 59, 60, 61, 62, 63, 64, 65, 66, 67, 68, 69, 70] (by decide +kernel) (by decide +kernel)
set_option maxRecDepth 20000 in
theorem gX7_adoptCounts_X7_resetCounts : GoodIn wsX7_adoptCounts (wsV RX7 105 RX7 yX7_resetCounts wsX7_resetCounts) := goodIn_app (goodIn_of _ (by decide +kernel)) ggX7_adoptCounts_X7_resetCounts
theorem dX7_adoptCounts_0 : decode cX7_adoptCounts 0 = .ok (.iconst 0, 1) := by decide +kernel
theorem dX7_adoptCounts_1 : decode cX7_adoptCounts 1 = .ok (.istore_n 1, 1) := by decide +kernel
theorem dX7_adoptCounts_2 : decode cX7_adoptCounts 2 = .ok (.iload_n 1, 1) := by decide +kernel
theorem dX7_adoptCounts_3 : decode cX7_adoptCounts 3 = .ok (.aload_n 0, 1) := by decide +kernel
theorem dX7_adoptCounts_4 : decode cX7_adoptCounts 4 = .ok (.getfield 95, 3) := by decide +kernel
theorem dX7_adoptCounts_7 : decode cX7_adoptCounts 7 = .ok (.if_icmp .ge 20, 3) := by decide +kernel
theorem dX7_adoptCounts_10 : decode cX7_adoptCounts 10 = .ok (.aload_n 0, 1) := by decide +kernel
theorem dX7_adoptCounts_11 : decode cX7_adoptCounts 11 = .ok (.iload_n 1, 1) := by decide +kernel
theorem dX7_adoptCounts_12 : decode cX7_adoptCounts 12 = .ok (.invokevirtual 141, 3) := by decide +kernel
theorem dX7_adoptCounts_15 : decode cX7_adoptCounts 15 = .ok (.ifCond .eq 6, 3) := by decide +kernel
theorem dX7_adoptCounts_18 : decode cX7_adoptCounts 18 = .ok (.bipush (-105), 2) := by decide +kernel
theorem dX7_adoptCounts_20 : decode cX7_adoptCounts 20 = .ok (.ireturn, 1) := by decide +kernel
theorem dX7_adoptCounts_21 : decode cX7_adoptCounts 21 = .ok (.iinc 1 1, 3) := by decide +kernel
theorem dX7_adoptCounts_24 : decode cX7_adoptCounts 24 = .ok (.goto (-22), 3) := by decide +kernel
theorem dX7_adoptCounts_27 : decode cX7_adoptCounts 27 = .ok (.aload_n 0, 1) := by decide +kernel
theorem dX7_adoptCounts_28 : decode cX7_adoptCounts 28 = .ok (.invokevirtual 118, 3) := by decide +kernel
theorem dX7_adoptCounts_31 : decode cX7_adoptCounts 31 = .ok (.iconst 0, 1) := by decide +kernel
theorem dX7_adoptCounts_32 : decode cX7_adoptCounts 32 = .ok (.istore_n 1, 1) := by decide +kernel
theorem dX7_adoptCounts_33 : decode cX7_adoptCounts 33 = .ok (.iconst 0, 1) := by decide +kernel
theorem dX7_adoptCounts_34 : decode cX7_adoptCounts 34 = .ok (.istore_n 2, 1) := by decide +kernel
theorem dX7_adoptCounts_35 : decode cX7_adoptCounts 35 = .ok (.iload_n 2, 1) := by decide +kernel
theorem dX7_adoptCounts_36 : decode cX7_adoptCounts 36 = .ok (.aload_n 0, 1) := by decide +kernel
theorem dX7_adoptCounts_37 : decode cX7_adoptCounts 37 = .ok (.getfield 95, 3) := by decide +kernel
theorem dX7_adoptCounts_40 : decode cX7_adoptCounts 40 = .ok (.if_icmp .ge 35, 3) := by decide +kernel
theorem dX7_adoptCounts_43 : decode cX7_adoptCounts 43 = .ok (.aload_n 0, 1) := by decide +kernel
theorem dX7_adoptCounts_44 : decode cX7_adoptCounts 44 = .ok (.iload_n 2, 1) := by decide +kernel
theorem dX7_adoptCounts_45 : decode cX7_adoptCounts 45 = .ok (.invokevirtual 144, 3) := by decide +kernel
theorem dX7_adoptCounts_48 : decode cX7_adoptCounts 48 = .ok (.istore_n 3, 1) := by decide +kernel
theorem dX7_adoptCounts_49 : decode cX7_adoptCounts 49 = .ok (.aload_n 0, 1) := by decide +kernel
theorem dX7_adoptCounts_50 : decode cX7_adoptCounts 50 = .ok (.getfield 37, 3) := by decide +kernel
theorem dX7_adoptCounts_53 : decode cX7_adoptCounts 53 = .ok (.iload_n 2, 1) := by decide +kernel
theorem dX7_adoptCounts_54 : decode cX7_adoptCounts 54 = .ok (.iload_n 3, 1) := by decide +kernel
theorem dX7_adoptCounts_55 : decode cX7_adoptCounts 55 = .ok (.sipush 999, 3) := by decide +kernel
theorem dX7_adoptCounts_58 : decode cX7_adoptCounts 58 = .ok (.if_icmp .ge 7, 3) := by decide +kernel
theorem dX7_adoptCounts_61 : decode cX7_adoptCounts 61 = .ok (.iload_n 3, 1) := by decide +kernel
theorem dX7_adoptCounts_62 : decode cX7_adoptCounts 62 = .ok (.goto 6, 3) := by decide +kernel
theorem dX7_adoptCounts_65 : decode cX7_adoptCounts 65 = .ok (.sipush 999, 3) := by decide +kernel
theorem dX7_adoptCounts_68 : decode cX7_adoptCounts 68 = .ok (.iastore, 1) := by decide +kernel
theorem dX7_adoptCounts_69 : decode cX7_adoptCounts 69 = .ok (.iinc 2 1, 3) := by decide +kernel
theorem dX7_adoptCounts_72 : decode cX7_adoptCounts 72 = .ok (.goto (-37), 3) := by decide +kernel
theorem dX7_adoptCounts_75 : decode cX7_adoptCounts 75 = .ok (.iconst 0, 1) := by decide +kernel
theorem dX7_adoptCounts_76 : decode cX7_adoptCounts 76 = .ok (.istore_n 2, 1) := by decide +kernel
theorem dX7_adoptCounts_77 : decode cX7_adoptCounts 77 = .ok (.iload_n 2, 1) := by decide +kernel
theorem dX7_adoptCounts_78 : decode cX7_adoptCounts 78 = .ok (.aload_n 0, 1) := by decide +kernel
theorem dX7_adoptCounts_79 : decode cX7_adoptCounts 79 = .ok (.getfield 95, 3) := by decide +kernel
theorem dX7_adoptCounts_82 : decode cX7_adoptCounts 82 = .ok (.if_icmp .ge 48, 3) := by decide +kernel
theorem dX7_adoptCounts_85 : decode cX7_adoptCounts 85 = .ok (.iload_n 1, 1) := by decide +kernel
theorem dX7_adoptCounts_86 : decode cX7_adoptCounts 86 = .ok (.aload_n 0, 1) := by decide +kernel
theorem dX7_adoptCounts_87 : decode cX7_adoptCounts 87 = .ok (.getfield 37, 3) := by decide +kernel
theorem dX7_adoptCounts_90 : decode cX7_adoptCounts 90 = .ok (.iload_n 2, 1) := by decide +kernel
theorem dX7_adoptCounts_91 : decode cX7_adoptCounts 91 = .ok (.iaload, 1) := by decide +kernel
theorem dX7_adoptCounts_92 : decode cX7_adoptCounts 92 = .ok (.aload_n 0, 1) := by decide +kernel
theorem dX7_adoptCounts_93 : decode cX7_adoptCounts 93 = .ok (.getfield 19, 3) := by decide +kernel
theorem dX7_adoptCounts_96 : decode cX7_adoptCounts 96 = .ok (.iconst 0, 1) := by decide +kernel
theorem dX7_adoptCounts_97 : decode cX7_adoptCounts 97 = .ok (.iload_n 2, 1) := by decide +kernel
theorem dX7_adoptCounts_98 : decode cX7_adoptCounts 98 = .ok (.iadd, 1) := by decide +kernel
theorem dX7_adoptCounts_99 : decode cX7_adoptCounts 99 = .ok (.iaload, 1) := by decide +kernel
theorem dX7_adoptCounts_100 : decode cX7_adoptCounts 100 = .ok (.if_icmp .eq 7, 3) := by decide +kernel
theorem dX7_adoptCounts_103 : decode cX7_adoptCounts 103 = .ok (.iconst 1, 1) := by decide +kernel
theorem dX7_adoptCounts_104 : decode cX7_adoptCounts 104 = .ok (.goto 4, 3) := by decide +kernel
theorem dX7_adoptCounts_107 : decode cX7_adoptCounts 107 = .ok (.iconst 0, 1) := by decide +kernel
theorem dX7_adoptCounts_108 : decode cX7_adoptCounts 108 = .ok (.iadd, 1) := by decide +kernel
theorem dX7_adoptCounts_109 : decode cX7_adoptCounts 109 = .ok (.istore_n 1, 1) := by decide +kernel
theorem dX7_adoptCounts_110 : decode cX7_adoptCounts 110 = .ok (.aload_n 0, 1) := by decide +kernel
theorem dX7_adoptCounts_111 : decode cX7_adoptCounts 111 = .ok (.getfield 19, 3) := by decide +kernel
theorem dX7_adoptCounts_114 : decode cX7_adoptCounts 114 = .ok (.iconst 0, 1) := by decide +kernel
theorem dX7_adoptCounts_115 : decode cX7_adoptCounts 115 = .ok (.iload_n 2, 1) := by decide +kernel
theorem dX7_adoptCounts_116 : decode cX7_adoptCounts 116 = .ok (.iadd, 1) := by decide +kernel
theorem dX7_adoptCounts_117 : decode cX7_adoptCounts 117 = .ok (.aload_n 0, 1) := by decide +kernel
theorem dX7_adoptCounts_118 : decode cX7_adoptCounts 118 = .ok (.getfield 37, 3) := by decide +kernel
theorem dX7_adoptCounts_121 : decode cX7_adoptCounts 121 = .ok (.iload_n 2, 1) := by decide +kernel
theorem dX7_adoptCounts_122 : decode cX7_adoptCounts 122 = .ok (.iaload, 1) := by decide +kernel
theorem dX7_adoptCounts_123 : decode cX7_adoptCounts 123 = .ok (.iastore, 1) := by decide +kernel
theorem dX7_adoptCounts_124 : decode cX7_adoptCounts 124 = .ok (.iinc 2 1, 3) := by decide +kernel
theorem dX7_adoptCounts_127 : decode cX7_adoptCounts 127 = .ok (.goto (-50), 3) := by decide +kernel
theorem dX7_adoptCounts_130 : decode cX7_adoptCounts 130 = .ok (.aload_n 0, 1) := by decide +kernel
theorem dX7_adoptCounts_131 : decode cX7_adoptCounts 131 = .ok (.invokevirtual 102, 3) := by decide +kernel
theorem dX7_adoptCounts_134 : decode cX7_adoptCounts 134 = .ok (.aload_n 0, 1) := by decide +kernel
theorem dX7_adoptCounts_135 : decode cX7_adoptCounts 135 = .ok (.invokevirtual 105, 3) := by decide +kernel
theorem dX7_adoptCounts_138 : decode cX7_adoptCounts 138 = .ok (.iload_n 1, 1) := by decide +kernel
theorem dX7_adoptCounts_139 : decode cX7_adoptCounts 139 = .ok (.ireturn, 1) := by decide +kernel
theorem dX7_factor_0 : decode cX7_factor 0 = .ok (.iload_n 0, 1) := by decide +kernel
theorem dX7_factor_1 : decode cX7_factor 1 = .ok (.iload_n 1, 1) := by decide +kernel
theorem dX7_factor_2 : decode cX7_factor 2 = .ok (.ishr, 1) := by decide +kernel
theorem dX7_factor_3 : decode cX7_factor 3 = .ok (.iconst 1, 1) := by decide +kernel
theorem dX7_factor_4 : decode cX7_factor 4 = .ok (.iand, 1) := by decide +kernel
theorem dX7_factor_5 : decode cX7_factor 5 = .ok (.iload_n 0, 1) := by decide +kernel
theorem dX7_factor_6 : decode cX7_factor 6 = .ok (.iload_n 2, 1) := by decide +kernel
theorem dX7_factor_7 : decode cX7_factor 7 = .ok (.ishr, 1) := by decide +kernel
theorem dX7_factor_8 : decode cX7_factor 8 = .ok (.iconst 1, 1) := by decide +kernel
theorem dX7_factor_9 : decode cX7_factor 9 = .ok (.iand, 1) := by decide +kernel
theorem dX7_factor_10 : decode cX7_factor 10 = .ok (.isub, 1) := by decide +kernel
theorem dX7_factor_11 : decode cX7_factor 11 = .ok (.ireturn, 1) := by decide +kernel
set_option maxRecDepth 20000 in
theorem ggX7_factorOf_X7_sideOf : GoodIn wsX7_factorOf wsX7_sideOf := goodIn_r _ [7, 8, 9, 2, 1, 10, 14, 15, 16, 17, 18, 19, 20, 21, 22, 23, 24, 25, 26, 27, 28, 29, 30, 31, 32] (by decide +kernel) (by decide +kernel)
set_option maxRecDepth 20000 in
theorem gX7_factorOf_X7_sideOf : GoodIn wsX7_factorOf (wsV RX7 111 RX7 yX7_sideOf wsX7_sideOf) := goodIn_app (goodIn_of _ (by decide +kernel)) ggX7_factorOf_X7_sideOf
set_option maxRecDepth 20000 in
theorem ggX7_factorOf_X7_factor : GoodIn wsX7_factorOf wsX7_factor := goodIn_r _ [13] (by decide +kernel) (by decide +kernel)
set_option maxRecDepth 20000 in
theorem gX7_factorOf_X7_factor : GoodIn wsX7_factorOf (va_wsS RX7 147 yX7_factor wsX7_factor) := goodIn_app (goodIn_of _ (by decide +kernel)) ggX7_factorOf_X7_factor
theorem dX7_factorOf_0 : decode cX7_factorOf 0 = .ok (.aload_n 0, 1) := by decide +kernel
theorem dX7_factorOf_1 : decode cX7_factorOf 1 = .ok (.aload_n 0, 1) := by decide +kernel
theorem dX7_factorOf_2 : decode cX7_factorOf 2 = .ok (.getfield 16, 3) := by decide +kernel
theorem dX7_factorOf_5 : decode cX7_factorOf 5 = .ok (.iload_n 1, 1) := by decide +kernel
theorem dX7_factorOf_6 : decode cX7_factorOf 6 = .ok (.iaload, 1) := by decide +kernel
theorem dX7_factorOf_7 : decode cX7_factorOf 7 = .ok (.iload_n 1, 1) := by decide +kernel
theorem dX7_factorOf_8 : decode cX7_factorOf 8 = .ok (.invokevirtual 111, 3) := by decide +kernel
theorem dX7_factorOf_11 : decode cX7_factorOf 11 = .ok (.aload_n 0, 1) := by decide +kernel
theorem dX7_factorOf_12 : decode cX7_factorOf 12 = .ok (.getfield 13, 3) := by decide +kernel
theorem dX7_factorOf_15 : decode cX7_factorOf 15 = .ok (.iload_n 2, 1) := by decide +kernel
theorem dX7_factorOf_16 : decode cX7_factorOf 16 = .ok (.iaload, 1) := by decide +kernel
theorem dX7_factorOf_17 : decode cX7_factorOf 17 = .ok (.aload_n 0, 1) := by decide +kernel
theorem dX7_factorOf_18 : decode cX7_factorOf 18 = .ok (.getfield 16, 3) := by decide +kernel
theorem dX7_factorOf_21 : decode cX7_factorOf 21 = .ok (.iload_n 2, 1) := by decide +kernel
theorem dX7_factorOf_22 : decode cX7_factorOf 22 = .ok (.iaload, 1) := by decide +kernel
theorem dX7_factorOf_23 : decode cX7_factorOf 23 = .ok (.invokestatic 147, 3) := by decide +kernel
theorem dX7_factorOf_26 : decode cX7_factorOf 26 = .ok (.ireturn, 1) := by decide +kernel
set_option maxRecDepth 20000 in
theorem ggX7_isSaturated_X7_isTree : GoodIn wsX7_isSaturated wsX7_isTree := goodIn_r _ [6, 1, 7, 8, 9, 10, 11, 12, 13, 14, 15, 16, 17, 18, 19, 20, 21, 22, 23, 24, 25] (by decide +kernel) (by decide +kernel)
set_option maxRecDepth 20000 in
theorem gX7_isSaturated_X7_isTree : GoodIn wsX7_isSaturated (wsV RX7 121 RX7 yX7_isTree wsX7_isTree) := goodIn_app (goodIn_of _ (by decide +kernel)) ggX7_isSaturated_X7_isTree
theorem dX7_isSaturated_0 : decode cX7_isSaturated 0 = .ok (.aload_n 0, 1) := by decide +kernel
theorem dX7_isSaturated_1 : decode cX7_isSaturated 1 = .ok (.iload_n 1, 1) := by decide +kernel
theorem dX7_isSaturated_2 : decode cX7_isSaturated 2 = .ok (.invokevirtual 121, 3) := by decide +kernel
theorem dX7_isSaturated_5 : decode cX7_isSaturated 5 = .ok (.ifCond .ne 26, 3) := by decide +kernel
theorem dX7_isSaturated_8 : decode cX7_isSaturated 8 = .ok (.aload_n 0, 1) := by decide +kernel
theorem dX7_isSaturated_9 : decode cX7_isSaturated 9 = .ok (.getfield 19, 3) := by decide +kernel
theorem dX7_isSaturated_12 : decode cX7_isSaturated 12 = .ok (.bipush 40, 2) := by decide +kernel
theorem dX7_isSaturated_14 : decode cX7_isSaturated 14 = .ok (.iload_n 1, 1) := by decide +kernel
theorem dX7_isSaturated_15 : decode cX7_isSaturated 15 = .ok (.iadd, 1) := by decide +kernel
theorem dX7_isSaturated_16 : decode cX7_isSaturated 16 = .ok (.iaload, 1) := by decide +kernel
theorem dX7_isSaturated_17 : decode cX7_isSaturated 17 = .ok (.aload_n 0, 1) := by decide +kernel
theorem dX7_isSaturated_18 : decode cX7_isSaturated 18 = .ok (.getfield 19, 3) := by decide +kernel
theorem dX7_isSaturated_21 : decode cX7_isSaturated 21 = .ok (.bipush 80, 2) := by decide +kernel
theorem dX7_isSaturated_23 : decode cX7_isSaturated 23 = .ok (.iaload, 1) := by decide +kernel
theorem dX7_isSaturated_24 : decode cX7_isSaturated 24 = .ok (.if_icmp .ne 7, 3) := by decide +kernel
theorem dX7_isSaturated_27 : decode cX7_isSaturated 27 = .ok (.iconst 1, 1) := by decide +kernel
theorem dX7_isSaturated_28 : decode cX7_isSaturated 28 = .ok (.goto 4, 3) := by decide +kernel
theorem dX7_isSaturated_31 : decode cX7_isSaturated 31 = .ok (.iconst 0, 1) := by decide +kernel
theorem dX7_isSaturated_32 : decode cX7_isSaturated 32 = .ok (.ireturn, 1) := by decide +kernel
set_option maxRecDepth 20000 in
theorem ggX7_isUncertain_X7_isTree : GoodIn wsX7_isUncertain wsX7_isTree := goodIn_r _ [6, 7, 26, 27, 28, 29, 30, 31, 32, 33, 34, 35, 36, 37, 38, 39, 40, 41, 42, 43, 44] (by decide +kernel) (by decide +kernel)
set_option maxRecDepth 20000 in
theorem gX7_isUncertain_X7_isTree : GoodIn wsX7_isUncertain (wsV RX7 121 RX7 yX7_isTree wsX7_isTree) := goodIn_app (goodIn_of _ (by decide +kernel)) ggX7_isUncertain_X7_isTree
set_option maxRecDepth 20000 in
theorem ggX7_isUncertain_X7_isSaturated : GoodIn wsX7_isUncertain wsX7_isSaturated := goodIn_r _ [11, 7, 2, 3, 4, 5, 6, 26, 27, 28, 29, 30, 31, 32, 33, 34, 35, 36, 37, 38, 39, 40, 41, 42, 43, 44] (by decide +kernel) (by decide +kernel)
set_option maxRecDepth 20000 in
theorem gX7_isUncertain_X7_isSaturated : GoodIn wsX7_isUncertain (wsV RX7 151 RX7 yX7_isSaturated wsX7_isSaturated) := goodIn_app (goodIn_of _ (by decide +kernel)) ggX7_isUncertain_X7_isSaturated
set_option maxRecDepth 20000 in
theorem ggX7_isUncertain_X7_factorOf : GoodIn wsX7_isUncertain wsX7_factorOf := goodIn_r _ [15, 16, 17, 18, 19, 20, 5, 21, 22, 1, 7, 23, 24, 25, 26, 27, 28, 29, 30, 31, 32, 33, 34, 35, 36, 37, 38, 39, 40, 41, 42, 43, 44] (by decide +kernel) (by decide +kernel)
set_option maxRecDepth 20000 in
theorem gX7_isUncertain_X7_factorOf : GoodIn wsX7_isUncertain (wsV RX7 154 RX7 yX7_factorOf wsX7_factorOf) := goodIn_app (goodIn_of _ (by decide +kernel)) ggX7_isUncertain_X7_factorOf
theorem dX7_isUncertain_0 : decode cX7_isUncertain 0 = .ok (.aload_n 0, 1) := by decide +kernel
theorem dX7_isUncertain_1 : decode cX7_isUncertain 1 = .ok (.iload_n 1, 1) := by decide +kernel
theorem dX7_isUncertain_2 : decode cX7_isUncertain 2 = .ok (.invokevirtual 121, 3) := by decide +kernel
theorem dX7_isUncertain_5 : decode cX7_isUncertain 5 = .ok (.ifCond .ne 9, 3) := by decide +kernel
theorem dX7_isUncertain_8 : decode cX7_isUncertain 8 = .ok (.aload_n 0, 1) := by decide +kernel
theorem dX7_isUncertain_9 : decode cX7_isUncertain 9 = .ok (.iload_n 1, 1) := by decide +kernel
theorem dX7_isUncertain_10 : decode cX7_isUncertain 10 = .ok (.invokevirtual 151, 3) := by decide +kernel
theorem dX7_isUncertain_13 : decode cX7_isUncertain 13 = .ok (.ireturn, 1) := by decide +kernel
theorem dX7_isUncertain_14 : decode cX7_isUncertain 14 = .ok (.iconst 0, 1) := by decide +kernel
theorem dX7_isUncertain_15 : decode cX7_isUncertain 15 = .ok (.istore_n 2, 1) := by decide +kernel
theorem dX7_isUncertain_16 : decode cX7_isUncertain 16 = .ok (.iconst 0, 1) := by decide +kernel
theorem dX7_isUncertain_17 : decode cX7_isUncertain 17 = .ok (.istore_n 3, 1) := by decide +kernel
theorem dX7_isUncertain_18 : decode cX7_isUncertain 18 = .ok (.iload_n 3, 1) := by decide +kernel
theorem dX7_isUncertain_19 : decode cX7_isUncertain 19 = .ok (.aload_n 0, 1) := by decide +kernel
theorem dX7_isUncertain_20 : decode cX7_isUncertain 20 = .ok (.getfield 95, 3) := by decide +kernel
theorem dX7_isUncertain_23 : decode cX7_isUncertain 23 = .ok (.if_icmp .ge 36, 3) := by decide +kernel
theorem dX7_isUncertain_26 : decode cX7_isUncertain 26 = .ok (.iload_n 2, 1) := by decide +kernel
theorem dX7_isUncertain_27 : decode cX7_isUncertain 27 = .ok (.ifCond .ne 20, 3) := by decide +kernel
theorem dX7_isUncertain_30 : decode cX7_isUncertain 30 = .ok (.aload_n 0, 1) := by decide +kernel
theorem dX7_isUncertain_31 : decode cX7_isUncertain 31 = .ok (.iload_n 3, 1) := by decide +kernel
theorem dX7_isUncertain_32 : decode cX7_isUncertain 32 = .ok (.invokevirtual 151, 3) := by decide +kernel
theorem dX7_isUncertain_35 : decode cX7_isUncertain 35 = .ok (.ifCond .eq 16, 3) := by decide +kernel
theorem dX7_isUncertain_38 : decode cX7_isUncertain 38 = .ok (.aload_n 0, 1) := by decide +kernel
theorem dX7_isUncertain_39 : decode cX7_isUncertain 39 = .ok (.iload_n 1, 1) := by decide +kernel
theorem dX7_isUncertain_40 : decode cX7_isUncertain 40 = .ok (.iload_n 3, 1) := by decide +kernel
theorem dX7_isUncertain_41 : decode cX7_isUncertain 41 = .ok (.invokevirtual 154, 3) := by decide +kernel
theorem dX7_isUncertain_44 : decode cX7_isUncertain 44 = .ok (.ifCond .eq 7, 3) := by decide +kernel
theorem dX7_isUncertain_47 : decode cX7_isUncertain 47 = .ok (.iconst 1, 1) := by decide +kernel
theorem dX7_isUncertain_48 : decode cX7_isUncertain 48 = .ok (.goto 4, 3) := by decide +kernel
theorem dX7_isUncertain_51 : decode cX7_isUncertain 51 = .ok (.iconst 0, 1) := by decide +kernel
theorem dX7_isUncertain_52 : decode cX7_isUncertain 52 = .ok (.istore_n 2, 1) := by decide +kernel
theorem dX7_isUncertain_53 : decode cX7_isUncertain 53 = .ok (.iinc 3 1, 3) := by decide +kernel
theorem dX7_isUncertain_56 : decode cX7_isUncertain 56 = .ok (.goto (-38), 3) := by decide +kernel
theorem dX7_isUncertain_59 : decode cX7_isUncertain 59 = .ok (.iload_n 2, 1) := by decide +kernel
theorem dX7_isUncertain_60 : decode cX7_isUncertain 60 = .ok (.ireturn, 1) := by decide +kernel
set_option maxRecDepth 20000 in
theorem ggX7_countOf_X7_isTree : GoodIn wsX7_countOf wsX7_isTree := goodIn_r _ [10, 1, 18, 19, 20, 21, 22, 23, 24, 25, 26, 27, 28, 29, 30, 31, 32, 33, 34, 35, 36] (by decide +kernel) (by decide +kernel)
set_option maxRecDepth 20000 in
theorem gX7_countOf_X7_isTree : GoodIn wsX7_countOf (wsV RX7 121 RX7 yX7_isTree wsX7_isTree) := goodIn_app (goodIn_of _ (by decide +kernel)) ggX7_countOf_X7_isTree
set_option maxRecDepth 20000 in
theorem ggX7_countOf_X7_sideOf : GoodIn wsX7_countOf wsX7_sideOf := goodIn_r _ [14, 3, 4, 5, 2, 1, 18, 19, 20, 21, 22, 23, 24, 25, 26, 27, 28, 29, 30, 31, 32, 33, 34, 35, 36] (by decide +kernel) (by decide +kernel)
set_option maxRecDepth 20000 in
theorem gX7_countOf_X7_sideOf : GoodIn wsX7_countOf (wsV RX7 111 RX7 yX7_sideOf wsX7_sideOf) := goodIn_app (goodIn_of _ (by decide +kernel)) ggX7_countOf_X7_sideOf
set_option maxRecDepth 20000 in
theorem ggX7_countOf_X7_factor : GoodIn wsX7_countOf wsX7_factor := goodIn_r _ [17] (by decide +kernel) (by decide +kernel)
set_option maxRecDepth 20000 in
theorem gX7_countOf_X7_factor : GoodIn wsX7_countOf (va_wsS RX7 147 yX7_factor wsX7_factor) := goodIn_app (goodIn_of _ (by decide +kernel)) ggX7_countOf_X7_factor
theorem dX7_countOf_0 : decode cX7_countOf 0 = .ok (.aload_n 0, 1) := by decide +kernel
theorem dX7_countOf_1 : decode cX7_countOf 1 = .ok (.iload_n 1, 1) := by decide +kernel
theorem dX7_countOf_2 : decode cX7_countOf 2 = .ok (.invokevirtual 121, 3) := by decide +kernel
theorem dX7_countOf_5 : decode cX7_countOf 5 = .ok (.ifCond .ne 13, 3) := by decide +kernel
theorem dX7_countOf_8 : decode cX7_countOf 8 = .ok (.aload_n 0, 1) := by decide +kernel
theorem dX7_countOf_9 : decode cX7_countOf 9 = .ok (.getfield 19, 3) := by decide +kernel
theorem dX7_countOf_12 : decode cX7_countOf 12 = .ok (.bipush 40, 2) := by decide +kernel
theorem dX7_countOf_14 : decode cX7_countOf 14 = .ok (.iload_n 1, 1) := by decide +kernel
theorem dX7_countOf_15 : decode cX7_countOf 15 = .ok (.iadd, 1) := by decide +kernel
theorem dX7_countOf_16 : decode cX7_countOf 16 = .ok (.iaload, 1) := by decide +kernel
theorem dX7_countOf_17 : decode cX7_countOf 17 = .ok (.ireturn, 1) := by decide +kernel
theorem dX7_countOf_18 : decode cX7_countOf 18 = .ok (.aload_n 0, 1) := by decide +kernel
theorem dX7_countOf_19 : decode cX7_countOf 19 = .ok (.aload_n 0, 1) := by decide +kernel
theorem dX7_countOf_20 : decode cX7_countOf 20 = .ok (.getfield 16, 3) := by decide +kernel
theorem dX7_countOf_23 : decode cX7_countOf 23 = .ok (.iload_n 1, 1) := by decide +kernel
theorem dX7_countOf_24 : decode cX7_countOf 24 = .ok (.iaload, 1) := by decide +kernel
theorem dX7_countOf_25 : decode cX7_countOf 25 = .ok (.iload_n 1, 1) := by decide +kernel
theorem dX7_countOf_26 : decode cX7_countOf 26 = .ok (.invokevirtual 111, 3) := by decide +kernel
theorem dX7_countOf_29 : decode cX7_countOf 29 = .ok (.istore_n 2, 1) := by decide +kernel
theorem dX7_countOf_30 : decode cX7_countOf 30 = .ok (.aload_n 0, 1) := by decide +kernel
theorem dX7_countOf_31 : decode cX7_countOf 31 = .ok (.getfield 19, 3) := by decide +kernel
theorem dX7_countOf_34 : decode cX7_countOf 34 = .ok (.bipush 82, 2) := by decide +kernel
theorem dX7_countOf_36 : decode cX7_countOf 36 = .ok (.iaload, 1) := by decide +kernel
theorem dX7_countOf_37 : decode cX7_countOf 37 = .ok (.ifCond .ne 7, 3) := by decide +kernel
theorem dX7_countOf_40 : decode cX7_countOf 40 = .ok (.iconst 0, 1) := by decide +kernel
theorem dX7_countOf_41 : decode cX7_countOf 41 = .ok (.goto 20, 3) := by decide +kernel
theorem dX7_countOf_44 : decode cX7_countOf 44 = .ok (.iload_n 2, 1) := by decide +kernel
theorem dX7_countOf_45 : decode cX7_countOf 45 = .ok (.aload_n 0, 1) := by decide +kernel
theorem dX7_countOf_46 : decode cX7_countOf 46 = .ok (.getfield 19, 3) := by decide +kernel
theorem dX7_countOf_49 : decode cX7_countOf 49 = .ok (.bipush 82, 2) := by decide +kernel
theorem dX7_countOf_51 : decode cX7_countOf 51 = .ok (.iaload, 1) := by decide +kernel
theorem dX7_countOf_52 : decode cX7_countOf 52 = .ok (.aload_n 0, 1) := by decide +kernel
theorem dX7_countOf_53 : decode cX7_countOf 53 = .ok (.getfield 92, 3) := by decide +kernel
theorem dX7_countOf_56 : decode cX7_countOf 56 = .ok (.iconst 1, 1) := by decide +kernel
theorem dX7_countOf_57 : decode cX7_countOf 57 = .ok (.isub, 1) := by decide +kernel
theorem dX7_countOf_58 : decode cX7_countOf 58 = .ok (.invokestatic 147, 3) := by decide +kernel
theorem dX7_countOf_61 : decode cX7_countOf 61 = .ok (.istore_n 3, 1) := by decide +kernel
theorem dX7_countOf_62 : decode cX7_countOf 62 = .ok (.iconst 0, 1) := by decide +kernel
theorem dX7_countOf_63 : decode cX7_countOf 63 = .ok (.istore 4, 2) := by decide +kernel
theorem dX7_countOf_65 : decode cX7_countOf 65 = .ok (.iload 4, 2) := by decide +kernel
theorem dX7_countOf_67 : decode cX7_countOf 67 = .ok (.aload_n 0, 1) := by decide +kernel
theorem dX7_countOf_68 : decode cX7_countOf 68 = .ok (.getfield 95, 3) := by decide +kernel
theorem dX7_countOf_71 : decode cX7_countOf 71 = .ok (.if_icmp .ge 54, 3) := by decide +kernel
theorem dX7_countOf_74 : decode cX7_countOf 74 = .ok (.iload_n 3, 1) := by decide +kernel
theorem dX7_countOf_75 : decode cX7_countOf 75 = .ok (.aload_n 0, 1) := by decide +kernel
theorem dX7_countOf_76 : decode cX7_countOf 76 = .ok (.iload 4, 2) := by decide +kernel
theorem dX7_countOf_78 : decode cX7_countOf 78 = .ok (.invokevirtual 121, 3) := by decide +kernel
theorem dX7_countOf_81 : decode cX7_countOf 81 = .ok (.ifCond .eq 7, 3) := by decide +kernel
theorem dX7_countOf_84 : decode cX7_countOf 84 = .ok (.iconst 0, 1) := by decide +kernel
theorem dX7_countOf_85 : decode cX7_countOf 85 = .ok (.goto 32, 3) := by decide +kernel
theorem dX7_countOf_88 : decode cX7_countOf 88 = .ok (.iload_n 2, 1) := by decide +kernel
theorem dX7_countOf_89 : decode cX7_countOf 89 = .ok (.aload_n 0, 1) := by decide +kernel
theorem dX7_countOf_90 : decode cX7_countOf 90 = .ok (.getfield 13, 3) := by decide +kernel
theorem dX7_countOf_93 : decode cX7_countOf 93 = .ok (.iload 4, 2) := by decide +kernel
theorem dX7_countOf_95 : decode cX7_countOf 95 = .ok (.iaload, 1) := by decide +kernel
theorem dX7_countOf_96 : decode cX7_countOf 96 = .ok (.aload_n 0, 1) := by decide +kernel
theorem dX7_countOf_97 : decode cX7_countOf 97 = .ok (.getfield 16, 3) := by decide +kernel
theorem dX7_countOf_100 : decode cX7_countOf 100 = .ok (.iload 4, 2) := by decide +kernel
theorem dX7_countOf_102 : decode cX7_countOf 102 = .ok (.iaload, 1) := by decide +kernel
theorem dX7_countOf_103 : decode cX7_countOf 103 = .ok (.invokestatic 147, 3) := by decide +kernel
theorem dX7_countOf_106 : decode cX7_countOf 106 = .ok (.aload_n 0, 1) := by decide +kernel
theorem dX7_countOf_107 : decode cX7_countOf 107 = .ok (.getfield 19, 3) := by decide +kernel
theorem dX7_countOf_110 : decode cX7_countOf 110 = .ok (.bipush 40, 2) := by decide +kernel
theorem dX7_countOf_112 : decode cX7_countOf 112 = .ok (.iload 4, 2) := by decide +kernel
theorem dX7_countOf_114 : decode cX7_countOf 114 = .ok (.iadd, 1) := by decide +kernel
theorem dX7_countOf_115 : decode cX7_countOf 115 = .ok (.iaload, 1) := by decide +kernel
theorem dX7_countOf_116 : decode cX7_countOf 116 = .ok (.imul, 1) := by decide +kernel
theorem dX7_countOf_117 : decode cX7_countOf 117 = .ok (.iadd, 1) := by decide +kernel
theorem dX7_countOf_118 : decode cX7_countOf 118 = .ok (.istore_n 3, 1) := by decide +kernel
theorem dX7_countOf_119 : decode cX7_countOf 119 = .ok (.iinc 4 1, 3) := by decide +kernel
theorem dX7_countOf_122 : decode cX7_countOf 122 = .ok (.goto (-57), 3) := by decide +kernel
theorem dX7_countOf_125 : decode cX7_countOf 125 = .ok (.iload_n 3, 1) := by decide +kernel
theorem dX7_countOf_126 : decode cX7_countOf 126 = .ok (.ireturn, 1) := by decide +kernel
theorem dX7_blockCount_0 : decode cX7_blockCount 0 = .ok (.aload_n 0, 1) := by decide +kernel
theorem dX7_blockCount_1 : decode cX7_blockCount 1 = .ok (.getfield 92, 3) := by decide +kernel
theorem dX7_blockCount_4 : decode cX7_blockCount 4 = .ok (.ireturn, 1) := by decide +kernel
set_option maxRecDepth 20000 in
theorem ggX7_sourceOf_X7_isEdge : GoodIn wsX7_sourceOf wsX7_isEdge := goodIn_r _ [6, 7, 8, 9, 5, 10, 11, 12, 13, 14, 15, 16, 17, 18, 19, 20, 21, 22, 23, 24, 25, 26, 27, 28, 29] (by decide +kernel) (by decide +kernel)
set_option maxRecDepth 20000 in
theorem gX7_sourceOf_X7_isEdge : GoodIn wsX7_sourceOf (wsV RX7 115 RX7 yX7_isEdge wsX7_isEdge) := goodIn_app (goodIn_of _ (by decide +kernel)) ggX7_sourceOf_X7_isEdge
theorem dX7_sourceOf_0 : decode cX7_sourceOf 0 = .ok (.aload_n 0, 1) := by decide +kernel
theorem dX7_sourceOf_1 : decode cX7_sourceOf 1 = .ok (.iload_n 1, 1) := by decide +kernel
theorem dX7_sourceOf_2 : decode cX7_sourceOf 2 = .ok (.invokevirtual 115, 3) := by decide +kernel
theorem dX7_sourceOf_5 : decode cX7_sourceOf 5 = .ok (.ifCond .eq 12, 3) := by decide +kernel
theorem dX7_sourceOf_8 : decode cX7_sourceOf 8 = .ok (.aload_n 0, 1) := by decide +kernel
theorem dX7_sourceOf_9 : decode cX7_sourceOf 9 = .ok (.getfield 13, 3) := by decide +kernel
theorem dX7_sourceOf_12 : decode cX7_sourceOf 12 = .ok (.iload_n 1, 1) := by decide +kernel
theorem dX7_sourceOf_13 : decode cX7_sourceOf 13 = .ok (.iaload, 1) := by decide +kernel
theorem dX7_sourceOf_14 : decode cX7_sourceOf 14 = .ok (.goto 5, 3) := by decide +kernel
theorem dX7_sourceOf_17 : decode cX7_sourceOf 17 = .ok (.bipush (-101), 2) := by decide +kernel
theorem dX7_sourceOf_19 : decode cX7_sourceOf 19 = .ok (.ireturn, 1) := by decide +kernel
set_option maxRecDepth 20000 in
theorem ggX7_targetOf_X7_isEdge : GoodIn wsX7_targetOf wsX7_isEdge := goodIn_r _ [6, 7, 8, 9, 5, 10, 11, 12, 13, 14, 15, 16, 17, 18, 19, 20, 21, 22, 23, 24, 25, 26, 27, 28, 29] (by decide +kernel) (by decide +kernel)
set_option maxRecDepth 20000 in
theorem gX7_targetOf_X7_isEdge : GoodIn wsX7_targetOf (wsV RX7 115 RX7 yX7_isEdge wsX7_isEdge) := goodIn_app (goodIn_of _ (by decide +kernel)) ggX7_targetOf_X7_isEdge
theorem dX7_targetOf_0 : decode cX7_targetOf 0 = .ok (.aload_n 0, 1) := by decide +kernel
theorem dX7_targetOf_1 : decode cX7_targetOf 1 = .ok (.iload_n 1, 1) := by decide +kernel
theorem dX7_targetOf_2 : decode cX7_targetOf 2 = .ok (.invokevirtual 115, 3) := by decide +kernel
theorem dX7_targetOf_5 : decode cX7_targetOf 5 = .ok (.ifCond .eq 12, 3) := by decide +kernel
theorem dX7_targetOf_8 : decode cX7_targetOf 8 = .ok (.aload_n 0, 1) := by decide +kernel
theorem dX7_targetOf_9 : decode cX7_targetOf 9 = .ok (.getfield 16, 3) := by decide +kernel
theorem dX7_targetOf_12 : decode cX7_targetOf 12 = .ok (.iload_n 1, 1) := by decide +kernel
theorem dX7_targetOf_13 : decode cX7_targetOf 13 = .ok (.iaload, 1) := by decide +kernel
theorem dX7_targetOf_14 : decode cX7_targetOf 14 = .ok (.goto 5, 3) := by decide +kernel
theorem dX7_targetOf_17 : decode cX7_targetOf 17 = .ok (.bipush (-101), 2) := by decide +kernel
theorem dX7_targetOf_19 : decode cX7_targetOf 19 = .ok (.ireturn, 1) := by decide +kernel
set_option maxRecDepth 20000 in
theorem ggX7_weightOf_X7_isEdge : GoodIn wsX7_weightOf wsX7_isEdge := goodIn_r _ [6, 7, 8, 9, 5, 10, 11, 12, 13, 14, 15, 16, 17, 18, 19, 20, 21, 22, 23, 24, 25, 26, 27, 28, 29] (by decide +kernel) (by decide +kernel)
set_option maxRecDepth 20000 in
theorem gX7_weightOf_X7_isEdge : GoodIn wsX7_weightOf (wsV RX7 115 RX7 yX7_isEdge wsX7_isEdge) := goodIn_app (goodIn_of _ (by decide +kernel)) ggX7_weightOf_X7_isEdge
theorem dX7_weightOf_0 : decode cX7_weightOf 0 = .ok (.aload_n 0, 1) := by decide +kernel
theorem dX7_weightOf_1 : decode cX7_weightOf 1 = .ok (.iload_n 1, 1) := by decide +kernel
theorem dX7_weightOf_2 : decode cX7_weightOf 2 = .ok (.invokevirtual 115, 3) := by decide +kernel
theorem dX7_weightOf_5 : decode cX7_weightOf 5 = .ok (.ifCond .eq 14, 3) := by decide +kernel
theorem dX7_weightOf_8 : decode cX7_weightOf 8 = .ok (.aload_n 0, 1) := by decide +kernel
theorem dX7_weightOf_9 : decode cX7_weightOf 9 = .ok (.getfield 19, 3) := by decide +kernel
theorem dX7_weightOf_12 : decode cX7_weightOf 12 = .ok (.iconst 0, 1) := by decide +kernel
theorem dX7_weightOf_13 : decode cX7_weightOf 13 = .ok (.iload_n 1, 1) := by decide +kernel
theorem dX7_weightOf_14 : decode cX7_weightOf 14 = .ok (.iadd, 1) := by decide +kernel
theorem dX7_weightOf_15 : decode cX7_weightOf 15 = .ok (.iaload, 1) := by decide +kernel
theorem dX7_weightOf_16 : decode cX7_weightOf 16 = .ok (.goto 5, 3) := by decide +kernel
theorem dX7_weightOf_19 : decode cX7_weightOf 19 = .ok (.bipush (-101), 2) := by decide +kernel
theorem dX7_weightOf_21 : decode cX7_weightOf 21 = .ok (.ireturn, 1) := by decide +kernel
set_option maxRecDepth 20000 in
theorem ggX7_hasCounter_X7_isEdge : GoodIn wsX7_hasCounter wsX7_isEdge := goodIn_r _ [5, 6, 7, 8, 4, 9, 15, 16, 17, 18, 19, 20, 21, 22, 23, 24, 25, 26, 27, 28, 29, 30, 31, 32, 33] (by decide +kernel) (by decide +kernel)
set_option maxRecDepth 20000 in
theorem gX7_hasCounter_X7_isEdge : GoodIn wsX7_hasCounter (wsV RX7 115 RX7 yX7_isEdge wsX7_isEdge) := goodIn_app (goodIn_of _ (by decide +kernel)) ggX7_hasCounter_X7_isEdge
set_option maxRecDepth 20000 in
theorem ggX7_hasCounter_X7_isTree : GoodIn wsX7_hasCounter wsX7_isTree := goodIn_r _ [13, 14, 15, 16, 17, 18, 19, 20, 21, 22, 23, 24, 25, 26, 27, 28, 29, 30, 31, 32, 33] (by decide +kernel) (by decide +kernel)
set_option maxRecDepth 20000 in
theorem gX7_hasCounter_X7_isTree : GoodIn wsX7_hasCounter (wsV RX7 121 RX7 yX7_isTree wsX7_isTree) := goodIn_app (goodIn_of _ (by decide +kernel)) ggX7_hasCounter_X7_isTree
theorem dX7_hasCounter_0 : decode cX7_hasCounter 0 = .ok (.aload_n 0, 1) := by decide +kernel
theorem dX7_hasCounter_1 : decode cX7_hasCounter 1 = .ok (.iload_n 1, 1) := by decide +kernel
theorem dX7_hasCounter_2 : decode cX7_hasCounter 2 = .ok (.invokevirtual 115, 3) := by decide +kernel
theorem dX7_hasCounter_5 : decode cX7_hasCounter 5 = .ok (.ifCond .ne 8, 3) := by decide +kernel
theorem dX7_hasCounter_8 : decode cX7_hasCounter 8 = .ok (.bipush (-101), 2) := by decide +kernel
theorem dX7_hasCounter_10 : decode cX7_hasCounter 10 = .ok (.goto 16, 3) := by decide +kernel
theorem dX7_hasCounter_13 : decode cX7_hasCounter 13 = .ok (.aload_n 0, 1) := by decide +kernel
theorem dX7_hasCounter_14 : decode cX7_hasCounter 14 = .ok (.iload_n 1, 1) := by decide +kernel
theorem dX7_hasCounter_15 : decode cX7_hasCounter 15 = .ok (.invokevirtual 121, 3) := by decide +kernel
theorem dX7_hasCounter_18 : decode cX7_hasCounter 18 = .ok (.ifCond .eq 7, 3) := by decide +kernel
theorem dX7_hasCounter_21 : decode cX7_hasCounter 21 = .ok (.iconst 0, 1) := by decide +kernel
theorem dX7_hasCounter_22 : decode cX7_hasCounter 22 = .ok (.goto 4, 3) := by decide +kernel
theorem dX7_hasCounter_25 : decode cX7_hasCounter 25 = .ok (.iconst 1, 1) := by decide +kernel
theorem dX7_hasCounter_26 : decode cX7_hasCounter 26 = .ok (.ireturn, 1) := by decide +kernel
set_option maxRecDepth 20000 in
theorem ggX7_counterCount_X7_isTree : GoodIn wsX7_counterCount wsX7_isTree := goodIn_r _ [6, 7, 8, 9, 10, 11, 12, 13, 14, 15, 16, 17, 18, 19, 20, 21, 22, 23, 24, 25, 26] (by decide +kernel) (by decide +kernel)
set_option maxRecDepth 20000 in
theorem gX7_counterCount_X7_isTree : GoodIn wsX7_counterCount (wsV RX7 121 RX7 yX7_isTree wsX7_isTree) := goodIn_app (goodIn_of _ (by decide +kernel)) ggX7_counterCount_X7_isTree
theorem dX7_counterCount_0 : decode cX7_counterCount 0 = .ok (.iconst 0, 1) := by decide +kernel
theorem dX7_counterCount_1 : decode cX7_counterCount 1 = .ok (.istore_n 1, 1) := by decide +kernel
theorem dX7_counterCount_2 : decode cX7_counterCount 2 = .ok (.iconst 0, 1) := by decide +kernel
theorem dX7_counterCount_3 : decode cX7_counterCount 3 = .ok (.istore_n 2, 1) := by decide +kernel
theorem dX7_counterCount_4 : decode cX7_counterCount 4 = .ok (.iload_n 2, 1) := by decide +kernel
theorem dX7_counterCount_5 : decode cX7_counterCount 5 = .ok (.aload_n 0, 1) := by decide +kernel
theorem dX7_counterCount_6 : decode cX7_counterCount 6 = .ok (.getfield 95, 3) := by decide +kernel
theorem dX7_counterCount_9 : decode cX7_counterCount 9 = .ok (.if_icmp .ge 25, 3) := by decide +kernel
theorem dX7_counterCount_12 : decode cX7_counterCount 12 = .ok (.iload_n 1, 1) := by decide +kernel
theorem dX7_counterCount_13 : decode cX7_counterCount 13 = .ok (.aload_n 0, 1) := by decide +kernel
theorem dX7_counterCount_14 : decode cX7_counterCount 14 = .ok (.iload_n 2, 1) := by decide +kernel
theorem dX7_counterCount_15 : decode cX7_counterCount 15 = .ok (.invokevirtual 121, 3) := by decide +kernel
theorem dX7_counterCount_18 : decode cX7_counterCount 18 = .ok (.ifCond .eq 7, 3) := by decide +kernel
theorem dX7_counterCount_21 : decode cX7_counterCount 21 = .ok (.iconst 0, 1) := by decide +kernel
theorem dX7_counterCount_22 : decode cX7_counterCount 22 = .ok (.goto 4, 3) := by decide +kernel
theorem dX7_counterCount_25 : decode cX7_counterCount 25 = .ok (.iconst 1, 1) := by decide +kernel
theorem dX7_counterCount_26 : decode cX7_counterCount 26 = .ok (.iadd, 1) := by decide +kernel
theorem dX7_counterCount_27 : decode cX7_counterCount 27 = .ok (.istore_n 1, 1) := by decide +kernel
theorem dX7_counterCount_28 : decode cX7_counterCount 28 = .ok (.iinc 2 1, 3) := by decide +kernel
theorem dX7_counterCount_31 : decode cX7_counterCount 31 = .ok (.goto (-27), 3) := by decide +kernel
theorem dX7_counterCount_34 : decode cX7_counterCount 34 = .ok (.iload_n 1, 1) := by decide +kernel
theorem dX7_counterCount_35 : decode cX7_counterCount 35 = .ok (.ireturn, 1) := by decide +kernel
set_option maxRecDepth 20000 in
theorem ggX7_weightSum_X7_isTree : GoodIn wsX7_weightSum wsX7_isTree := goodIn_r _ [7, 2, 8, 9, 10, 11, 12, 13, 14, 15, 16, 17, 18, 19, 20, 21, 22, 23, 24, 25, 26] (by decide +kernel) (by decide +kernel)
set_option maxRecDepth 20000 in
theorem gX7_weightSum_X7_isTree : GoodIn wsX7_weightSum (wsV RX7 121 RX7 yX7_isTree wsX7_isTree) := goodIn_app (goodIn_of _ (by decide +kernel)) ggX7_weightSum_X7_isTree
