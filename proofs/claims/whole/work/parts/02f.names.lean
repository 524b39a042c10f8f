theorem dX6_executions_80 : decode cX6_executions 80 = .ok (.iload_n 2, 1) := by decide +kernel
theorem dX6_executions_81 : decode cX6_executions 81 = .ok (.aload_n 0, 1) := by decide +kernel
theorem dX6_executions_82 : decode cX6_executions 82 = .ok (.iload_n 3, 1) := by decide +kernel
theorem dX6_executions_83 : decode cX6_executions 83 = .ok (.invokevirtual 159, 3) := by decide +kernel
theorem dX6_executions_86 : decode cX6_executions 86 = .ok (.iadd, 1) := by decide +kernel
theorem dX6_executions_87 : decode cX6_executions 87 = .ok (.istore_n 2, 1) := by decide +kernel
theorem dX6_executions_88 : decode cX6_executions 88 = .ok (.iinc 3 1, 3) := by decide +kernel
theorem dX6_executions_91 : decode cX6_executions 91 = .ok (.goto (-45), 3) := by decide +kernel
theorem dX6_executions_94 : decode cX6_executions 94 = .ok (.iload_n 2, 1) := by decide +kernel
theorem dX6_executions_95 : decode cX6_executions 95 = .ok (.ireturn, 1) := by decide +kernel
set_option maxRecDepth 20000 in
theorem ggX6_dependents_X0_hasEdge : GoodIn wsX6_dependents wsX0_hasEdge := goodIn_r _ [7, 8, 49, 50, 51, 52, 53, 54, 55] (by decide +kernel) (by decide +kernel)
set_option maxRecDepth 20000 in
theorem gX6_dependents_X0_hasEdge : GoodIn wsX6_dependents (wsV RX6 109 RX0 yX0_hasEdge wsX0_hasEdge) := goodIn_app (goodIn_of _ (by decide +kernel)) ggX6_dependents_X0_hasEdge
set_option maxRecDepth 20000 in
theorem ggX6_dependents_X3_isInTree : GoodIn wsX6_dependents wsX3_isInTree := goodIn_r _ [13, 14, 15, 16, 17, 56, 57, 58] (by decide +kernel) (by decide +kernel)
set_option maxRecDepth 20000 in
theorem gX6_dependents_X3_isInTree : GoodIn wsX6_dependents (wsV RX6 182 RX3 yX3_isInTree wsX3_isInTree) := goodIn_app (goodIn_of _ (by decide +kernel)) ggX6_dependents_X3_isInTree
set_option maxRecDepth 20000 in
theorem ggX6_dependents_X0_edges : GoodIn wsX6_dependents wsX0_edges := goodIn_r _ [21, 8, 49, 50, 51, 52, 53, 54, 55] (by decide +kernel) (by decide +kernel)
set_option maxRecDepth 20000 in
theorem gX6_dependents_X0_edges : GoodIn wsX6_dependents (wsV RX6 106 RX0 yX0_edges wsX0_edges) := goodIn_app (goodIn_of _ (by decide +kernel)) ggX6_dependents_X0_edges
set_option maxRecDepth 20000 in
theorem ggX6_dependents_X6_factorOfChord : GoodIn wsX6_dependents wsX6_factorOfChord := goodIn_r _ [25, 2, 1, 26, 27, 28, 6, 29, 30, 31, 4, 5, 7, 8, 32, 33, 34, 35, 36, 37, 38, 39, 12, 40, 41, 15, 16, 17, 42, 43, 44, 45, 46, 47, 48, 49, 50, 51, 52, 53, 54, 55, 56, 57, 58] (by decide +kernel) (by decide +kernel)
set_option maxRecDepth 20000 in
theorem gX6_dependents_X6_factorOfChord : GoodIn wsX6_dependents (wsV RX6 201 RX6 yX6_factorOfChord wsX6_factorOfChord) := goodIn_app (goodIn_of _ (by decide +kernel)) ggX6_dependents_X6_factorOfChord
theorem dX6_dependents_0 : decode cX6_dependents 0 = .ok (.aload_n 0, 1) := by decide +kernel
theorem dX6_dependents_1 : decode cX6_dependents 1 = .ok (.getfield 47, 3) := by decide +kernel
theorem dX6_dependents_4 : decode cX6_dependents 4 = .ok (.iload_n 1, 1) := by decide +kernel
theorem dX6_dependents_5 : decode cX6_dependents 5 = .ok (.invokevirtual 109, 3) := by decide +kernel
theorem dX6_dependents_8 : decode cX6_dependents 8 = .ok (.ifCond .ne 6, 3) := by decide +kernel
theorem dX6_dependents_11 : decode cX6_dependents 11 = .ok (.bipush (-101), 2) := by decide +kernel
theorem dX6_dependents_13 : decode cX6_dependents 13 = .ok (.ireturn, 1) := by decide +kernel
theorem dX6_dependents_14 : decode cX6_dependents 14 = .ok (.aload_n 0, 1) := by decide +kernel
theorem dX6_dependents_15 : decode cX6_dependents 15 = .ok (.getfield 26, 3) := by decide +kernel
theorem dX6_dependents_18 : decode cX6_dependents 18 = .ok (.iload_n 1, 1) := by decide +kernel
theorem dX6_dependents_19 : decode cX6_dependents 19 = .ok (.invokevirtual 182, 3) := by decide +kernel
theorem dX6_dependents_22 : decode cX6_dependents 22 = .ok (.ifCond .eq 6, 3) := by decide +kernel
theorem dX6_dependents_25 : decode cX6_dependents 25 = .ok (.bipush (-104), 2) := by decide +kernel
theorem dX6_dependents_27 : decode cX6_dependents 27 = .ok (.ireturn, 1) := by decide +kernel
theorem dX6_dependents_28 : decode cX6_dependents 28 = .ok (.iconst 1, 1) := by decide +kernel
theorem dX6_dependents_29 : decode cX6_dependents 29 = .ok (.istore_n 2, 1) := by decide +kernel
theorem dX6_dependents_30 : decode cX6_dependents 30 = .ok (.iconst 0, 1) := by decide +kernel
theorem dX6_dependents_31 : decode cX6_dependents 31 = .ok (.istore_n 3, 1) := by decide +kernel
theorem dX6_dependents_32 : decode cX6_dependents 32 = .ok (.iload_n 3, 1) := by decide +kernel
theorem dX6_dependents_33 : decode cX6_dependents 33 = .ok (.aload_n 0, 1) := by decide +kernel
theorem dX6_dependents_34 : decode cX6_dependents 34 = .ok (.getfield 47, 3) := by decide +kernel
theorem dX6_dependents_37 : decode cX6_dependents 37 = .ok (.invokevirtual 106, 3) := by decide +kernel
theorem dX6_dependents_40 : decode cX6_dependents 40 = .ok (.if_icmp .ge 32, 3) := by decide +kernel
theorem dX6_dependents_43 : decode cX6_dependents 43 = .ok (.aload_n 0, 1) := by decide +kernel
theorem dX6_dependents_44 : decode cX6_dependents 44 = .ok (.getfield 26, 3) := by decide +kernel
theorem dX6_dependents_47 : decode cX6_dependents 47 = .ok (.iload_n 3, 1) := by decide +kernel
theorem dX6_dependents_48 : decode cX6_dependents 48 = .ok (.invokevirtual 182, 3) := by decide +kernel
theorem dX6_dependents_51 : decode cX6_dependents 51 = .ok (.ifCond .eq 15, 3) := by decide +kernel
theorem dX6_dependents_54 : decode cX6_dependents 54 = .ok (.aload_n 0, 1) := by decide +kernel
theorem dX6_dependents_55 : decode cX6_dependents 55 = .ok (.iload_n 3, 1) := by decide +kernel
theorem dX6_dependents_56 : decode cX6_dependents 56 = .ok (.iload_n 1, 1) := by decide +kernel
theorem dX6_dependents_57 : decode cX6_dependents 57 = .ok (.invokevirtual 201, 3) := by decide +kernel
theorem dX6_dependents_60 : decode cX6_dependents 60 = .ok (.ifCond .eq 6, 3) := by decide +kernel
theorem dX6_dependents_63 : decode cX6_dependents 63 = .ok (.iinc 2 1, 3) := by decide +kernel
theorem dX6_dependents_66 : decode cX6_dependents 66 = .ok (.iinc 3 1, 3) := by decide +kernel
theorem dX6_dependents_69 : decode cX6_dependents 69 = .ok (.goto (-37), 3) := by decide +kernel
theorem dX6_dependents_72 : decode cX6_dependents 72 = .ok (.iload_n 2, 1) := by decide +kernel
theorem dX6_dependents_73 : decode cX6_dependents 73 = .ok (.ireturn, 1) := by decide +kernel
set_option maxRecDepth 20000 in
theorem ggX6_saturatedCount_X0_edges : GoodIn wsX6_saturatedCount wsX0_edges := goodIn_r _ [6, 7, 41, 42, 43, 44, 45, 46, 47] (by decide +kernel) (by decide +kernel)
set_option maxRecDepth 20000 in
theorem gX6_saturatedCount_X0_edges : GoodIn wsX6_saturatedCount (wsV RX6 106 RX0 yX0_edges wsX0_edges) := goodIn_app (goodIn_of _ (by decide +kernel)) ggX6_saturatedCount_X0_edges
set_option maxRecDepth 20000 in
theorem ggX6_saturatedCount_X6_isSaturatedChord : GoodIn wsX6_saturatedCount wsX6_isSaturatedChord := goodIn_r _ [12, 13, 14, 15, 16, 17, 18, 19, 20, 21, 11, 22, 23, 24, 25, 26, 27, 28, 29, 30, 31, 32, 33, 34, 35, 36, 37, 38, 39, 40, 48, 49, 50, 51, 52, 53, 54, 55] (by decide +kernel) (by decide +kernel)
set_option maxRecDepth 20000 in
theorem gX6_saturatedCount_X6_isSaturatedChord : GoodIn wsX6_saturatedCount (wsV RX6 207 RX6 yX6_isSaturatedChord wsX6_isSaturatedChord) := goodIn_app (goodIn_of _ (by decide +kernel)) ggX6_saturatedCount_X6_isSaturatedChord
theorem dX6_saturatedCount_0 : decode cX6_saturatedCount 0 = .ok (.iconst 0, 1) := by decide +kernel
theorem dX6_saturatedCount_1 : decode cX6_saturatedCount 1 = .ok (.istore_n 1, 1) := by decide +kernel
theorem dX6_saturatedCount_2 : decode cX6_saturatedCount 2 = .ok (.iconst 0, 1) := by decide +kernel
theorem dX6_saturatedCount_3 : decode cX6_saturatedCount 3 = .ok (.istore_n 2, 1) := by decide +kernel
theorem dX6_saturatedCount_4 : decode cX6_saturatedCount 4 = .ok (.iload_n 2, 1) := by decide +kernel
theorem dX6_saturatedCount_5 : decode cX6_saturatedCount 5 = .ok (.aload_n 0, 1) := by decide +kernel
theorem dX6_saturatedCount_6 : decode cX6_saturatedCount 6 = .ok (.getfield 47, 3) := by decide +kernel
theorem dX6_saturatedCount_9 : decode cX6_saturatedCount 9 = .ok (.invokevirtual 106, 3) := by decide +kernel
theorem dX6_saturatedCount_12 : decode cX6_saturatedCount 12 = .ok (.if_icmp .ge 20, 3) := by decide +kernel
theorem dX6_saturatedCount_15 : decode cX6_saturatedCount 15 = .ok (.aload_n 0, 1) := by decide +kernel
theorem dX6_saturatedCount_16 : decode cX6_saturatedCount 16 = .ok (.iload_n 2, 1) := by decide +kernel
theorem dX6_saturatedCount_17 : decode cX6_saturatedCount 17 = .ok (.invokevirtual 207, 3) := by decide +kernel
theorem dX6_saturatedCount_20 : decode cX6_saturatedCount 20 = .ok (.ifCond .eq 6, 3) := by decide +kernel
theorem dX6_saturatedCount_23 : decode cX6_saturatedCount 23 = .ok (.iinc 1 1, 3) := by decide +kernel
theorem dX6_saturatedCount_26 : decode cX6_saturatedCount 26 = .ok (.iinc 2 1, 3) := by decide +kernel
theorem dX6_saturatedCount_29 : decode cX6_saturatedCount 29 = .ok (.goto (-25), 3) := by decide +kernel
theorem dX6_saturatedCount_32 : decode cX6_saturatedCount 32 = .ok (.iload_n 1, 1) := by decide +kernel
theorem dX6_saturatedCount_33 : decode cX6_saturatedCount 33 = .ok (.ireturn, 1) := by decide +kernel
set_option maxRecDepth 20000 in
theorem ggX6_presentBlock_X4_present : GoodIn wsX6_presentBlock wsX4_present := goodIn_r _ [6, 7, 15, 16, 17, 18, 19] (by decide +kernel) (by decide +kernel)
set_option maxRecDepth 20000 in
theorem gX6_presentBlock_X4_present : GoodIn wsX6_presentBlock (wsV RX6 142 RX4 yX4_present wsX4_present) := goodIn_app (goodIn_of _ (by decide +kernel)) ggX6_presentBlock_X4_present
theorem dX6_presentBlock_0 : decode cX6_presentBlock 0 = .ok (.aload_n 0, 1) := by decide +kernel
theorem dX6_presentBlock_1 : decode cX6_presentBlock 1 = .ok (.getfield 33, 3) := by decide +kernel
theorem dX6_presentBlock_4 : decode cX6_presentBlock 4 = .ok (.invokevirtual 142, 3) := by decide +kernel
theorem dX6_presentBlock_7 : decode cX6_presentBlock 7 = .ok (.ireturn, 1) := by decide +kernel
set_option maxRecDepth 20000 in
theorem ggX6_finishedRuns_X4_finished : GoodIn wsX6_finishedRuns wsX4_finished := goodIn_r _ [6, 7, 15, 16, 17, 18, 19] (by decide +kernel) (by decide +kernel)
set_option maxRecDepth 20000 in
theorem gX6_finishedRuns_X4_finished : GoodIn wsX6_finishedRuns (wsV RX6 149 RX4 yX4_finished wsX4_finished) := goodIn_app (goodIn_of _ (by decide +kernel)) ggX6_finishedRuns_X4_finished
theorem dX6_finishedRuns_0 : decode cX6_finishedRuns 0 = .ok (.aload_n 0, 1) := by decide +kernel
theorem dX6_finishedRuns_1 : decode cX6_finishedRuns 1 = .ok (.getfield 33, 3) := by decide +kernel
theorem dX6_finishedRuns_4 : decode cX6_finishedRuns 4 = .ok (.invokevirtual 149, 3) := by decide +kernel
theorem dX6_finishedRuns_7 : decode cX6_finishedRuns 7 = .ok (.ireturn, 1) := by decide +kernel
theorem dX6_takeDraft_0 : decode cX6_takeDraft 0 = .ok (.aload_n 0, 1) := by decide +kernel
theorem dX6_takeDraft_1 : decode cX6_takeDraft 1 = .ok (.getfield 51, 3) := by decide +kernel
theorem dX6_takeDraft_4 : decode cX6_takeDraft 4 = .ok (.astore_n 1, 1) := by decide +kernel
theorem dX6_takeDraft_5 : decode cX6_takeDraft 5 = .ok (.aload_n 0, 1) := by decide +kernel
theorem dX6_takeDraft_6 : decode cX6_takeDraft 6 = .ok (.aload_n 0, 1) := by decide +kernel
theorem dX6_takeDraft_7 : decode cX6_takeDraft 7 = .ok (.getfield 47, 3) := by decide +kernel
theorem dX6_takeDraft_10 : decode cX6_takeDraft 10 = .ok (.putfield 51, 3) := by decide +kernel
theorem dX6_takeDraft_13 : decode cX6_takeDraft 13 = .ok (.aload_n 0, 1) := by decide +kernel
theorem dX6_takeDraft_14 : decode cX6_takeDraft 14 = .ok (.aload_n 1, 1) := by decide +kernel
theorem dX6_takeDraft_15 : decode cX6_takeDraft 15 = .ok (.putfield 47, 3) := by decide +kernel
theorem dX6_takeDraft_18 : decode cX6_takeDraft 18 = .ok (.return_, 1) := by decide +kernel
set_option maxRecDepth 20000 in
theorem ggX6_chosenEdge_X4_present : GoodIn wsX6_chosenEdge wsX4_present := goodIn_r _ [10, 11, 36, 37, 38, 39, 40] (by decide +kernel) (by decide +kernel)
set_option maxRecDepth 20000 in
theorem gX6_chosenEdge_X4_present : GoodIn wsX6_chosenEdge (wsV RX6 142 RX4 yX4_present wsX4_present) := goodIn_app (goodIn_of _ (by decide +kernel)) ggX6_chosenEdge_X4_present
set_option maxRecDepth 20000 in
theorem ggX6_chosenEdge_X0_leavingCount : GoodIn wsX6_chosenEdge wsX0_leavingCount := goodIn_r _ [16, 17, 18, 19, 20, 15, 21, 22, 41, 42, 43, 44, 45, 46, 47] (by decide +kernel) (by decide +kernel)
set_option maxRecDepth 20000 in
theorem gX6_chosenEdge_X0_leavingCount : GoodIn wsX6_chosenEdge (wsV RX6 216 RX0 yX0_leavingCount wsX0_leavingCount) := goodIn_app (goodIn_of _ (by decide +kernel)) ggX6_chosenEdge_X0_leavingCount
set_option maxRecDepth 20000 in
theorem ggX6_chosenEdge_X0_leavingEdge : GoodIn wsX6_chosenEdge wsX0_leavingEdge := goodIn_r _ [26, 27, 28, 13, 14, 15, 16, 17, 18, 19, 20, 21, 22, 41, 42, 43, 44, 45, 46, 47] (by decide +kernel) (by decide +kernel)
set_option maxRecDepth 20000 in
theorem gX6_chosenEdge_X0_leavingEdge : GoodIn wsX6_chosenEdge (wsV RX6 219 RX0 yX0_leavingEdge wsX0_leavingEdge) := goodIn_app (goodIn_of _ (by decide +kernel)) ggX6_chosenEdge_X0_leavingEdge
theorem dX6_chosenEdge_0 : decode cX6_chosenEdge 0 = .ok (.ldc2_w 210, 3) := by decide +kernel
theorem dX6_chosenEdge_3 : decode cX6_chosenEdge 3 = .ok (.iload_n 1, 1) := by decide +kernel
theorem dX6_chosenEdge_4 : decode cX6_chosenEdge 4 = .ok (.i2l, 1) := by decide +kernel
theorem dX6_chosenEdge_5 : decode cX6_chosenEdge 5 = .ok (.lmul, 1) := by decide +kernel
theorem dX6_chosenEdge_6 : decode cX6_chosenEdge 6 = .ok (.ldc2_w 212, 3) := by decide +kernel
theorem dX6_chosenEdge_9 : decode cX6_chosenEdge 9 = .ok (.iload_n 2, 1) := by decide +kernel
theorem dX6_chosenEdge_10 : decode cX6_chosenEdge 10 = .ok (.i2l, 1) := by decide +kernel
theorem dX6_chosenEdge_11 : decode cX6_chosenEdge 11 = .ok (.lmul, 1) := by decide +kernel
theorem dX6_chosenEdge_12 : decode cX6_chosenEdge 12 = .ok (.ladd, 1) := by decide +kernel
theorem dX6_chosenEdge_13 : decode cX6_chosenEdge 13 = .ok (.lconst 1, 1) := by decide +kernel
theorem dX6_chosenEdge_14 : decode cX6_chosenEdge 14 = .ok (.ladd, 1) := by decide +kernel
theorem dX6_chosenEdge_15 : decode cX6_chosenEdge 15 = .ok (.lstore_n 3, 1) := by decide +kernel
theorem dX6_chosenEdge_16 : decode cX6_chosenEdge 16 = .ok (.lload_n 3, 1) := by decide +kernel
theorem dX6_chosenEdge_17 : decode cX6_chosenEdge 17 = .ok (.lload_n 3, 1) := by decide +kernel
theorem dX6_chosenEdge_18 : decode cX6_chosenEdge 18 = .ok (.lmul, 1) := by decide +kernel
theorem dX6_chosenEdge_19 : decode cX6_chosenEdge 19 = .ok (.ldc2_w 214, 3) := by decide +kernel
theorem dX6_chosenEdge_22 : decode cX6_chosenEdge 22 = .ok (.lrem, 1) := by decide +kernel
theorem dX6_chosenEdge_23 : decode cX6_chosenEdge 23 = .ok (.lstore 5, 2) := by decide +kernel
theorem dX6_chosenEdge_25 : decode cX6_chosenEdge 25 = .ok (.aload_n 0, 1) := by decide +kernel
theorem dX6_chosenEdge_26 : decode cX6_chosenEdge 26 = .ok (.getfield 47, 3) := by decide +kernel
theorem dX6_chosenEdge_29 : decode cX6_chosenEdge 29 = .ok (.aload_n 0, 1) := by decide +kernel
theorem dX6_chosenEdge_30 : decode cX6_chosenEdge 30 = .ok (.getfield 33, 3) := by decide +kernel
theorem dX6_chosenEdge_33 : decode cX6_chosenEdge 33 = .ok (.invokevirtual 142, 3) := by decide +kernel
theorem dX6_chosenEdge_36 : decode cX6_chosenEdge 36 = .ok (.invokevirtual 216, 3) := by decide +kernel
theorem dX6_chosenEdge_39 : decode cX6_chosenEdge 39 = .ok (.istore 7, 2) := by decide +kernel
theorem dX6_chosenEdge_41 : decode cX6_chosenEdge 41 = .ok (.iload 7, 2) := by decide +kernel
theorem dX6_chosenEdge_43 : decode cX6_chosenEdge 43 = .ok (.ifCond .gt 5, 3) := by decide +kernel
theorem dX6_chosenEdge_46 : decode cX6_chosenEdge 46 = .ok (.iconst (-1), 1) := by decide +kernel
theorem dX6_chosenEdge_47 : decode cX6_chosenEdge 47 = .ok (.ireturn, 1) := by decide +kernel
theorem dX6_chosenEdge_48 : decode cX6_chosenEdge 48 = .ok (.aload_n 0, 1) := by decide +kernel
theorem dX6_chosenEdge_49 : decode cX6_chosenEdge 49 = .ok (.getfield 47, 3) := by decide +kernel
theorem dX6_chosenEdge_52 : decode cX6_chosenEdge 52 = .ok (.aload_n 0, 1) := by decide +kernel
theorem dX6_chosenEdge_53 : decode cX6_chosenEdge 53 = .ok (.getfield 33, 3) := by decide +kernel
theorem dX6_chosenEdge_56 : decode cX6_chosenEdge 56 = .ok (.invokevirtual 142, 3) := by decide +kernel
theorem dX6_chosenEdge_59 : decode cX6_chosenEdge 59 = .ok (.lload 5, 2) := by decide +kernel
theorem dX6_chosenEdge_61 : decode cX6_chosenEdge 61 = .ok (.iload 7, 2) := by decide +kernel
theorem dX6_chosenEdge_63 : decode cX6_chosenEdge 63 = .ok (.i2l, 1) := by decide +kernel
theorem dX6_chosenEdge_64 : decode cX6_chosenEdge 64 = .ok (.lrem, 1) := by decide +kernel
theorem dX6_chosenEdge_65 : decode cX6_chosenEdge 65 = .ok (.l2i, 1) := by decide +kernel
theorem dX6_chosenEdge_66 : decode cX6_chosenEdge 66 = .ok (.invokevirtual 219, 3) := by decide +kernel
theorem dX6_chosenEdge_69 : decode cX6_chosenEdge 69 = .ok (.ireturn, 1) := by decide +kernel
set_option maxRecDepth 20000 in
theorem ggX6_factorOfChord_X0_source : GoodIn wsX6_factorOfChord wsX0_source := goodIn_r _ [7, 8, 9, 10, 11, 6, 12, 13, 35, 36, 37, 38, 39, 40, 41] (by decide +kernel) (by decide +kernel)
set_option maxRecDepth 20000 in
theorem gX6_factorOfChord_X0_source : GoodIn wsX6_factorOfChord (wsV RX6 139 RX0 yX0_source wsX0_source) := goodIn_app (goodIn_of _ (by decide +kernel)) ggX6_factorOfChord_X0_source
set_option maxRecDepth 20000 in
theorem ggX6_factorOfChord_X0_target : GoodIn wsX6_factorOfChord wsX0_target := goodIn_r _ [17, 18, 9, 10, 11, 6, 12, 13, 35, 36, 37, 38, 39, 40, 41] (by decide +kernel) (by decide +kernel)
set_option maxRecDepth 20000 in
theorem gX6_factorOfChord_X0_target : GoodIn wsX6_factorOfChord (wsV RX6 179 RX0 yX0_target wsX0_target) := goodIn_app (goodIn_of _ (by decide +kernel)) ggX6_factorOfChord_X0_target
set_option maxRecDepth 20000 in
theorem ggX6_factorOfChord_X3_factor : GoodIn wsX6_factorOfChord wsX3_factor := goodIn_r _ [23, 24, 25, 26, 27, 42, 43, 44] (by decide +kernel) (by decide +kernel)
set_option maxRecDepth 20000 in
theorem gX6_factorOfChord_X3_factor : GoodIn wsX6_factorOfChord (wsV RX6 222 RX3 yX3_factor wsX3_factor) := goodIn_app (goodIn_of _ (by decide +kernel)) ggX6_factorOfChord_X3_factor
theorem dX6_factorOfChord_0 : decode cX6_factorOfChord 0 = .ok (.aload_n 0, 1) := by decide +kernel
theorem dX6_factorOfChord_1 : decode cX6_factorOfChord 1 = .ok (.getfield 26, 3) := by decide +kernel
theorem dX6_factorOfChord_4 : decode cX6_factorOfChord 4 = .ok (.iload_n 1, 1) := by decide +kernel
theorem dX6_factorOfChord_5 : decode cX6_factorOfChord 5 = .ok (.aload_n 0, 1) := by decide +kernel
theorem dX6_factorOfChord_6 : decode cX6_factorOfChord 6 = .ok (.getfield 47, 3) := by decide +kernel
theorem dX6_factorOfChord_9 : decode cX6_factorOfChord 9 = .ok (.iload_n 2, 1) := by decide +kernel
theorem dX6_factorOfChord_10 : decode cX6_factorOfChord 10 = .ok (.invokevirtual 139, 3) := by decide +kernel
theorem dX6_factorOfChord_13 : decode cX6_factorOfChord 13 = .ok (.aload_n 0, 1) := by decide +kernel
theorem dX6_factorOfChord_14 : decode cX6_factorOfChord 14 = .ok (.getfield 47, 3) := by decide +kernel
theorem dX6_factorOfChord_17 : decode cX6_factorOfChord 17 = .ok (.iload_n 2, 1) := by decide +kernel
theorem dX6_factorOfChord_18 : decode cX6_factorOfChord 18 = .ok (.invokevirtual 179, 3) := by decide +kernel
theorem dX6_factorOfChord_21 : decode cX6_factorOfChord 21 = .ok (.invokevirtual 222, 3) := by decide +kernel
theorem dX6_factorOfChord_24 : decode cX6_factorOfChord 24 = .ok (.ireturn, 1) := by decide +kernel
set_option maxRecDepth 20000 in
theorem ggX6_isSaturatedChord_X3_isInTree : GoodIn wsX6_isSaturatedChord wsX3_isInTree := goodIn_r _ [7, 8, 9, 10, 11, 30, 31, 32] (by decide +kernel) (by decide +kernel)
set_option maxRecDepth 20000 in
theorem gX6_isSaturatedChord_X3_isInTree : GoodIn wsX6_isSaturatedChord (wsV RX6 182 RX3 yX3_isInTree wsX3_isInTree) := goodIn_app (goodIn_of _ (by decide +kernel)) ggX6_isSaturatedChord_X3_isInTree
set_option maxRecDepth 20000 in
theorem ggX6_isSaturatedChord_X4_isAtLimit : GoodIn wsX6_isSaturatedChord wsX4_isAtLimit := goodIn_r _ [16, 17, 18, 19, 20, 15, 21, 22, 33, 34, 35, 36, 37] (by decide +kernel) (by decide +kernel)
set_option maxRecDepth 20000 in
theorem gX6_isSaturatedChord_X4_isAtLimit : GoodIn wsX6_isSaturatedChord (wsV RX6 226 RX4 yX4_isAtLimit wsX4_isAtLimit) := goodIn_app (goodIn_of _ (by decide +kernel)) ggX6_isSaturatedChord_X4_isAtLimit
theorem dX6_isSaturatedChord_0 : decode cX6_isSaturatedChord 0 = .ok (.aload_n 0, 1) := by decide +kernel
theorem dX6_isSaturatedChord_1 : decode cX6_isSaturatedChord 1 = .ok (.getfield 26, 3) := by decide +kernel
theorem dX6_isSaturatedChord_4 : decode cX6_isSaturatedChord 4 = .ok (.iload_n 1, 1) := by decide +kernel
theorem dX6_isSaturatedChord_5 : decode cX6_isSaturatedChord 5 = .ok (.invokevirtual 182, 3) := by decide +kernel
theorem dX6_isSaturatedChord_8 : decode cX6_isSaturatedChord 8 = .ok (.ifCond .ne 18, 3) := by decide +kernel
theorem dX6_isSaturatedChord_11 : decode cX6_isSaturatedChord 11 = .ok (.aload_n 0, 1) := by decide +kernel
theorem dX6_isSaturatedChord_12 : decode cX6_isSaturatedChord 12 = .ok (.getfield 33, 3) := by decide +kernel
theorem dX6_isSaturatedChord_15 : decode cX6_isSaturatedChord 15 = .ok (.iload_n 1, 1) := by decide +kernel
theorem dX6_isSaturatedChord_16 : decode cX6_isSaturatedChord 16 = .ok (.invokevirtual 226, 3) := by decide +kernel
theorem dX6_isSaturatedChord_19 : decode cX6_isSaturatedChord 19 = .ok (.ifCond .eq 7, 3) := by decide +kernel
theorem dX6_isSaturatedChord_22 : decode cX6_isSaturatedChord 22 = .ok (.iconst 1, 1) := by decide +kernel
theorem dX6_isSaturatedChord_23 : decode cX6_isSaturatedChord 23 = .ok (.goto 4, 3) := by decide +kernel
theorem dX6_isSaturatedChord_26 : decode cX6_isSaturatedChord 26 = .ok (.iconst 0, 1) := by decide +kernel
theorem dX6_isSaturatedChord_27 : decode cX6_isSaturatedChord 27 = .ok (.ireturn, 1) := by decide +kernel
set_option maxRecDepth 20000 in
theorem ggX6_isUncertain_X3_isInTree : GoodIn wsX6_isUncertain wsX3_isInTree := goodIn_r _ [7, 8, 9, 10, 11, 64, 65, 66] (by decide +kernel) (by decide +kernel)
set_option maxRecDepth 20000 in
theorem gX6_isUncertain_X3_isInTree : GoodIn wsX6_isUncertain (wsV RX6 182 RX3 yX3_isInTree wsX3_isInTree) := goodIn_app (goodIn_of _ (by decide +kernel)) ggX6_isUncertain_X3_isInTree
set_option maxRecDepth 20000 in
theorem ggX6_isUncertain_X6_isSaturatedChord : GoodIn wsX6_isUncertain wsX6_isSaturatedChord := goodIn_r _ [15, 1, 16, 3, 4, 5, 6, 7, 8, 9, 10, 11, 17, 18, 19, 20, 21, 22, 23, 24, 25, 26, 27, 57, 58, 59, 60, 61, 62, 63, 64, 65, 66, 67, 68, 69, 70, 71] (by decide +kernel) (by decide +kernel)
set_option maxRecDepth 20000 in
theorem gX6_isUncertain_X6_isSaturatedChord : GoodIn wsX6_isUncertain (wsV RX6 207 RX6 yX6_isSaturatedChord wsX6_isSaturatedChord) := goodIn_app (goodIn_of _ (by decide +kernel)) ggX6_isUncertain_X6_isSaturatedChord
set_option maxRecDepth 20000 in
theorem ggX6_isUncertain_X0_edges : GoodIn wsX6_isUncertain wsX0_edges := goodIn_r _ [32, 33, 72, 73, 74, 75, 76, 77, 78] (by decide +kernel) (by decide +kernel)
set_option maxRecDepth 20000 in
theorem gX6_isUncertain_X0_edges : GoodIn wsX6_isUncertain (wsV RX6 106 RX0 yX0_edges wsX0_edges) := goodIn_app (goodIn_of _ (by decide +kernel)) ggX6_isUncertain_X0_edges
set_option maxRecDepth 20000 in
theorem ggX6_isUncertain_X6_factorOfChord : GoodIn wsX6_isUncertain wsX6_factorOfChord := goodIn_r _ [37, 1, 2, 38, 39, 40, 31, 41, 42, 43, 44, 45, 46, 33, 47, 48, 49, 50, 51, 52, 53, 54, 6, 55, 56, 9, 10, 11, 57, 58, 59, 60, 61, 62, 63, 72, 73, 74, 75, 76, 77, 78, 64, 65, 66] (by decide +kernel) (by decide +kernel)
set_option maxRecDepth 20000 in
theorem gX6_isUncertain_X6_factorOfChord : GoodIn wsX6_isUncertain (wsV RX6 201 RX6 yX6_factorOfChord wsX6_factorOfChord) := goodIn_app (goodIn_of _ (by decide +kernel)) ggX6_isUncertain_X6_factorOfChord
theorem dX6_isUncertain_0 : decode cX6_isUncertain 0 = .ok (.aload_n 0, 1) := by decide +kernel
theorem dX6_isUncertain_1 : decode cX6_isUncertain 1 = .ok (.getfield 26, 3) := by decide +kernel
theorem dX6_isUncertain_4 : decode cX6_isUncertain 4 = .ok (.iload_n 1, 1) := by decide +kernel
theorem dX6_isUncertain_5 : decode cX6_isUncertain 5 = .ok (.invokevirtual 182, 3) := by decide +kernel
theorem dX6_isUncertain_8 : decode cX6_isUncertain 8 = .ok (.ifCond .ne 9, 3) := by decide +kernel
theorem dX6_isUncertain_11 : decode cX6_isUncertain 11 = .ok (.aload_n 0, 1) := by decide +kernel
theorem dX6_isUncertain_12 : decode cX6_isUncertain 12 = .ok (.iload_n 1, 1) := by decide +kernel
theorem dX6_isUncertain_13 : decode cX6_isUncertain 13 = .ok (.invokevirtual 207, 3) := by decide +kernel
theorem dX6_isUncertain_16 : decode cX6_isUncertain 16 = .ok (.ireturn, 1) := by decide +kernel
theorem dX6_isUncertain_17 : decode cX6_isUncertain 17 = .ok (.iconst 0, 1) := by decide +kernel
theorem dX6_isUncertain_18 : decode cX6_isUncertain 18 = .ok (.istore_n 2, 1) := by decide +kernel
theorem dX6_isUncertain_19 : decode cX6_isUncertain 19 = .ok (.iload_n 2, 1) := by decide +kernel
theorem dX6_isUncertain_20 : decode cX6_isUncertain 20 = .ok (.aload_n 0, 1) := by decide +kernel
theorem dX6_isUncertain_21 : decode cX6_isUncertain 21 = .ok (.getfield 47, 3) := by decide +kernel
theorem dX6_isUncertain_24 : decode cX6_isUncertain 24 = .ok (.invokevirtual 106, 3) := by decide +kernel
theorem dX6_isUncertain_27 : decode cX6_isUncertain 27 = .ok (.if_icmp .ge 28, 3) := by decide +kernel
theorem dX6_isUncertain_30 : decode cX6_isUncertain 30 = .ok (.aload_n 0, 1) := by decide +kernel
theorem dX6_isUncertain_31 : decode cX6_isUncertain 31 = .ok (.iload_n 2, 1) := by decide +kernel
theorem dX6_isUncertain_32 : decode cX6_isUncertain 32 = .ok (.invokevirtual 207, 3) := by decide +kernel
theorem dX6_isUncertain_35 : decode cX6_isUncertain 35 = .ok (.ifCond .eq 14, 3) := by decide +kernel
theorem dX6_isUncertain_38 : decode cX6_isUncertain 38 = .ok (.aload_n 0, 1) := by decide +kernel
theorem dX6_isUncertain_39 : decode cX6_isUncertain 39 = .ok (.iload_n 1, 1) := by decide +kernel
theorem dX6_isUncertain_40 : decode cX6_isUncertain 40 = .ok (.iload_n 2, 1) := by decide +kernel
theorem dX6_isUncertain_41 : decode cX6_isUncertain 41 = .ok (.invokevirtual 201, 3) := by decide +kernel
theorem dX6_isUncertain_44 : decode cX6_isUncertain 44 = .ok (.ifCond .eq 5, 3) := by decide +kernel
theorem dX6_isUncertain_47 : decode cX6_isUncertain 47 = .ok (.iconst 1, 1) := by decide +kernel
theorem dX6_isUncertain_48 : decode cX6_isUncertain 48 = .ok (.ireturn, 1) := by decide +kernel
theorem dX6_isUncertain_49 : decode cX6_isUncertain 49 = .ok (.iinc 2 1, 3) := by decide +kernel
theorem dX6_isUncertain_52 : decode cX6_isUncertain 52 = .ok (.goto (-33), 3) := by decide +kernel
theorem dX6_isUncertain_55 : decode cX6_isUncertain 55 = .ok (.iconst 0, 1) := by decide +kernel
theorem dX6_isUncertain_56 : decode cX6_isUncertain 56 = .ok (.ireturn, 1) := by decide +kernel
set_option maxRecDepth 20000 in
theorem ggX6_anyIsUncertain_X0_edges : GoodIn wsX6_anyIsUncertain wsX0_edges := goodIn_r _ [6, 7, 68, 69, 70, 71, 72, 73, 74] (by decide +kernel) (by decide +kernel)
set_option maxRecDepth 20000 in
theorem gX6_anyIsUncertain_X0_edges : GoodIn wsX6_anyIsUncertain (wsV RX6 106 RX0 yX0_edges wsX0_edges) := goodIn_app (goodIn_of _ (by decide +kernel)) ggX6_anyIsUncertain_X0_edges
set_option maxRecDepth 20000 in
theorem ggX6_anyIsUncertain_X6_isUncertain : GoodIn wsX6_anyIsUncertain wsX6_isUncertain := goodIn_r _ [12, 13, 1, 14, 15, 16, 17, 18, 19, 20, 11, 21, 22, 23, 24, 25, 26, 27, 28, 29, 30, 31, 32, 33, 34, 35, 36, 37, 2, 3, 4, 5, 6, 7, 38, 39, 40, 41, 42, 43, 44, 45, 46, 47, 48, 49, 50, 51, 52, 53, 54, 55, 56, 57, 58, 59, 60, 61, 62, 63, 64, 65, 66, 67, 75, 76, 77, 78, 79, 80, 81, 82, 68, 69, 70, 71, 72, 73, 74] (by decide +kernel) (by decide +kernel)
set_option maxRecDepth 20000 in
theorem gX6_anyIsUncertain_X6_isUncertain : GoodIn wsX6_anyIsUncertain (wsV RX6 198 RX6 yX6_isUncertain wsX6_isUncertain) := goodIn_app (goodIn_of _ (by decide +kernel)) ggX6_anyIsUncertain_X6_isUncertain
theorem dX6_anyIsUncertain_0 : decode cX6_anyIsUncertain 0 = .ok (.iconst 0, 1) := by decide +kernel
theorem dX6_anyIsUncertain_1 : decode cX6_anyIsUncertain 1 = .ok (.istore_n 1, 1) := by decide +kernel
theorem dX6_anyIsUncertain_2 : decode cX6_anyIsUncertain 2 = .ok (.iload_n 1, 1) := by decide +kernel
theorem dX6_anyIsUncertain_3 : decode cX6_anyIsUncertain 3 = .ok (.aload_n 0, 1) := by decide +kernel
theorem dX6_anyIsUncertain_4 : decode cX6_anyIsUncertain 4 = .ok (.getfield 47, 3) := by decide +kernel
theorem dX6_anyIsUncertain_7 : decode cX6_anyIsUncertain 7 = .ok (.invokevirtual 106, 3) := by decide +kernel
theorem dX6_anyIsUncertain_10 : decode cX6_anyIsUncertain 10 = .ok (.if_icmp .ge 19, 3) := by decide +kernel
theorem dX6_anyIsUncertain_13 : decode cX6_anyIsUncertain 13 = .ok (.aload_n 0, 1) := by decide +kernel
theorem dX6_anyIsUncertain_14 : decode cX6_anyIsUncertain 14 = .ok (.iload_n 1, 1) := by decide +kernel
theorem dX6_anyIsUncertain_15 : decode cX6_anyIsUncertain 15 = .ok (.invokevirtual 198, 3) := by decide +kernel
theorem dX6_anyIsUncertain_18 : decode cX6_anyIsUncertain 18 = .ok (.ifCond .eq 5, 3) := by decide +kernel
theorem dX6_anyIsUncertain_21 : decode cX6_anyIsUncertain 21 = .ok (.iconst 1, 1) := by decide +kernel
theorem dX6_anyIsUncertain_22 : decode cX6_anyIsUncertain 22 = .ok (.ireturn, 1) := by decide +kernel
theorem dX6_anyIsUncertain_23 : decode cX6_anyIsUncertain 23 = .ok (.iinc 1 1, 3) := by decide +kernel
theorem dX6_anyIsUncertain_26 : decode cX6_anyIsUncertain 26 = .ok (.goto (-24), 3) := by decide +kernel
theorem dX6_anyIsUncertain_29 : decode cX6_anyIsUncertain 29 = .ok (.iconst 0, 1) := by decide +kernel
theorem dX6_anyIsUncertain_30 : decode cX6_anyIsUncertain 30 = .ok (.ireturn, 1) := by decide +kernel
set_option maxRecDepth 20000 in
theorem ggX6_reconstructedCount_X3_isInTree : GoodIn wsX6_reconstructedCount wsX3_isInTree := goodIn_r _ [8, 9, 10, 11, 12, 69, 70, 71] (by decide +kernel) (by decide +kernel)
set_option maxRecDepth 20000 in
theorem gX6_reconstructedCount_X3_isInTree : GoodIn wsX6_reconstructedCount (wsV RX6 182 RX3 yX3_isInTree wsX3_isInTree) := goodIn_app (goodIn_of _ (by decide +kernel)) ggX6_reconstructedCount_X3_isInTree
set_option maxRecDepth 20000 in
theorem ggX6_reconstructedCount_X4_counterValue : GoodIn wsX6_reconstructedCount wsX4_counterValue := goodIn_r _ [17, 18, 72, 73, 74, 75, 76] (by decide +kernel) (by decide +kernel)
set_option maxRecDepth 20000 in
theorem gX6_reconstructedCount_X4_counterValue : GoodIn wsX6_reconstructedCount (wsV RX6 192 RX4 yX4_counterValue wsX4_counterValue) := goodIn_app (goodIn_of _ (by decide +kernel)) ggX6_reconstructedCount_X4_counterValue
set_option maxRecDepth 20000 in
theorem ggX6_reconstructedCount_X6_openEdgeShare : GoodIn wsX6_reconstructedCount wsX6_openEdgeShare := goodIn_r _ [22, 2, 1, 3, 23, 24, 25, 16, 26, 27, 28, 29, 30, 31, 32, 33, 34, 35, 36, 7, 37, 38, 10, 11, 12, 62, 63, 64, 65, 66, 67, 68, 72, 73, 74, 75, 76, 77, 78, 79, 80, 81, 82, 83, 69, 70, 71] (by decide +kernel) (by decide +kernel)
set_option maxRecDepth 20000 in
theorem gX6_reconstructedCount_X6_openEdgeShare : GoodIn wsX6_reconstructedCount (wsV RX6 229 RX6 yX6_openEdgeShare wsX6_openEdgeShare) := goodIn_app (goodIn_of _ (by decide +kernel)) ggX6_reconstructedCount_X6_openEdgeShare
set_option maxRecDepth 20000 in
theorem ggX6_reconstructedCount_X0_edges : GoodIn wsX6_reconstructedCount wsX0_edges := goodIn_r _ [42, 43, 77, 78, 79, 80, 81, 82, 83] (by decide +kernel) (by decide +kernel)
set_option maxRecDepth 20000 in
theorem gX6_reconstructedCount_X0_edges : GoodIn wsX6_reconstructedCount (wsV RX6 106 RX0 yX0_edges wsX0_edges) := goodIn_app (goodIn_of _ (by decide +kernel)) ggX6_reconstructedCount_X0_edges
set_option maxRecDepth 20000 in
theorem ggX6_reconstructedCount_X6_factorOfChord : GoodIn wsX6_reconstructedCount wsX6_factorOfChord := goodIn_r _ [47, 1, 3, 48, 49, 50, 31, 51, 52, 53, 54, 55, 56, 43, 57, 58, 59, 60, 61, 34, 35, 36, 7, 37, 38, 10, 11, 12, 62, 63, 64, 65, 66, 67, 68, 77, 78, 79, 80, 81, 82, 83, 69, 70, 71] (by decide +kernel) (by decide +kernel)
set_option maxRecDepth 20000 in
theorem gX6_reconstructedCount_X6_factorOfChord : GoodIn wsX6_reconstructedCount (wsV RX6 201 RX6 yX6_factorOfChord wsX6_factorOfChord) := goodIn_app (goodIn_of _ (by decide +kernel)) ggX6_reconstructedCount_X6_factorOfChord
theorem dX6_reconstructedCount_0 : decode cX6_reconstructedCount 0 = .ok (.aload_n 0, 1) := by decide +kernel
theorem dX6_reconstructedCount_1 : decode cX6_reconstructedCount 1 = .ok (.getfield 26, 3) := by decide +kernel
theorem dX6_reconstructedCount_4 : decode cX6_reconstructedCount 4 = .ok (.iload_n 1, 1) := by decide +kernel
theorem dX6_reconstructedCount_5 : decode cX6_reconstructedCount 5 = .ok (.invokevirtual 182, 3) := by decide +kernel
theorem dX6_reconstructedCount_8 : decode cX6_reconstructedCount 8 = .ok (.ifCond .ne 12, 3) := by decide +kernel
theorem dX6_reconstructedCount_11 : decode cX6_reconstructedCount 11 = .ok (.aload_n 0, 1) := by decide +kernel
theorem dX6_reconstructedCount_12 : decode cX6_reconstructedCount 12 = .ok (.getfield 33, 3) := by decide +kernel
theorem dX6_reconstructedCount_15 : decode cX6_reconstructedCount 15 = .ok (.iload_n 1, 1) := by decide +kernel
theorem dX6_reconstructedCount_16 : decode cX6_reconstructedCount 16 = .ok (.invokevirtual 192, 3) := by decide +kernel
theorem dX6_reconstructedCount_19 : decode cX6_reconstructedCount 19 = .ok (.ireturn, 1) := by decide +kernel
theorem dX6_reconstructedCount_20 : decode cX6_reconstructedCount 20 = .ok (.aload_n 0, 1) := by decide +kernel
theorem dX6_reconstructedCount_21 : decode cX6_reconstructedCount 21 = .ok (.iload_n 1, 1) := by decide +kernel
theorem dX6_reconstructedCount_22 : decode cX6_reconstructedCount 22 = .ok (.invokevirtual 229, 3) := by decide +kernel
theorem dX6_reconstructedCount_25 : decode cX6_reconstructedCount 25 = .ok (.istore_n 2, 1) := by decide +kernel
theorem dX6_reconstructedCount_26 : decode cX6_reconstructedCount 26 = .ok (.iconst 0, 1) := by decide +kernel
theorem dX6_reconstructedCount_27 : decode cX6_reconstructedCount 27 = .ok (.istore_n 3, 1) := by decide +kernel
theorem dX6_reconstructedCount_28 : decode cX6_reconstructedCount 28 = .ok (.iload_n 3, 1) := by decide +kernel
theorem dX6_reconstructedCount_29 : decode cX6_reconstructedCount 29 = .ok (.aload_n 0, 1) := by decide +kernel
theorem dX6_reconstructedCount_30 : decode cX6_reconstructedCount 30 = .ok (.getfield 47, 3) := by decide +kernel
theorem dX6_reconstructedCount_33 : decode cX6_reconstructedCount 33 = .ok (.invokevirtual 106, 3) := by decide +kernel
theorem dX6_reconstructedCount_36 : decode cX6_reconstructedCount 36 = .ok (.if_icmp .ge 38, 3) := by decide +kernel
theorem dX6_reconstructedCount_39 : decode cX6_reconstructedCount 39 = .ok (.aload_n 0, 1) := by decide +kernel
theorem dX6_reconstructedCount_40 : decode cX6_reconstructedCount 40 = .ok (.getfield 26, 3) := by decide +kernel
theorem dX6_reconstructedCount_43 : decode cX6_reconstructedCount 43 = .ok (.iload_n 3, 1) := by decide +kernel
theorem dX6_reconstructedCount_44 : decode cX6_reconstructedCount 44 = .ok (.invokevirtual 182, 3) := by decide +kernel
theorem dX6_reconstructedCount_47 : decode cX6_reconstructedCount 47 = .ok (.ifCond .ne 21, 3) := by decide +kernel
theorem dX6_reconstructedCount_50 : decode cX6_reconstructedCount 50 = .ok (.iload_n 2, 1) := by decide +kernel
theorem dX6_reconstructedCount_51 : decode cX6_reconstructedCount 51 = .ok (.aload_n 0, 1) := by decide +kernel
theorem dX6_reconstructedCount_52 : decode cX6_reconstructedCount 52 = .ok (.iload_n 1, 1) := by decide +kernel
theorem dX6_reconstructedCount_53 : decode cX6_reconstructedCount 53 = .ok (.iload_n 3, 1) := by decide +kernel
theorem dX6_reconstructedCount_54 : decode cX6_reconstructedCount 54 = .ok (.invokevirtual 201, 3) := by decide +kernel
theorem dX6_reconstructedCount_57 : decode cX6_reconstructedCount 57 = .ok (.aload_n 0, 1) := by decide +kernel
theorem dX6_reconstructedCount_58 : decode cX6_reconstructedCount 58 = .ok (.getfield 33, 3) := by decide +kernel
theorem dX6_reconstructedCount_61 : decode cX6_reconstructedCount 61 = .ok (.iload_n 3, 1) := by decide +kernel
theorem dX6_reconstructedCount_62 : decode cX6_reconstructedCount 62 = .ok (.invokevirtual 192, 3) := by decide +kernel
theorem dX6_reconstructedCount_65 : decode cX6_reconstructedCount 65 = .ok (.imul, 1) := by decide +kernel
theorem dX6_reconstructedCount_66 : decode cX6_reconstructedCount 66 = .ok (.iadd, 1) := by decide +kernel
theorem dX6_reconstructedCount_67 : decode cX6_reconstructedCount 67 = .ok (.istore_n 2, 1) := by decide +kernel
theorem dX6_reconstructedCount_68 : decode cX6_reconstructedCount 68 = .ok (.iinc 3 1, 3) := by decide +kernel
theorem dX6_reconstructedCount_71 : decode cX6_reconstructedCount 71 = .ok (.goto (-43), 3) := by decide +kernel
theorem dX6_reconstructedCount_74 : decode cX6_reconstructedCount 74 = .ok (.iload_n 2, 1) := by decide +kernel
theorem dX6_reconstructedCount_75 : decode cX6_reconstructedCount 75 = .ok (.ireturn, 1) := by decide +kernel
set_option maxRecDepth 20000 in
theorem ggX6_openEdgeShare_X4_present : GoodIn wsX6_openEdgeShare wsX4_present := goodIn_r _ [8, 9, 32, 33, 34, 35, 36] (by decide +kernel) (by decide +kernel)
set_option maxRecDepth 20000 in
theorem gX6_openEdgeShare_X4_present : GoodIn wsX6_openEdgeShare (wsV RX6 142 RX4 yX4_present wsX4_present) := goodIn_app (goodIn_of _ (by decide +kernel)) ggX6_openEdgeShare_X4_present
set_option maxRecDepth 20000 in
theorem ggX6_openEdgeShare_X0_exit : GoodIn wsX6_openEdgeShare wsX0_exit := goodIn_r _ [14, 15, 37, 38, 39, 40, 41, 42, 43] (by decide +kernel) (by decide +kernel)
set_option maxRecDepth 20000 in
theorem gX6_openEdgeShare_X0_exit : GoodIn wsX6_openEdgeShare (wsV RX6 232 RX0 yX0_exit wsX0_exit) := goodIn_app (goodIn_of _ (by decide +kernel)) ggX6_openEdgeShare_X0_exit
set_option maxRecDepth 20000 in
theorem ggX6_openEdgeShare_X3_factor : GoodIn wsX6_openEdgeShare wsX3_factor := goodIn_r _ [20, 21, 22, 23, 24, 44, 45, 46] (by decide +kernel) (by decide +kernel)
set_option maxRecDepth 20000 in
theorem gX6_openEdgeShare_X3_factor : GoodIn wsX6_openEdgeShare (wsV RX6 222 RX3 yX3_factor wsX3_factor) := goodIn_app (goodIn_of _ (by decide +kernel)) ggX6_openEdgeShare_X3_factor
theorem dX6_openEdgeShare_0 : decode cX6_openEdgeShare 0 = .ok (.aload_n 0, 1) := by decide +kernel
theorem dX6_openEdgeShare_1 : decode cX6_openEdgeShare 1 = .ok (.getfield 33, 3) := by decide +kernel
theorem dX6_openEdgeShare_4 : decode cX6_openEdgeShare 4 = .ok (.invokevirtual 142, 3) := by decide +kernel
theorem dX6_openEdgeShare_7 : decode cX6_openEdgeShare 7 = .ok (.ifCond .ne 5, 3) := by decide +kernel
theorem dX6_openEdgeShare_10 : decode cX6_openEdgeShare 10 = .ok (.iconst 0, 1) := by decide +kernel
theorem dX6_openEdgeShare_11 : decode cX6_openEdgeShare 11 = .ok (.ireturn, 1) := by decide +kernel
theorem dX6_openEdgeShare_12 : decode cX6_openEdgeShare 12 = .ok (.aload_n 0, 1) := by decide +kernel
theorem dX6_openEdgeShare_13 : decode cX6_openEdgeShare 13 = .ok (.getfield 26, 3) := by decide +kernel
theorem dX6_openEdgeShare_16 : decode cX6_openEdgeShare 16 = .ok (.iload_n 1, 1) := by decide +kernel
theorem dX6_openEdgeShare_17 : decode cX6_openEdgeShare 17 = .ok (.aload_n 0, 1) := by decide +kernel
theorem dX6_openEdgeShare_18 : decode cX6_openEdgeShare 18 = .ok (.getfield 33, 3) := by decide +kernel
theorem dX6_openEdgeShare_21 : decode cX6_openEdgeShare 21 = .ok (.invokevirtual 142, 3) := by decide +kernel
theorem dX6_openEdgeShare_24 : decode cX6_openEdgeShare 24 = .ok (.aload_n 0, 1) := by decide +kernel
theorem dX6_openEdgeShare_25 : decode cX6_openEdgeShare 25 = .ok (.getfield 47, 3) := by decide +kernel
theorem dX6_openEdgeShare_28 : decode cX6_openEdgeShare 28 = .ok (.invokevirtual 232, 3) := by decide +kernel
theorem dX6_openEdgeShare_31 : decode cX6_openEdgeShare 31 = .ok (.invokevirtual 222, 3) := by decide +kernel
theorem dX6_openEdgeShare_34 : decode cX6_openEdgeShare 34 = .ok (.ireturn, 1) := by decide +kernel
theorem dX6_bitsOfShare_0 : decode cX6_bitsOfShare 0 = .ok (.fload_n 0, 1) := by decide +kernel
theorem dX6_bitsOfShare_1 : decode cX6_bitsOfShare 1 = .ok (.fconst 0, 1) := by decide +kernel
theorem dX6_bitsOfShare_2 : decode cX6_bitsOfShare 2 = .ok (.fcmp .g, 1) := by decide +kernel
theorem dX6_bitsOfShare_3 : decode cX6_bitsOfShare 3 = .ok (.ifCond .gt 5, 3) := by decide +kernel
theorem dX6_bitsOfShare_6 : decode cX6_bitsOfShare 6 = .ok (.iconst 0, 1) := by decide +kernel
theorem dX6_bitsOfShare_7 : decode cX6_bitsOfShare 7 = .ok (.ireturn, 1) := by decide +kernel
theorem dX6_bitsOfShare_8 : decode cX6_bitsOfShare 8 = .ok (.bipush 127, 2) := by decide +kernel
theorem dX6_bitsOfShare_10 : decode cX6_bitsOfShare 10 = .ok (.istore_n 1, 1) := by decide +kernel
theorem dX6_bitsOfShare_11 : decode cX6_bitsOfShare 11 = .ok (.fload_n 0, 1) := by decide +kernel
theorem dX6_bitsOfShare_12 : decode cX6_bitsOfShare 12 = .ok (.fstore_n 2, 1) := by decide +kernel
theorem dX6_bitsOfShare_13 : decode cX6_bitsOfShare 13 = .ok (.fload_n 2, 1) := by decide +kernel
theorem dX6_bitsOfShare_14 : decode cX6_bitsOfShare 14 = .ok (.fconst 1, 1) := by decide +kernel
theorem dX6_bitsOfShare_15 : decode cX6_bitsOfShare 15 = .ok (.fcmp .g, 1) := by decide +kernel
theorem dX6_bitsOfShare_16 : decode cX6_bitsOfShare 16 = .ok (.ifCond .ge 18, 3) := by decide +kernel
theorem dX6_bitsOfShare_19 : decode cX6_bitsOfShare 19 = .ok (.iload_n 1, 1) := by decide +kernel
theorem dX6_bitsOfShare_20 : decode cX6_bitsOfShare 20 = .ok (.iconst 1, 1) := by decide +kernel
theorem dX6_bitsOfShare_21 : decode cX6_bitsOfShare 21 = .ok (.if_icmp .le 13, 3) := by decide +kernel
theorem dX6_bitsOfShare_24 : decode cX6_bitsOfShare 24 = .ok (.fload_n 2, 1) := by decide +kernel
theorem dX6_bitsOfShare_25 : decode cX6_bitsOfShare 25 = .ok (.fconst 2, 1) := by decide +kernel
theorem dX6_bitsOfShare_26 : decode cX6_bitsOfShare 26 = .ok (.fmul, 1) := by decide +kernel
theorem dX6_bitsOfShare_27 : decode cX6_bitsOfShare 27 = .ok (.fstore_n 2, 1) := by decide +kernel
theorem dX6_bitsOfShare_28 : decode cX6_bitsOfShare 28 = .ok (.iinc 1 (-1), 3) := by decide +kernel
theorem dX6_bitsOfShare_31 : decode cX6_bitsOfShare 31 = .ok (.goto (-18), 3) := by decide +kernel
theorem dX6_bitsOfShare_34 : decode cX6_bitsOfShare 34 = .ok (.iload_n 1, 1) := by decide +kernel
theorem dX6_bitsOfShare_35 : decode cX6_bitsOfShare 35 = .ok (.bipush 23, 2) := by decide +kernel
theorem dX6_bitsOfShare_37 : decode cX6_bitsOfShare 37 = .ok (.ishl, 1) := by decide +kernel
theorem dX6_bitsOfShare_38 : decode cX6_bitsOfShare 38 = .ok (.fload_n 2, 1) := by decide +kernel
theorem dX6_bitsOfShare_39 : decode cX6_bitsOfShare 39 = .ok (.fconst 1, 1) := by decide +kernel
theorem dX6_bitsOfShare_40 : decode cX6_bitsOfShare 40 = .ok (.fsub, 1) := by decide +kernel
theorem dX6_bitsOfShare_41 : decode cX6_bitsOfShare 41 = .ok (.ldc 235, 2) := by decide +kernel
theorem dX6_bitsOfShare_43 : decode cX6_bitsOfShare 43 = .ok (.fmul, 1) := by decide +kernel
theorem dX6_bitsOfShare_44 : decode cX6_bitsOfShare 44 = .ok (.f2i, 1) := by decide +kernel
theorem dX6_bitsOfShare_45 : decode cX6_bitsOfShare 45 = .ok (.iadd, 1) := by decide +kernel
theorem dX6_bitsOfShare_46 : decode cX6_bitsOfShare 46 = .ok (.ireturn, 1) := by decide +kernel
theorem dX6_holds_0 : decode cX6_holds 0 = .ok (.iload_n 0, 1) := by decide +kernel
theorem dX6_holds_1 : decode cX6_holds 1 = .ok (.iconst 1, 1) := by decide +kernel
theorem dX6_holds_2 : decode cX6_holds 2 = .ok (.iload_n 1, 1) := by decide +kernel
theorem dX6_holds_3 : decode cX6_holds 3 = .ok (.ishl, 1) := by decide +kernel
theorem dX6_holds_4 : decode cX6_holds 4 = .ok (.iand, 1) := by decide +kernel
theorem dX6_holds_5 : decode cX6_holds 5 = .ok (.ifCond .eq 7, 3) := by decide +kernel
theorem dX6_holds_8 : decode cX6_holds 8 = .ok (.iconst 1, 1) := by decide +kernel
theorem dX6_holds_9 : decode cX6_holds 9 = .ok (.goto 4, 3) := by decide +kernel
theorem dX6_holds_12 : decode cX6_holds 12 = .ok (.iconst 0, 1) := by decide +kernel
theorem dX6_holds_13 : decode cX6_holds 13 = .ok (.ireturn, 1) := by decide +kernel
set_option maxRecDepth 20000 in
theorem ggX7_init_X7_putEdge : GoodIn wsX7_init wsX7_putEdge := goodIn_r _ [20, 10, 21, 11, 12, 45, 46, 47, 48, 49, 50, 51, 52, 53, 54, 55, 56, 57, 58, 59, 60, 61, 62, 63] (by decide +kernel) (by decide +kernel)
set_option maxRecDepth 20000 in
theorem gX7_init_X7_putEdge : GoodIn wsX7_init (wsV RX7 44 RX7 yX7_putEdge wsX7_putEdge) := goodIn_app (goodIn_of _ (by decide +kernel)) ggX7_init_X7_putEdge
set_option maxRecDepth 20000 in
theorem ggX7_init_X7_takeGraph : GoodIn wsX7_init wsX7_takeGraph := goodIn_r _ [25, 15, 26, 21, 27, 6, 10, 7, 11, 8, 12, 28, 29, 30, 31, 32, 19, 33, 34, 35, 36, 37, 38, 39, 40, 41, 42, 43, 44, 45, 46, 47, 48, 49, 50, 51, 52, 53, 54, 55, 56, 57, 58, 59, 60, 61, 62, 63] (by decide +kernel) (by decide +kernel)
set_option maxRecDepth 20000 in
theorem gX7_init_X7_takeGraph : GoodIn wsX7_init (wsV RX7 48 RX7 yX7_takeGraph wsX7_takeGraph) := goodIn_app (goodIn_of _ (by decide +kernel)) ggX7_init_X7_takeGraph
theorem dX7_init_0 : decode cX7_init 0 = .ok (.aload_n 0, 1) := by decide +kernel
theorem dX7_init_1 : decode cX7_init 1 = .ok (.invokespecial 1, 3) := by decide +kernel
theorem dX7_init_4 : decode cX7_init 4 = .ok (.aload_n 0, 1) := by decide +kernel
theorem dX7_init_5 : decode cX7_init 5 = .ok (.sipush 200, 3) := by decide +kernel
theorem dX7_init_8 : decode cX7_init 8 = .ok (.newarray .int, 2) := by decide +kernel
theorem dX7_init_10 : decode cX7_init 10 = .ok (.putfield 7, 3) := by decide +kernel
theorem dX7_init_13 : decode cX7_init 13 = .ok (.aload_n 0, 1) := by decide +kernel
theorem dX7_init_14 : decode cX7_init 14 = .ok (.bipush 20, 2) := by decide +kernel
theorem dX7_init_16 : decode cX7_init 16 = .ok (.newarray .int, 2) := by decide +kernel
theorem dX7_init_18 : decode cX7_init 18 = .ok (.putfield 13, 3) := by decide +kernel
theorem dX7_init_21 : decode cX7_init 21 = .ok (.aload_n 0, 1) := by decide +kernel
theorem dX7_init_22 : decode cX7_init 22 = .ok (.bipush 20, 2) := by decide +kernel
theorem dX7_init_24 : decode cX7_init 24 = .ok (.newarray .int, 2) := by decide +kernel
theorem dX7_init_26 : decode cX7_init 26 = .ok (.putfield 16, 3) := by decide +kernel
theorem dX7_init_29 : decode cX7_init 29 = .ok (.aload_n 0, 1) := by decide +kernel
theorem dX7_init_30 : decode cX7_init 30 = .ok (.bipush 83, 2) := by decide +kernel
theorem dX7_init_32 : decode cX7_init 32 = .ok (.newarray .int, 2) := by decide +kernel
theorem dX7_init_34 : decode cX7_init 34 = .ok (.putfield 19, 3) := by decide +kernel
theorem dX7_init_37 : decode cX7_init 37 = .ok (.aload_n 0, 1) := by decide +kernel
theorem dX7_init_38 : decode cX7_init 38 = .ok (.sipush 332, 3) := by decide +kernel
theorem dX7_init_41 : decode cX7_init 41 = .ok (.newarray .int, 2) := by decide +kernel
theorem dX7_init_43 : decode cX7_init 43 = .ok (.putfield 22, 3) := by decide +kernel
theorem dX7_init_46 : decode cX7_init 46 = .ok (.aload_n 0, 1) := by decide +kernel
theorem dX7_init_47 : decode cX7_init 47 = .ok (.bipush 20, 2) := by decide +kernel
theorem dX7_init_49 : decode cX7_init 49 = .ok (.newarray .int, 2) := by decide +kernel
theorem dX7_init_51 : decode cX7_init 51 = .ok (.putfield 25, 3) := by decide +kernel
theorem dX7_init_54 : decode cX7_init 54 = .ok (.aload_n 0, 1) := by decide +kernel
theorem dX7_init_55 : decode cX7_init 55 = .ok (.bipush 20, 2) := by decide +kernel
theorem dX7_init_57 : decode cX7_init 57 = .ok (.newarray .int, 2) := by decide +kernel
theorem dX7_init_59 : decode cX7_init 59 = .ok (.putfield 28, 3) := by decide +kernel
theorem dX7_init_62 : decode cX7_init 62 = .ok (.aload_n 0, 1) := by decide +kernel
theorem dX7_init_63 : decode cX7_init 63 = .ok (.bipush 20, 2) := by decide +kernel
theorem dX7_init_65 : decode cX7_init 65 = .ok (.newarray .int, 2) := by decide +kernel
theorem dX7_init_67 : decode cX7_init 67 = .ok (.putfield 31, 3) := by decide +kernel
theorem dX7_init_70 : decode cX7_init 70 = .ok (.aload_n 0, 1) := by decide +kernel
theorem dX7_init_71 : decode cX7_init 71 = .ok (.iconst 3, 1) := by decide +kernel
theorem dX7_init_72 : decode cX7_init 72 = .ok (.newarray .int, 2) := by decide +kernel
theorem dX7_init_74 : decode cX7_init 74 = .ok (.putfield 34, 3) := by decide +kernel
theorem dX7_init_77 : decode cX7_init 77 = .ok (.aload_n 0, 1) := by decide +kernel
theorem dX7_init_78 : decode cX7_init 78 = .ok (.bipush 20, 2) := by decide +kernel
theorem dX7_init_80 : decode cX7_init 80 = .ok (.newarray .int, 2) := by decide +kernel
theorem dX7_init_82 : decode cX7_init 82 = .ok (.putfield 37, 3) := by decide +kernel
theorem dX7_init_85 : decode cX7_init 85 = .ok (.aload_n 0, 1) := by decide +kernel
theorem dX7_init_86 : decode cX7_init 86 = .ok (.bipush 6, 2) := by decide +kernel
theorem dX7_init_88 : decode cX7_init 88 = .ok (.putfield 40, 3) := by decide +kernel
theorem dX7_init_91 : decode cX7_init 91 = .ok (.aload_n 0, 1) := by decide +kernel
theorem dX7_init_92 : decode cX7_init 92 = .ok (.iconst 0, 1) := by decide +kernel
theorem dX7_init_93 : decode cX7_init 93 = .ok (.iconst 1, 1) := by decide +kernel
theorem dX7_init_94 : decode cX7_init 94 = .ok (.bipush 100, 2) := by decide +kernel
theorem dX7_init_96 : decode cX7_init 96 = .ok (.invokevirtual 44, 3) := by decide +kernel
theorem dX7_init_99 : decode cX7_init 99 = .ok (.aload_n 0, 1) := by decide +kernel
theorem dX7_init_100 : decode cX7_init 100 = .ok (.iconst 1, 1) := by decide +kernel
theorem dX7_init_101 : decode cX7_init 101 = .ok (.iconst 2, 1) := by decide +kernel
theorem dX7_init_102 : decode cX7_init 102 = .ok (.bipush 60, 2) := by decide +kernel
theorem dX7_init_104 : decode cX7_init 104 = .ok (.invokevirtual 44, 3) := by decide +kernel
theorem dX7_init_107 : decode cX7_init 107 = .ok (.aload_n 0, 1) := by decide +kernel
theorem dX7_init_108 : decode cX7_init 108 = .ok (.iconst 1, 1) := by decide +kernel
theorem dX7_init_109 : decode cX7_init 109 = .ok (.iconst 3, 1) := by decide +kernel
theorem dX7_init_110 : decode cX7_init 110 = .ok (.bipush 40, 2) := by decide +kernel
theorem dX7_init_112 : decode cX7_init 112 = .ok (.invokevirtual 44, 3) := by decide +kernel
theorem dX7_init_115 : decode cX7_init 115 = .ok (.aload_n 0, 1) := by decide +kernel
theorem dX7_init_116 : decode cX7_init 116 = .ok (.iconst 2, 1) := by decide +kernel
theorem dX7_init_117 : decode cX7_init 117 = .ok (.iconst 4, 1) := by decide +kernel
theorem dX7_init_118 : decode cX7_init 118 = .ok (.bipush 60, 2) := by decide +kernel
theorem dX7_init_120 : decode cX7_init 120 = .ok (.invokevirtual 44, 3) := by decide +kernel
theorem dX7_init_123 : decode cX7_init 123 = .ok (.aload_n 0, 1) := by decide +kernel
theorem dX7_init_124 : decode cX7_init 124 = .ok (.iconst 3, 1) := by decide +kernel
theorem dX7_init_125 : decode cX7_init 125 = .ok (.iconst 4, 1) := by decide +kernel
theorem dX7_init_126 : decode cX7_init 126 = .ok (.bipush 35, 2) := by decide +kernel
theorem dX7_init_128 : decode cX7_init 128 = .ok (.invokevirtual 44, 3) := by decide +kernel
theorem dX7_init_131 : decode cX7_init 131 = .ok (.aload_n 0, 1) := by decide +kernel
theorem dX7_init_132 : decode cX7_init 132 = .ok (.iconst 3, 1) := by decide +kernel
theorem dX7_init_133 : decode cX7_init 133 = .ok (.iconst 5, 1) := by decide +kernel
theorem dX7_init_134 : decode cX7_init 134 = .ok (.iconst 0, 1) := by decide +kernel
theorem dX7_init_135 : decode cX7_init 135 = .ok (.invokevirtual 44, 3) := by decide +kernel
theorem dX7_init_138 : decode cX7_init 138 = .ok (.aload_n 0, 1) := by decide +kernel
theorem dX7_init_139 : decode cX7_init 139 = .ok (.iconst 4, 1) := by decide +kernel
theorem dX7_init_140 : decode cX7_init 140 = .ok (.iconst 1, 1) := by decide +kernel
theorem dX7_init_141 : decode cX7_init 141 = .ok (.bipush 90, 2) := by decide +kernel
theorem dX7_init_143 : decode cX7_init 143 = .ok (.invokevirtual 44, 3) := by decide +kernel
theorem dX7_init_146 : decode cX7_init 146 = .ok (.aload_n 0, 1) := by decide +kernel
theorem dX7_init_147 : decode cX7_init 147 = .ok (.iconst 4, 1) := by decide +kernel
theorem dX7_init_148 : decode cX7_init 148 = .ok (.iconst 5, 1) := by decide +kernel
theorem dX7_init_149 : decode cX7_init 149 = .ok (.bipush 10, 2) := by decide +kernel
theorem dX7_init_151 : decode cX7_init 151 = .ok (.invokevirtual 44, 3) := by decide +kernel
theorem dX7_init_154 : decode cX7_init 154 = .ok (.aload_n 0, 1) := by decide +kernel
theorem dX7_init_155 : decode cX7_init 155 = .ok (.invokevirtual 48, 3) := by decide +kernel
theorem dX7_init_158 : decode cX7_init 158 = .ok (.return_, 1) := by decide +kernel
theorem dX7_in_0 : decode cX7_in 0 = .ok (.iload_n 0, 1) := by decide +kernel
theorem dX7_in_1 : decode cX7_in 1 = .ok (.iload_n 1, 1) := by decide +kernel
theorem dX7_in_2 : decode cX7_in 2 = .ok (.if_icmp .lt 12, 3) := by decide +kernel
theorem dX7_in_5 : decode cX7_in 5 = .ok (.iload_n 0, 1) := by decide +kernel
theorem dX7_in_6 : decode cX7_in 6 = .ok (.iload_n 2, 1) := by decide +kernel
theorem dX7_in_7 : decode cX7_in 7 = .ok (.if_icmp .gt 7, 3) := by decide +kernel
theorem dX7_in_10 : decode cX7_in 10 = .ok (.iconst 1, 1) := by decide +kernel
theorem dX7_in_11 : decode cX7_in 11 = .ok (.goto 4, 3) := by decide +kernel
theorem dX7_in_14 : decode cX7_in 14 = .ok (.iconst 0, 1) := by decide +kernel
theorem dX7_in_15 : decode cX7_in 15 = .ok (.ireturn, 1) := by decide +kernel
theorem dX7_has_0 : decode cX7_has 0 = .ok (.iload_n 0, 1) := by decide +kernel
theorem dX7_has_1 : decode cX7_has 1 = .ok (.iload_n 1, 1) := by decide +kernel
theorem dX7_has_2 : decode cX7_has 2 = .ok (.ishr, 1) := by decide +kernel
theorem dX7_has_3 : decode cX7_has 3 = .ok (.iconst 1, 1) := by decide +kernel
theorem dX7_has_4 : decode cX7_has 4 = .ok (.iand, 1) := by decide +kernel
theorem dX7_has_5 : decode cX7_has 5 = .ok (.iconst 1, 1) := by decide +kernel
theorem dX7_has_6 : decode cX7_has 6 = .ok (.if_icmp .ne 7, 3) := by decide +kernel
theorem dX7_has_9 : decode cX7_has 9 = .ok (.iconst 1, 1) := by decide +kernel
theorem dX7_has_10 : decode cX7_has 10 = .ok (.goto 4, 3) := by decide +kernel
theorem dX7_has_13 : decode cX7_has 13 = .ok (.iconst 0, 1) := by decide +kernel
theorem dX7_has_14 : decode cX7_has 14 = .ok (.ireturn, 1) := by decide +kernel
theorem dX7_putEdge_0 : decode cX7_putEdge 0 = .ok (.aload_n 0, 1) := by decide +kernel
theorem dX7_putEdge_1 : decode cX7_putEdge 1 = .ok (.getfield 25, 3) := by decide +kernel
theorem dX7_putEdge_4 : decode cX7_putEdge 4 = .ok (.aload_n 0, 1) := by decide +kernel
theorem dX7_putEdge_5 : decode cX7_putEdge 5 = .ok (.getfield 51, 3) := by decide +kernel
theorem dX7_putEdge_8 : decode cX7_putEdge 8 = .ok (.iload_n 1, 1) := by decide +kernel
theorem dX7_putEdge_9 : decode cX7_putEdge 9 = .ok (.iastore, 1) := by decide +kernel
theorem dX7_putEdge_10 : decode cX7_putEdge 10 = .ok (.aload_n 0, 1) := by decide +kernel
theorem dX7_putEdge_11 : decode cX7_putEdge 11 = .ok (.getfield 28, 3) := by decide +kernel
theorem dX7_putEdge_14 : decode cX7_putEdge 14 = .ok (.aload_n 0, 1) := by decide +kernel
theorem dX7_putEdge_15 : decode cX7_putEdge 15 = .ok (.getfield 51, 3) := by decide +kernel
theorem dX7_putEdge_18 : decode cX7_putEdge 18 = .ok (.iload_n 2, 1) := by decide +kernel
theorem dX7_putEdge_19 : decode cX7_putEdge 19 = .ok (.iastore, 1) := by decide +kernel
theorem dX7_putEdge_20 : decode cX7_putEdge 20 = .ok (.aload_n 0, 1) := by decide +kernel
theorem dX7_putEdge_21 : decode cX7_putEdge 21 = .ok (.getfield 31, 3) := by decide +kernel
theorem dX7_putEdge_24 : decode cX7_putEdge 24 = .ok (.aload_n 0, 1) := by decide +kernel
theorem dX7_putEdge_25 : decode cX7_putEdge 25 = .ok (.getfield 51, 3) := by decide +kernel
theorem dX7_putEdge_28 : decode cX7_putEdge 28 = .ok (.iload_n 3, 1) := by decide +kernel
theorem dX7_putEdge_29 : decode cX7_putEdge 29 = .ok (.iastore, 1) := by decide +kernel
theorem dX7_putEdge_30 : decode cX7_putEdge 30 = .ok (.aload_n 0, 1) := by decide +kernel
theorem dX7_putEdge_31 : decode cX7_putEdge 31 = .ok (.dup, 1) := by decide +kernel
theorem dX7_putEdge_32 : decode cX7_putEdge 32 = .ok (.getfield 51, 3) := by decide +kernel
theorem dX7_putEdge_35 : decode cX7_putEdge 35 = .ok (.iconst 1, 1) := by decide +kernel
theorem dX7_putEdge_36 : decode cX7_putEdge 36 = .ok (.iadd, 1) := by decide +kernel
theorem dX7_putEdge_37 : decode cX7_putEdge 37 = .ok (.putfield 51, 3) := by decide +kernel
theorem dX7_putEdge_40 : decode cX7_putEdge 40 = .ok (.return_, 1) := by decide +kernel
set_option maxRecDepth 20000 in
theorem ggX7_isDigit_X7_in : GoodIn wsX7_isDigit wsX7_in := goodIn_r _ [7] (by decide +kernel) (by decide +kernel)
set_option maxRecDepth 20000 in
theorem gX7_isDigit_X7_in : GoodIn wsX7_isDigit (va_wsS RX7 60 yX7_in wsX7_in) := goodIn_app (goodIn_of _ (by decide +kernel)) ggX7_isDigit_X7_in
theorem dX7_isDigit_0 : decode cX7_isDigit 0 = .ok (.aload_n 0, 1) := by decide +kernel
theorem dX7_isDigit_1 : decode cX7_isDigit 1 = .ok (.getfield 54, 3) := by decide +kernel
theorem dX7_isDigit_4 : decode cX7_isDigit 4 = .ok (.aload_n 0, 1) := by decide +kernel
theorem dX7_isDigit_5 : decode cX7_isDigit 5 = .ok (.getfield 57, 3) := by decide +kernel
theorem dX7_isDigit_8 : decode cX7_isDigit 8 = .ok (.if_icmp .ge 26, 3) := by decide +kernel
theorem dX7_isDigit_11 : decode cX7_isDigit 11 = .ok (.aload_n 0, 1) := by decide +kernel
theorem dX7_isDigit_12 : decode cX7_isDigit 12 = .ok (.getfield 7, 3) := by decide +kernel
theorem dX7_isDigit_15 : decode cX7_isDigit 15 = .ok (.aload_n 0, 1) := by decide +kernel
theorem dX7_isDigit_16 : decode cX7_isDigit 16 = .ok (.getfield 54, 3) := by decide +kernel
theorem dX7_isDigit_19 : decode cX7_isDigit 19 = .ok (.iaload, 1) := by decide +kernel
theorem dX7_isDigit_20 : decode cX7_isDigit 20 = .ok (.bipush 48, 2) := by decide +kernel
theorem dX7_isDigit_22 : decode cX7_isDigit 22 = .ok (.bipush 57, 2) := by decide +kernel
theorem dX7_isDigit_24 : decode cX7_isDigit 24 = .ok (.invokestatic 60, 3) := by decide +kernel
theorem dX7_isDigit_27 : decode cX7_isDigit 27 = .ok (.ifCond .eq 7, 3) := by decide +kernel
theorem dX7_isDigit_30 : decode cX7_isDigit 30 = .ok (.iconst 1, 1) := by decide +kernel
theorem dX7_isDigit_31 : decode cX7_isDigit 31 = .ok (.goto 4, 3) := by decide +kernel
theorem dX7_isDigit_34 : decode cX7_isDigit 34 = .ok (.iconst 0, 1) := by decide +kernel
theorem dX7_isDigit_35 : decode cX7_isDigit 35 = .ok (.ireturn, 1) := by decide +kernel
set_option maxRecDepth 20000 in
theorem ggX7_readNumbers_X7_isDigit : GoodIn wsX7_readNumbers wsX7_isDigit := goodIn_r _ [9, 1, 3, 2, 10, 11, 8, 12, 13, 14, 15, 16, 17, 18, 19, 20, 21, 22, 23, 24, 25, 26, 27, 28, 29, 30, 31] (by decide +kernel) (by decide +kernel)
set_option maxRecDepth 20000 in
theorem gX7_readNumbers_X7_isDigit : GoodIn wsX7_readNumbers (wsV RX7 64 RX7 yX7_isDigit wsX7_isDigit) := goodIn_app (goodIn_of _ (by decide +kernel)) ggX7_readNumbers_X7_isDigit
theorem dX7_readNumbers_0 : decode cX7_readNumbers 0 = .ok (.iconst 0, 1) := by decide +kernel
theorem dX7_readNumbers_1 : decode cX7_readNumbers 1 = .ok (.istore_n 2, 1) := by decide +kernel
theorem dX7_readNumbers_2 : decode cX7_readNumbers 2 = .ok (.iload_n 2, 1) := by decide +kernel
theorem dX7_readNumbers_3 : decode cX7_readNumbers 3 = .ok (.iload_n 1, 1) := by decide +kernel
theorem dX7_readNumbers_4 : decode cX7_readNumbers 4 = .ok (.if_icmp .ge 132, 3) := by decide +kernel
theorem dX7_readNumbers_7 : decode cX7_readNumbers 7 = .ok (.aload_n 0, 1) := by decide +kernel
theorem dX7_readNumbers_8 : decode cX7_readNumbers 8 = .ok (.getfield 54, 3) := by decide +kernel
theorem dX7_readNumbers_11 : decode cX7_readNumbers 11 = .ok (.istore_n 3, 1) := by decide +kernel
theorem dX7_readNumbers_12 : decode cX7_readNumbers 12 = .ok (.iconst 0, 1) := by decide +kernel
theorem dX7_readNumbers_13 : decode cX7_readNumbers 13 = .ok (.istore 4, 2) := by decide +kernel
theorem dX7_readNumbers_15 : decode cX7_readNumbers 15 = .ok (.aload_n 0, 1) := by decide +kernel
theorem dX7_readNumbers_16 : decode cX7_readNumbers 16 = .ok (.invokevirtual 64, 3) := by decide +kernel
theorem dX7_readNumbers_19 : decode cX7_readNumbers 19 = .ok (.ifCond .eq 46, 3) := by decide +kernel
theorem dX7_readNumbers_22 : decode cX7_readNumbers 22 = .ok (.aload_n 0, 1) := by decide +kernel
theorem dX7_readNumbers_23 : decode cX7_readNumbers 23 = .ok (.getfield 54, 3) := by decide +kernel
theorem dX7_readNumbers_26 : decode cX7_readNumbers 26 = .ok (.iload_n 3, 1) := by decide +kernel
theorem dX7_readNumbers_27 : decode cX7_readNumbers 27 = .ok (.iconst 3, 1) := by decide +kernel
theorem dX7_readNumbers_28 : decode cX7_readNumbers 28 = .ok (.iadd, 1) := by decide +kernel
theorem dX7_readNumbers_29 : decode cX7_readNumbers 29 = .ok (.if_icmp .ge 36, 3) := by decide +kernel
theorem dX7_readNumbers_32 : decode cX7_readNumbers 32 = .ok (.bipush 10, 2) := by decide +kernel
theorem dX7_readNumbers_34 : decode cX7_readNumbers 34 = .ok (.iload 4, 2) := by decide +kernel
theorem dX7_readNumbers_36 : decode cX7_readNumbers 36 = .ok (.imul, 1) := by decide +kernel
theorem dX7_readNumbers_37 : decode cX7_readNumbers 37 = .ok (.aload_n 0, 1) := by decide +kernel
theorem dX7_readNumbers_38 : decode cX7_readNumbers 38 = .ok (.getfield 7, 3) := by decide +kernel
theorem dX7_readNumbers_41 : decode cX7_readNumbers 41 = .ok (.aload_n 0, 1) := by decide +kernel
theorem dX7_readNumbers_42 : decode cX7_readNumbers 42 = .ok (.getfield 54, 3) := by decide +kernel
theorem dX7_readNumbers_45 : decode cX7_readNumbers 45 = .ok (.iaload, 1) := by decide +kernel
theorem dX7_readNumbers_46 : decode cX7_readNumbers 46 = .ok (.iadd, 1) := by decide +kernel
theorem dX7_readNumbers_47 : decode cX7_readNumbers 47 = .ok (.bipush 48, 2) := by decide +kernel
theorem dX7_readNumbers_49 : decode cX7_readNumbers 49 = .ok (.isub, 1) := by decide +kernel
theorem dX7_readNumbers_50 : decode cX7_readNumbers 50 = .ok (.istore 4, 2) := by decide +kernel
theorem dX7_readNumbers_52 : decode cX7_readNumbers 52 = .ok (.aload_n 0, 1) := by decide +kernel
theorem dX7_readNumbers_53 : decode cX7_readNumbers 53 = .ok (.dup, 1) := by decide +kernel
theorem dX7_readNumbers_54 : decode cX7_readNumbers 54 = .ok (.getfield 54, 3) := by decide +kernel
theorem dX7_readNumbers_57 : decode cX7_readNumbers 57 = .ok (.iconst 1, 1) := by decide +kernel
theorem dX7_readNumbers_58 : decode cX7_readNumbers 58 = .ok (.iadd, 1) := by decide +kernel
theorem dX7_readNumbers_59 : decode cX7_readNumbers 59 = .ok (.putfield 54, 3) := by decide +kernel
theorem dX7_readNumbers_62 : decode cX7_readNumbers 62 = .ok (.goto (-47), 3) := by decide +kernel
theorem dX7_readNumbers_65 : decode cX7_readNumbers 65 = .ok (.aload_n 0, 1) := by decide +kernel
theorem dX7_readNumbers_66 : decode cX7_readNumbers 66 = .ok (.getfield 54, 3) := by decide +kernel
theorem dX7_readNumbers_69 : decode cX7_readNumbers 69 = .ok (.iload_n 3, 1) := by decide +kernel
theorem dX7_readNumbers_70 : decode cX7_readNumbers 70 = .ok (.if_icmp .eq 40, 3) := by decide +kernel
theorem dX7_readNumbers_73 : decode cX7_readNumbers 73 = .ok (.aload_n 0, 1) := by decide +kernel
theorem dX7_readNumbers_74 : decode cX7_readNumbers 74 = .ok (.getfield 54, 3) := by decide +kernel
theorem dX7_readNumbers_77 : decode cX7_readNumbers 77 = .ok (.aload_n 0, 1) := by decide +kernel
theorem dX7_readNumbers_78 : decode cX7_readNumbers 78 = .ok (.getfield 57, 3) := by decide +kernel
theorem dX7_readNumbers_81 : decode cX7_readNumbers 81 = .ok (.if_icmp .eq 29, 3) := by decide +kernel
theorem dX7_readNumbers_84 : decode cX7_readNumbers 84 = .ok (.aload_n 0, 1) := by decide +kernel
theorem dX7_readNumbers_85 : decode cX7_readNumbers 85 = .ok (.getfield 7, 3) := by decide +kernel
theorem dX7_readNumbers_88 : decode cX7_readNumbers 88 = .ok (.aload_n 0, 1) := by decide +kernel
theorem dX7_readNumbers_89 : decode cX7_readNumbers 89 = .ok (.getfield 54, 3) := by decide +kernel
theorem dX7_readNumbers_92 : decode cX7_readNumbers 92 = .ok (.iaload, 1) := by decide +kernel
theorem dX7_readNumbers_93 : decode cX7_readNumbers 93 = .ok (.iload_n 2, 1) := by decide +kernel
theorem dX7_readNumbers_94 : decode cX7_readNumbers 94 = .ok (.iconst 1, 1) := by decide +kernel
theorem dX7_readNumbers_95 : decode cX7_readNumbers 95 = .ok (.iadd, 1) := by decide +kernel
theorem dX7_readNumbers_96 : decode cX7_readNumbers 96 = .ok (.iload_n 1, 1) := by decide +kernel
theorem dX7_readNumbers_97 : decode cX7_readNumbers 97 = .ok (.if_icmp .ne 8, 3) := by decide +kernel
theorem dX7_readNumbers_100 : decode cX7_readNumbers 100 = .ok (.bipush 59, 2) := by decide +kernel
theorem dX7_readNumbers_102 : decode cX7_readNumbers 102 = .ok (.goto 5, 3) := by decide +kernel
theorem dX7_readNumbers_105 : decode cX7_readNumbers 105 = .ok (.bipush 44, 2) := by decide +kernel
theorem dX7_readNumbers_107 : decode cX7_readNumbers 107 = .ok (.if_icmp .eq 5, 3) := by decide +kernel
theorem dX7_readNumbers_110 : decode cX7_readNumbers 110 = .ok (.iconst 0, 1) := by decide +kernel
theorem dX7_readNumbers_111 : decode cX7_readNumbers 111 = .ok (.ireturn, 1) := by decide +kernel
theorem dX7_readNumbers_112 : decode cX7_readNumbers 112 = .ok (.aload_n 0, 1) := by decide +kernel
theorem dX7_readNumbers_113 : decode cX7_readNumbers 113 = .ok (.getfield 34, 3) := by decide +kernel
theorem dX7_readNumbers_116 : decode cX7_readNumbers 116 = .ok (.iload_n 2, 1) := by decide +kernel
theorem dX7_readNumbers_117 : decode cX7_readNumbers 117 = .ok (.iload 4, 2) := by decide +kernel
theorem dX7_readNumbers_119 : decode cX7_readNumbers 119 = .ok (.iastore, 1) := by decide +kernel
theorem dX7_readNumbers_120 : decode cX7_readNumbers 120 = .ok (.aload_n 0, 1) := by decide +kernel
theorem dX7_readNumbers_121 : decode cX7_readNumbers 121 = .ok (.dup, 1) := by decide +kernel
theorem dX7_readNumbers_122 : decode cX7_readNumbers 122 = .ok (.getfield 54, 3) := by decide +kernel
theorem dX7_readNumbers_125 : decode cX7_readNumbers 125 = .ok (.iconst 1, 1) := by decide +kernel
theorem dX7_readNumbers_126 : decode cX7_readNumbers 126 = .ok (.iadd, 1) := by decide +kernel
theorem dX7_readNumbers_127 : decode cX7_readNumbers 127 = .ok (.putfield 54, 3) := by decide +kernel
theorem dX7_readNumbers_130 : decode cX7_readNumbers 130 = .ok (.iinc 2 1, 3) := by decide +kernel
theorem dX7_readNumbers_133 : decode cX7_readNumbers 133 = .ok (.goto (-131), 3) := by decide +kernel
theorem dX7_readNumbers_136 : decode cX7_readNumbers 136 = .ok (.iconst 1, 1) := by decide +kernel
theorem dX7_readNumbers_137 : decode cX7_readNumbers 137 = .ok (.ireturn, 1) := by decide +kernel
set_option maxRecDepth 20000 in
theorem ggX7_isBlockButExit_X7_in : GoodIn wsX7_isBlockButExit wsX7_in := goodIn_r _ [5] (by decide +kernel) (by decide +kernel)
set_option maxRecDepth 20000 in
theorem gX7_isBlockButExit_X7_in : GoodIn wsX7_isBlockButExit (va_wsS RX7 60 yX7_in wsX7_in) := goodIn_app (goodIn_of _ (by decide +kernel)) ggX7_isBlockButExit_X7_in
