theorem dX0_init_0 : decode cX0_init 0 = .ok (.aload_n 0, 1) := by decide +kernel
theorem dX0_init_1 : decode cX0_init 1 = .ok (.invokespecial 3, 3) := by decide +kernel
theorem dX0_init_4 : decode cX0_init 4 = .ok (.aload_n 0, 1) := by decide +kernel
theorem dX0_init_5 : decode cX0_init 5 = .ok (.bipush 20, 2) := by decide +kernel
theorem dX0_init_7 : decode cX0_init 7 = .ok (.newarray .int, 2) := by decide +kernel
theorem dX0_init_9 : decode cX0_init 9 = .ok (.putfield 9, 3) := by decide +kernel
theorem dX0_init_12 : decode cX0_init 12 = .ok (.aload_n 0, 1) := by decide +kernel
theorem dX0_init_13 : decode cX0_init 13 = .ok (.bipush 20, 2) := by decide +kernel
theorem dX0_init_15 : decode cX0_init 15 = .ok (.newarray .int, 2) := by decide +kernel
theorem dX0_init_17 : decode cX0_init 17 = .ok (.putfield 15, 3) := by decide +kernel
theorem dX0_init_20 : decode cX0_init 20 = .ok (.aload_n 0, 1) := by decide +kernel
theorem dX0_init_21 : decode cX0_init 21 = .ok (.bipush 20, 2) := by decide +kernel
theorem dX0_init_23 : decode cX0_init 23 = .ok (.newarray .int, 2) := by decide +kernel
theorem dX0_init_25 : decode cX0_init 25 = .ok (.putfield 18, 3) := by decide +kernel
theorem dX0_init_28 : decode cX0_init 28 = .ok (.aload_n 0, 1) := by decide +kernel
theorem dX0_init_29 : decode cX0_init 29 = .ok (.bipush 10, 2) := by decide +kernel
theorem dX0_init_31 : decode cX0_init 31 = .ok (.bipush 20, 2) := by decide +kernel
theorem dX0_init_33 : decode cX0_init 33 = .ok (.multianewarray 21 2, 4) := by decide +kernel
theorem dX0_init_37 : decode cX0_init 37 = .ok (.putfield 23, 3) := by decide +kernel
theorem dX0_init_40 : decode cX0_init 40 = .ok (.aload_n 0, 1) := by decide +kernel
theorem dX0_init_41 : decode cX0_init 41 = .ok (.bipush 10, 2) := by decide +kernel
theorem dX0_init_43 : decode cX0_init 43 = .ok (.newarray .int, 2) := by decide +kernel
theorem dX0_init_45 : decode cX0_init 45 = .ok (.putfield 26, 3) := by decide +kernel
theorem dX0_init_48 : decode cX0_init 48 = .ok (.return_, 1) := by decide +kernel
theorem dX0_begin_0 : decode cX0_begin 0 = .ok (.aload_n 0, 1) := by decide +kernel
theorem dX0_begin_1 : decode cX0_begin 1 = .ok (.iload_n 1, 1) := by decide +kernel
theorem dX0_begin_2 : decode cX0_begin 2 = .ok (.putfield 29, 3) := by decide +kernel
theorem dX0_begin_5 : decode cX0_begin 5 = .ok (.aload_n 0, 1) := by decide +kernel
theorem dX0_begin_6 : decode cX0_begin 6 = .ok (.iconst 0, 1) := by decide +kernel
theorem dX0_begin_7 : decode cX0_begin 7 = .ok (.putfield 33, 3) := by decide +kernel
theorem dX0_begin_10 : decode cX0_begin 10 = .ok (.iconst 0, 1) := by decide +kernel
theorem dX0_begin_11 : decode cX0_begin 11 = .ok (.istore_n 2, 1) := by decide +kernel
theorem dX0_begin_12 : decode cX0_begin 12 = .ok (.iload_n 2, 1) := by decide +kernel
theorem dX0_begin_13 : decode cX0_begin 13 = .ok (.bipush 10, 2) := by decide +kernel
theorem dX0_begin_15 : decode cX0_begin 15 = .ok (.if_icmp .ge 16, 3) := by decide +kernel
theorem dX0_begin_18 : decode cX0_begin 18 = .ok (.aload_n 0, 1) := by decide +kernel
theorem dX0_begin_19 : decode cX0_begin 19 = .ok (.getfield 26, 3) := by decide +kernel
theorem dX0_begin_22 : decode cX0_begin 22 = .ok (.iload_n 2, 1) := by decide +kernel
theorem dX0_begin_23 : decode cX0_begin 23 = .ok (.iconst 0, 1) := by decide +kernel
theorem dX0_begin_24 : decode cX0_begin 24 = .ok (.iastore, 1) := by decide +kernel
theorem dX0_begin_25 : decode cX0_begin 25 = .ok (.iinc 2 1, 3) := by decide +kernel
theorem dX0_begin_28 : decode cX0_begin 28 = .ok (.goto (-16), 3) := by decide +kernel
theorem dX0_begin_31 : decode cX0_begin 31 = .ok (.return_, 1) := by decide +kernel
theorem dX0_blocks_0 : decode cX0_blocks 0 = .ok (.aload_n 0, 1) := by decide +kernel
theorem dX0_blocks_1 : decode cX0_blocks 1 = .ok (.getfield 29, 3) := by decide +kernel
theorem dX0_blocks_4 : decode cX0_blocks 4 = .ok (.ireturn, 1) := by decide +kernel
theorem dX0_edges_0 : decode cX0_edges 0 = .ok (.aload_n 0, 1) := by decide +kernel
theorem dX0_edges_1 : decode cX0_edges 1 = .ok (.getfield 33, 3) := by decide +kernel
theorem dX0_edges_4 : decode cX0_edges 4 = .ok (.ireturn, 1) := by decide +kernel
theorem dX0_exit_0 : decode cX0_exit 0 = .ok (.aload_n 0, 1) := by decide +kernel
theorem dX0_exit_1 : decode cX0_exit 1 = .ok (.getfield 29, 3) := by decide +kernel
theorem dX0_exit_4 : decode cX0_exit 4 = .ok (.iconst 1, 1) := by decide +kernel
theorem dX0_exit_5 : decode cX0_exit 5 = .ok (.isub, 1) := by decide +kernel
theorem dX0_exit_6 : decode cX0_exit 6 = .ok (.ireturn, 1) := by decide +kernel
theorem dX0_hasBlock_0 : decode cX0_hasBlock 0 = .ok (.iload_n 1, 1) := by decide +kernel
theorem dX0_hasBlock_1 : decode cX0_hasBlock 1 = .ok (.ifCond .lt 21, 3) := by decide +kernel
theorem dX0_hasBlock_4 : decode cX0_hasBlock 4 = .ok (.iload_n 1, 1) := by decide +kernel
theorem dX0_hasBlock_5 : decode cX0_hasBlock 5 = .ok (.aload_n 0, 1) := by decide +kernel
theorem dX0_hasBlock_6 : decode cX0_hasBlock 6 = .ok (.getfield 29, 3) := by decide +kernel
theorem dX0_hasBlock_9 : decode cX0_hasBlock 9 = .ok (.if_icmp .ge 13, 3) := by decide +kernel
theorem dX0_hasBlock_12 : decode cX0_hasBlock 12 = .ok (.iload_n 1, 1) := by decide +kernel
theorem dX0_hasBlock_13 : decode cX0_hasBlock 13 = .ok (.bipush 10, 2) := by decide +kernel
theorem dX0_hasBlock_15 : decode cX0_hasBlock 15 = .ok (.if_icmp .ge 7, 3) := by decide +kernel
theorem dX0_hasBlock_18 : decode cX0_hasBlock 18 = .ok (.iconst 1, 1) := by decide +kernel
theorem dX0_hasBlock_19 : decode cX0_hasBlock 19 = .ok (.goto 4, 3) := by decide +kernel
theorem dX0_hasBlock_22 : decode cX0_hasBlock 22 = .ok (.iconst 0, 1) := by decide +kernel
theorem dX0_hasBlock_23 : decode cX0_hasBlock 23 = .ok (.ireturn, 1) := by decide +kernel
theorem dX0_hasEdge_0 : decode cX0_hasEdge 0 = .ok (.iload_n 1, 1) := by decide +kernel
theorem dX0_hasEdge_1 : decode cX0_hasEdge 1 = .ok (.ifCond .lt 21, 3) := by decide +kernel
theorem dX0_hasEdge_4 : decode cX0_hasEdge 4 = .ok (.iload_n 1, 1) := by decide +kernel
theorem dX0_hasEdge_5 : decode cX0_hasEdge 5 = .ok (.aload_n 0, 1) := by decide +kernel
theorem dX0_hasEdge_6 : decode cX0_hasEdge 6 = .ok (.getfield 33, 3) := by decide +kernel
theorem dX0_hasEdge_9 : decode cX0_hasEdge 9 = .ok (.if_icmp .ge 13, 3) := by decide +kernel
theorem dX0_hasEdge_12 : decode cX0_hasEdge 12 = .ok (.iload_n 1, 1) := by decide +kernel
theorem dX0_hasEdge_13 : decode cX0_hasEdge 13 = .ok (.bipush 20, 2) := by decide +kernel
theorem dX0_hasEdge_15 : decode cX0_hasEdge 15 = .ok (.if_icmp .ge 7, 3) := by decide +kernel
theorem dX0_hasEdge_18 : decode cX0_hasEdge 18 = .ok (.iconst 1, 1) := by decide +kernel
theorem dX0_hasEdge_19 : decode cX0_hasEdge 19 = .ok (.goto 4, 3) := by decide +kernel
theorem dX0_hasEdge_22 : decode cX0_hasEdge 22 = .ok (.iconst 0, 1) := by decide +kernel
theorem dX0_hasEdge_23 : decode cX0_hasEdge 23 = .ok (.ireturn, 1) := by decide +kernel
theorem dX0_isFull_0 : decode cX0_isFull 0 = .ok (.aload_n 0, 1) := by decide +kernel
theorem dX0_isFull_1 : decode cX0_isFull 1 = .ok (.getfield 33, 3) := by decide +kernel
theorem dX0_isFull_4 : decode cX0_isFull 4 = .ok (.bipush 20, 2) := by decide +kernel
theorem dX0_isFull_6 : decode cX0_isFull 6 = .ok (.if_icmp .lt 7, 3) := by decide +kernel
theorem dX0_isFull_9 : decode cX0_isFull 9 = .ok (.iconst 1, 1) := by decide +kernel
theorem dX0_isFull_10 : decode cX0_isFull 10 = .ok (.goto 4, 3) := by decide +kernel
theorem dX0_isFull_13 : decode cX0_isFull 13 = .ok (.iconst 0, 1) := by decide +kernel
theorem dX0_isFull_14 : decode cX0_isFull 14 = .ok (.ireturn, 1) := by decide +kernel
set_option maxRecDepth 20000 in
theorem ggX0_addEdge_X0_leavingCount : GoodIn wsX0_addEdge wsX0_leavingCount := goodIn_r _ [11, 6, 12, 13, 14, 10, 15, 16, 21, 22, 23, 24, 25, 26, 27] (by decide +kernel) (by decide +kernel)
set_option maxRecDepth 20000 in
theorem gX0_addEdge_X0_leavingCount : GoodIn wsX0_addEdge (wsV RX0 36 RX0 yX0_leavingCount wsX0_leavingCount) := goodIn_app (goodIn_of _ (by decide +kernel)) ggX0_addEdge_X0_leavingCount
set_option maxRecDepth 20000 in
theorem ggX0_addEdge_X0_isFull : GoodIn wsX0_addEdge wsX0_isFull := goodIn_r _ [20, 2, 21, 22, 23, 24, 25, 26, 27] (by decide +kernel) (by decide +kernel)
set_option maxRecDepth 20000 in
theorem gX0_addEdge_X0_isFull : GoodIn wsX0_addEdge (wsV RX0 39 RX0 yX0_isFull wsX0_isFull) := goodIn_app (goodIn_of _ (by decide +kernel)) ggX0_addEdge_X0_isFull
set_option maxRecDepth 20000 in
theorem ggX0_addEdge_X0_hasBlock : GoodIn wsX0_addEdge wsX0_hasBlock := goodIn_r _ [15, 16, 21, 22, 23, 24, 25, 26, 27] (by decide +kernel) (by decide +kernel)
set_option maxRecDepth 20000 in
theorem gX0_addEdge_X0_hasBlock : GoodIn wsX0_addEdge (wsV RX0 43 RX0 yX0_hasBlock wsX0_hasBlock) := goodIn_app (goodIn_of _ (by decide +kernel)) ggX0_addEdge_X0_hasBlock
theorem dX0_addEdge_0 : decode cX0_addEdge 0 = .ok (.aload_n 0, 1) := by decide +kernel
theorem dX0_addEdge_1 : decode cX0_addEdge 1 = .ok (.iload_n 1, 1) := by decide +kernel
theorem dX0_addEdge_2 : decode cX0_addEdge 2 = .ok (.invokevirtual 36, 3) := by decide +kernel
theorem dX0_addEdge_5 : decode cX0_addEdge 5 = .ok (.istore 4, 2) := by decide +kernel
theorem dX0_addEdge_7 : decode cX0_addEdge 7 = .ok (.aload_n 0, 1) := by decide +kernel
theorem dX0_addEdge_8 : decode cX0_addEdge 8 = .ok (.invokevirtual 39, 3) := by decide +kernel
theorem dX0_addEdge_11 : decode cX0_addEdge 11 = .ok (.ifCond .ne 26, 3) := by decide +kernel
theorem dX0_addEdge_14 : decode cX0_addEdge 14 = .ok (.aload_n 0, 1) := by decide +kernel
theorem dX0_addEdge_15 : decode cX0_addEdge 15 = .ok (.iload_n 1, 1) := by decide +kernel
theorem dX0_addEdge_16 : decode cX0_addEdge 16 = .ok (.invokevirtual 43, 3) := by decide +kernel
theorem dX0_addEdge_19 : decode cX0_addEdge 19 = .ok (.ifCond .eq 18, 3) := by decide +kernel
theorem dX0_addEdge_22 : decode cX0_addEdge 22 = .ok (.aload_n 0, 1) := by decide +kernel
theorem dX0_addEdge_23 : decode cX0_addEdge 23 = .ok (.iload_n 2, 1) := by decide +kernel
theorem dX0_addEdge_24 : decode cX0_addEdge 24 = .ok (.invokevirtual 43, 3) := by decide +kernel
theorem dX0_addEdge_27 : decode cX0_addEdge 27 = .ok (.ifCond .eq 10, 3) := by decide +kernel
theorem dX0_addEdge_30 : decode cX0_addEdge 30 = .ok (.iload 4, 2) := by decide +kernel
theorem dX0_addEdge_32 : decode cX0_addEdge 32 = .ok (.bipush 20, 2) := by decide +kernel
theorem dX0_addEdge_34 : decode cX0_addEdge 34 = .ok (.if_icmp .lt 4, 3) := by decide +kernel
theorem dX0_addEdge_37 : decode cX0_addEdge 37 = .ok (.return_, 1) := by decide +kernel
theorem dX0_addEdge_38 : decode cX0_addEdge 38 = .ok (.aload_n 0, 1) := by decide +kernel
theorem dX0_addEdge_39 : decode cX0_addEdge 39 = .ok (.getfield 9, 3) := by decide +kernel
theorem dX0_addEdge_42 : decode cX0_addEdge 42 = .ok (.aload_n 0, 1) := by decide +kernel
theorem dX0_addEdge_43 : decode cX0_addEdge 43 = .ok (.getfield 33, 3) := by decide +kernel
theorem dX0_addEdge_46 : decode cX0_addEdge 46 = .ok (.iload_n 1, 1) := by decide +kernel
theorem dX0_addEdge_47 : decode cX0_addEdge 47 = .ok (.iastore, 1) := by decide +kernel
theorem dX0_addEdge_48 : decode cX0_addEdge 48 = .ok (.aload_n 0, 1) := by decide +kernel
theorem dX0_addEdge_49 : decode cX0_addEdge 49 = .ok (.getfield 15, 3) := by decide +kernel
theorem dX0_addEdge_52 : decode cX0_addEdge 52 = .ok (.aload_n 0, 1) := by decide +kernel
theorem dX0_addEdge_53 : decode cX0_addEdge 53 = .ok (.getfield 33, 3) := by decide +kernel
theorem dX0_addEdge_56 : decode cX0_addEdge 56 = .ok (.iload_n 2, 1) := by decide +kernel
theorem dX0_addEdge_57 : decode cX0_addEdge 57 = .ok (.iastore, 1) := by decide +kernel
theorem dX0_addEdge_58 : decode cX0_addEdge 58 = .ok (.aload_n 0, 1) := by decide +kernel
theorem dX0_addEdge_59 : decode cX0_addEdge 59 = .ok (.getfield 18, 3) := by decide +kernel
theorem dX0_addEdge_62 : decode cX0_addEdge 62 = .ok (.aload_n 0, 1) := by decide +kernel
theorem dX0_addEdge_63 : decode cX0_addEdge 63 = .ok (.getfield 33, 3) := by decide +kernel
theorem dX0_addEdge_66 : decode cX0_addEdge 66 = .ok (.iload_n 3, 1) := by decide +kernel
theorem dX0_addEdge_67 : decode cX0_addEdge 67 = .ok (.iastore, 1) := by decide +kernel
theorem dX0_addEdge_68 : decode cX0_addEdge 68 = .ok (.aload_n 0, 1) := by decide +kernel
theorem dX0_addEdge_69 : decode cX0_addEdge 69 = .ok (.getfield 23, 3) := by decide +kernel
theorem dX0_addEdge_72 : decode cX0_addEdge 72 = .ok (.iload_n 1, 1) := by decide +kernel
theorem dX0_addEdge_73 : decode cX0_addEdge 73 = .ok (.aaload, 1) := by decide +kernel
theorem dX0_addEdge_74 : decode cX0_addEdge 74 = .ok (.iload 4, 2) := by decide +kernel
theorem dX0_addEdge_76 : decode cX0_addEdge 76 = .ok (.aload_n 0, 1) := by decide +kernel
theorem dX0_addEdge_77 : decode cX0_addEdge 77 = .ok (.getfield 33, 3) := by decide +kernel
theorem dX0_addEdge_80 : decode cX0_addEdge 80 = .ok (.iastore, 1) := by decide +kernel
theorem dX0_addEdge_81 : decode cX0_addEdge 81 = .ok (.aload_n 0, 1) := by decide +kernel
theorem dX0_addEdge_82 : decode cX0_addEdge 82 = .ok (.getfield 26, 3) := by decide +kernel
theorem dX0_addEdge_85 : decode cX0_addEdge 85 = .ok (.iload_n 1, 1) := by decide +kernel
theorem dX0_addEdge_86 : decode cX0_addEdge 86 = .ok (.iload 4, 2) := by decide +kernel
theorem dX0_addEdge_88 : decode cX0_addEdge 88 = .ok (.iconst 1, 1) := by decide +kernel
theorem dX0_addEdge_89 : decode cX0_addEdge 89 = .ok (.iadd, 1) := by decide +kernel
theorem dX0_addEdge_90 : decode cX0_addEdge 90 = .ok (.iastore, 1) := by decide +kernel
theorem dX0_addEdge_91 : decode cX0_addEdge 91 = .ok (.aload_n 0, 1) := by decide +kernel
theorem dX0_addEdge_92 : decode cX0_addEdge 92 = .ok (.dup, 1) := by decide +kernel
theorem dX0_addEdge_93 : decode cX0_addEdge 93 = .ok (.getfield 33, 3) := by decide +kernel
theorem dX0_addEdge_96 : decode cX0_addEdge 96 = .ok (.iconst 1, 1) := by decide +kernel
theorem dX0_addEdge_97 : decode cX0_addEdge 97 = .ok (.iadd, 1) := by decide +kernel
theorem dX0_addEdge_98 : decode cX0_addEdge 98 = .ok (.putfield 33, 3) := by decide +kernel
theorem dX0_addEdge_101 : decode cX0_addEdge 101 = .ok (.return_, 1) := by decide +kernel
set_option maxRecDepth 20000 in
theorem ggX0_source_X0_hasEdge : GoodIn wsX0_source wsX0_hasEdge := goodIn_r _ [6, 7, 8, 9, 10, 11, 12, 13, 14] (by decide +kernel) (by decide +kernel)
set_option maxRecDepth 20000 in
theorem gX0_source_X0_hasEdge : GoodIn wsX0_source (wsV RX0 47 RX0 yX0_hasEdge wsX0_hasEdge) := goodIn_app (goodIn_of _ (by decide +kernel)) ggX0_source_X0_hasEdge
theorem dX0_source_0 : decode cX0_source 0 = .ok (.aload_n 0, 1) := by decide +kernel
theorem dX0_source_1 : decode cX0_source 1 = .ok (.iload_n 1, 1) := by decide +kernel
theorem dX0_source_2 : decode cX0_source 2 = .ok (.invokevirtual 47, 3) := by decide +kernel
theorem dX0_source_5 : decode cX0_source 5 = .ok (.ifCond .eq 12, 3) := by decide +kernel
theorem dX0_source_8 : decode cX0_source 8 = .ok (.aload_n 0, 1) := by decide +kernel
theorem dX0_source_9 : decode cX0_source 9 = .ok (.getfield 9, 3) := by decide +kernel
theorem dX0_source_12 : decode cX0_source 12 = .ok (.iload_n 1, 1) := by decide +kernel
theorem dX0_source_13 : decode cX0_source 13 = .ok (.iaload, 1) := by decide +kernel
theorem dX0_source_14 : decode cX0_source 14 = .ok (.goto 4, 3) := by decide +kernel
theorem dX0_source_17 : decode cX0_source 17 = .ok (.iconst 0, 1) := by decide +kernel
theorem dX0_source_18 : decode cX0_source 18 = .ok (.ireturn, 1) := by decide +kernel
set_option maxRecDepth 20000 in
theorem ggX0_target_X0_hasEdge : GoodIn wsX0_target wsX0_hasEdge := goodIn_r _ [6, 7, 8, 9, 10, 11, 12, 13, 14] (by decide +kernel) (by decide +kernel)
set_option maxRecDepth 20000 in
theorem gX0_target_X0_hasEdge : GoodIn wsX0_target (wsV RX0 47 RX0 yX0_hasEdge wsX0_hasEdge) := goodIn_app (goodIn_of _ (by decide +kernel)) ggX0_target_X0_hasEdge
theorem dX0_target_0 : decode cX0_target 0 = .ok (.aload_n 0, 1) := by decide +kernel
theorem dX0_target_1 : decode cX0_target 1 = .ok (.iload_n 1, 1) := by decide +kernel
theorem dX0_target_2 : decode cX0_target 2 = .ok (.invokevirtual 47, 3) := by decide +kernel
theorem dX0_target_5 : decode cX0_target 5 = .ok (.ifCond .eq 12, 3) := by decide +kernel
theorem dX0_target_8 : decode cX0_target 8 = .ok (.aload_n 0, 1) := by decide +kernel
theorem dX0_target_9 : decode cX0_target 9 = .ok (.getfield 15, 3) := by decide +kernel
theorem dX0_target_12 : decode cX0_target 12 = .ok (.iload_n 1, 1) := by decide +kernel
theorem dX0_target_13 : decode cX0_target 13 = .ok (.iaload, 1) := by decide +kernel
theorem dX0_target_14 : decode cX0_target 14 = .ok (.goto 4, 3) := by decide +kernel
theorem dX0_target_17 : decode cX0_target 17 = .ok (.iconst 0, 1) := by decide +kernel
theorem dX0_target_18 : decode cX0_target 18 = .ok (.ireturn, 1) := by decide +kernel
set_option maxRecDepth 20000 in
theorem ggX0_statedWeight_X0_hasEdge : GoodIn wsX0_statedWeight wsX0_hasEdge := goodIn_r _ [6, 7, 8, 9, 10, 11, 12, 13, 14] (by decide +kernel) (by decide +kernel)
set_option maxRecDepth 20000 in
theorem gX0_statedWeight_X0_hasEdge : GoodIn wsX0_statedWeight (wsV RX0 47 RX0 yX0_hasEdge wsX0_hasEdge) := goodIn_app (goodIn_of _ (by decide +kernel)) ggX0_statedWeight_X0_hasEdge
theorem dX0_statedWeight_0 : decode cX0_statedWeight 0 = .ok (.aload_n 0, 1) := by decide +kernel
theorem dX0_statedWeight_1 : decode cX0_statedWeight 1 = .ok (.iload_n 1, 1) := by decide +kernel
theorem dX0_statedWeight_2 : decode cX0_statedWeight 2 = .ok (.invokevirtual 47, 3) := by decide +kernel
theorem dX0_statedWeight_5 : decode cX0_statedWeight 5 = .ok (.ifCond .eq 12, 3) := by decide +kernel
theorem dX0_statedWeight_8 : decode cX0_statedWeight 8 = .ok (.aload_n 0, 1) := by decide +kernel
theorem dX0_statedWeight_9 : decode cX0_statedWeight 9 = .ok (.getfield 18, 3) := by decide +kernel
theorem dX0_statedWeight_12 : decode cX0_statedWeight 12 = .ok (.iload_n 1, 1) := by decide +kernel
theorem dX0_statedWeight_13 : decode cX0_statedWeight 13 = .ok (.iaload, 1) := by decide +kernel
theorem dX0_statedWeight_14 : decode cX0_statedWeight 14 = .ok (.goto 4, 3) := by decide +kernel
theorem dX0_statedWeight_17 : decode cX0_statedWeight 17 = .ok (.iconst 0, 1) := by decide +kernel
theorem dX0_statedWeight_18 : decode cX0_statedWeight 18 = .ok (.ireturn, 1) := by decide +kernel
set_option maxRecDepth 20000 in
theorem ggX0_leavingCount_X0_hasBlock : GoodIn wsX0_leavingCount wsX0_hasBlock := goodIn_r _ [6, 7, 8, 9, 10, 11, 12, 13, 14] (by decide +kernel) (by decide +kernel)
set_option maxRecDepth 20000 in
theorem gX0_leavingCount_X0_hasBlock : GoodIn wsX0_leavingCount (wsV RX0 43 RX0 yX0_hasBlock wsX0_hasBlock) := goodIn_app (goodIn_of _ (by decide +kernel)) ggX0_leavingCount_X0_hasBlock
theorem dX0_leavingCount_0 : decode cX0_leavingCount 0 = .ok (.aload_n 0, 1) := by decide +kernel
theorem dX0_leavingCount_1 : decode cX0_leavingCount 1 = .ok (.iload_n 1, 1) := by decide +kernel
theorem dX0_leavingCount_2 : decode cX0_leavingCount 2 = .ok (.invokevirtual 43, 3) := by decide +kernel
theorem dX0_leavingCount_5 : decode cX0_leavingCount 5 = .ok (.ifCond .eq 12, 3) := by decide +kernel
theorem dX0_leavingCount_8 : decode cX0_leavingCount 8 = .ok (.aload_n 0, 1) := by decide +kernel
theorem dX0_leavingCount_9 : decode cX0_leavingCount 9 = .ok (.getfield 26, 3) := by decide +kernel
theorem dX0_leavingCount_12 : decode cX0_leavingCount 12 = .ok (.iload_n 1, 1) := by decide +kernel
theorem dX0_leavingCount_13 : decode cX0_leavingCount 13 = .ok (.iaload, 1) := by decide +kernel
theorem dX0_leavingCount_14 : decode cX0_leavingCount 14 = .ok (.goto 4, 3) := by decide +kernel
theorem dX0_leavingCount_17 : decode cX0_leavingCount 17 = .ok (.iconst 0, 1) := by decide +kernel
theorem dX0_leavingCount_18 : decode cX0_leavingCount 18 = .ok (.ireturn, 1) := by decide +kernel
set_option maxRecDepth 20000 in
theorem ggX0_leavingEdge_X0_leavingCount : GoodIn wsX0_leavingEdge wsX0_leavingCount := goodIn_r _ [6, 7, 8, 9, 10, 5, 11, 12, 13, 14, 15, 16, 17, 18, 19] (by decide +kernel) (by decide +kernel)
set_option maxRecDepth 20000 in
theorem gX0_leavingEdge_X0_leavingCount : GoodIn wsX0_leavingEdge (wsV RX0 36 RX0 yX0_leavingCount wsX0_leavingCount) := goodIn_app (goodIn_of _ (by decide +kernel)) ggX0_leavingEdge_X0_leavingCount
theorem dX0_leavingEdge_0 : decode cX0_leavingEdge 0 = .ok (.iload_n 2, 1) := by decide +kernel
theorem dX0_leavingEdge_1 : decode cX0_leavingEdge 1 = .ok (.ifCond .lt 18, 3) := by decide +kernel
theorem dX0_leavingEdge_4 : decode cX0_leavingEdge 4 = .ok (.iload_n 2, 1) := by decide +kernel
theorem dX0_leavingEdge_5 : decode cX0_leavingEdge 5 = .ok (.aload_n 0, 1) := by decide +kernel
theorem dX0_leavingEdge_6 : decode cX0_leavingEdge 6 = .ok (.iload_n 1, 1) := by decide +kernel
theorem dX0_leavingEdge_7 : decode cX0_leavingEdge 7 = .ok (.invokevirtual 36, 3) := by decide +kernel
theorem dX0_leavingEdge_10 : decode cX0_leavingEdge 10 = .ok (.if_icmp .ge 9, 3) := by decide +kernel
theorem dX0_leavingEdge_13 : decode cX0_leavingEdge 13 = .ok (.iload_n 2, 1) := by decide +kernel
theorem dX0_leavingEdge_14 : decode cX0_leavingEdge 14 = .ok (.bipush 20, 2) := by decide +kernel
theorem dX0_leavingEdge_16 : decode cX0_leavingEdge 16 = .ok (.if_icmp .lt 5, 3) := by decide +kernel
theorem dX0_leavingEdge_19 : decode cX0_leavingEdge 19 = .ok (.iconst (-1), 1) := by decide +kernel
theorem dX0_leavingEdge_20 : decode cX0_leavingEdge 20 = .ok (.ireturn, 1) := by decide +kernel
theorem dX0_leavingEdge_21 : decode cX0_leavingEdge 21 = .ok (.aload_n 0, 1) := by decide +kernel
theorem dX0_leavingEdge_22 : decode cX0_leavingEdge 22 = .ok (.getfield 23, 3) := by decide +kernel
theorem dX0_leavingEdge_25 : decode cX0_leavingEdge 25 = .ok (.iload_n 1, 1) := by decide +kernel
theorem dX0_leavingEdge_26 : decode cX0_leavingEdge 26 = .ok (.aaload, 1) := by decide +kernel
theorem dX0_leavingEdge_27 : decode cX0_leavingEdge 27 = .ok (.iload_n 2, 1) := by decide +kernel
theorem dX0_leavingEdge_28 : decode cX0_leavingEdge 28 = .ok (.iaload, 1) := by decide +kernel
theorem dX0_leavingEdge_29 : decode cX0_leavingEdge 29 = .ok (.ireturn, 1) := by decide +kernel
set_option maxRecDepth 20000 in
theorem ggX0_isComplete_X0_exit : GoodIn wsX0_isComplete wsX0_exit := goodIn_r _ [7, 1, 42, 43, 44, 45, 46, 47, 48] (by decide +kernel) (by decide +kernel)
set_option maxRecDepth 20000 in
theorem gX0_isComplete_X0_exit : GoodIn wsX0_isComplete (wsV RX0 50 RX0 yX0_exit wsX0_exit) := goodIn_app (goodIn_of _ (by decide +kernel)) ggX0_isComplete_X0_exit
set_option maxRecDepth 20000 in
theorem ggX0_isComplete_X0_leavingCount : GoodIn wsX0_isComplete wsX0_leavingCount := goodIn_r _ [11, 12, 13, 14, 15, 6, 16, 1, 42, 43, 44, 45, 46, 47, 48] (by decide +kernel) (by decide +kernel)
set_option maxRecDepth 20000 in
theorem gX0_isComplete_X0_leavingCount : GoodIn wsX0_isComplete (wsV RX0 36 RX0 yX0_leavingCount wsX0_leavingCount) := goodIn_app (goodIn_of _ (by decide +kernel)) ggX0_isComplete_X0_leavingCount
set_option maxRecDepth 20000 in
theorem ggX0_isComplete_X0_reach : GoodIn wsX0_isComplete wsX0_reach := goodIn_r _ [20, 1, 2, 3, 4, 5, 6, 7, 21, 22, 23, 24, 25, 26, 27, 28, 29, 30, 31, 32, 33, 34, 35, 36, 37, 38, 39, 40, 41, 42, 43, 44, 45, 46, 47, 48] (by decide +kernel) (by decide +kernel)
set_option maxRecDepth 20000 in
theorem gX0_isComplete_X0_reach : GoodIn wsX0_isComplete (wsV RX0 54 RX0 yX0_reach wsX0_reach) := goodIn_app (goodIn_of _ (by decide +kernel)) ggX0_isComplete_X0_reach
theorem dX0_isComplete_0 : decode cX0_isComplete 0 = .ok (.iconst 0, 1) := by decide +kernel
theorem dX0_isComplete_1 : decode cX0_isComplete 1 = .ok (.istore_n 1, 1) := by decide +kernel
theorem dX0_isComplete_2 : decode cX0_isComplete 2 = .ok (.iload_n 1, 1) := by decide +kernel
theorem dX0_isComplete_3 : decode cX0_isComplete 3 = .ok (.aload_n 0, 1) := by decide +kernel
theorem dX0_isComplete_4 : decode cX0_isComplete 4 = .ok (.invokevirtual 50, 3) := by decide +kernel
theorem dX0_isComplete_7 : decode cX0_isComplete 7 = .ok (.if_icmp .ge 19, 3) := by decide +kernel
theorem dX0_isComplete_10 : decode cX0_isComplete 10 = .ok (.aload_n 0, 1) := by decide +kernel
theorem dX0_isComplete_11 : decode cX0_isComplete 11 = .ok (.iload_n 1, 1) := by decide +kernel
theorem dX0_isComplete_12 : decode cX0_isComplete 12 = .ok (.invokevirtual 36, 3) := by decide +kernel
theorem dX0_isComplete_15 : decode cX0_isComplete 15 = .ok (.ifCond .ne 5, 3) := by decide +kernel
theorem dX0_isComplete_18 : decode cX0_isComplete 18 = .ok (.iconst 0, 1) := by decide +kernel
theorem dX0_isComplete_19 : decode cX0_isComplete 19 = .ok (.ireturn, 1) := by decide +kernel
theorem dX0_isComplete_20 : decode cX0_isComplete 20 = .ok (.iinc 1 1, 3) := by decide +kernel
theorem dX0_isComplete_23 : decode cX0_isComplete 23 = .ok (.goto (-21), 3) := by decide +kernel
theorem dX0_isComplete_26 : decode cX0_isComplete 26 = .ok (.iconst 1, 1) := by decide +kernel
theorem dX0_isComplete_27 : decode cX0_isComplete 27 = .ok (.aload_n 0, 1) := by decide +kernel
theorem dX0_isComplete_28 : decode cX0_isComplete 28 = .ok (.getfield 29, 3) := by decide +kernel
theorem dX0_isComplete_31 : decode cX0_isComplete 31 = .ok (.ishl, 1) := by decide +kernel
theorem dX0_isComplete_32 : decode cX0_isComplete 32 = .ok (.iconst 1, 1) := by decide +kernel
theorem dX0_isComplete_33 : decode cX0_isComplete 33 = .ok (.isub, 1) := by decide +kernel
theorem dX0_isComplete_34 : decode cX0_isComplete 34 = .ok (.istore_n 1, 1) := by decide +kernel
theorem dX0_isComplete_35 : decode cX0_isComplete 35 = .ok (.iconst 1, 1) := by decide +kernel
theorem dX0_isComplete_36 : decode cX0_isComplete 36 = .ok (.aload_n 0, 1) := by decide +kernel
theorem dX0_isComplete_37 : decode cX0_isComplete 37 = .ok (.getfield 33, 3) := by decide +kernel
theorem dX0_isComplete_40 : decode cX0_isComplete 40 = .ok (.ishl, 1) := by decide +kernel
theorem dX0_isComplete_41 : decode cX0_isComplete 41 = .ok (.iconst 1, 1) := by decide +kernel
theorem dX0_isComplete_42 : decode cX0_isComplete 42 = .ok (.isub, 1) := by decide +kernel
theorem dX0_isComplete_43 : decode cX0_isComplete 43 = .ok (.istore_n 2, 1) := by decide +kernel
theorem dX0_isComplete_44 : decode cX0_isComplete 44 = .ok (.aload_n 0, 1) := by decide +kernel
theorem dX0_isComplete_45 : decode cX0_isComplete 45 = .ok (.getfield 29, 3) := by decide +kernel
theorem dX0_isComplete_48 : decode cX0_isComplete 48 = .ok (.iconst 2, 1) := by decide +kernel
theorem dX0_isComplete_49 : decode cX0_isComplete 49 = .ok (.if_icmp .lt 17, 3) := by decide +kernel
theorem dX0_isComplete_52 : decode cX0_isComplete 52 = .ok (.aload_n 0, 1) := by decide +kernel
theorem dX0_isComplete_53 : decode cX0_isComplete 53 = .ok (.iconst 0, 1) := by decide +kernel
theorem dX0_isComplete_54 : decode cX0_isComplete 54 = .ok (.iload_n 2, 1) := by decide +kernel
theorem dX0_isComplete_55 : decode cX0_isComplete 55 = .ok (.invokevirtual 54, 3) := by decide +kernel
theorem dX0_isComplete_58 : decode cX0_isComplete 58 = .ok (.iload_n 1, 1) := by decide +kernel
theorem dX0_isComplete_59 : decode cX0_isComplete 59 = .ok (.if_icmp .ne 7, 3) := by decide +kernel
theorem dX0_isComplete_62 : decode cX0_isComplete 62 = .ok (.iconst 1, 1) := by decide +kernel
theorem dX0_isComplete_63 : decode cX0_isComplete 63 = .ok (.goto 4, 3) := by decide +kernel
theorem dX0_isComplete_66 : decode cX0_isComplete 66 = .ok (.iconst 0, 1) := by decide +kernel
theorem dX0_isComplete_67 : decode cX0_isComplete 67 = .ok (.ireturn, 1) := by decide +kernel
set_option maxRecDepth 20000 in
theorem ggX0_reach_X0_exit : GoodIn wsX0_reach wsX0_exit := goodIn_r _ [7, 1, 29, 30, 31, 32, 33, 34, 35] (by decide +kernel) (by decide +kernel)
set_option maxRecDepth 20000 in
theorem gX0_reach_X0_exit : GoodIn wsX0_reach (wsV RX0 50 RX0 yX0_exit wsX0_exit) := goodIn_app (goodIn_of _ (by decide +kernel)) ggX0_reach_X0_exit
set_option maxRecDepth 20000 in
theorem ggX0_reach_X0_spread : GoodIn wsX0_reach wsX0_spread := goodIn_r _ [11] (by decide +kernel) (by decide +kernel)
set_option maxRecDepth 20000 in
theorem gX0_reach_X0_spread : GoodIn wsX0_reach (wsV RX0 58 RX0 yX0_spread wsX0_spread) := goodIn_app (goodIn_of _ (by decide +kernel)) ggX0_reach_X0_spread
set_option maxRecDepth 20000 in
theorem ggX0_reach_X6_holds : GoodIn wsX0_reach wsX6_holds := goodIn_r _ [14] (by decide +kernel) (by decide +kernel)
set_option maxRecDepth 20000 in
theorem gX0_reach_X6_holds_n61 : GoodIn wsX0_reach (wsX6_holds) := ggX0_reach_X6_holds
set_option maxRecDepth 20000 in
theorem ggX0_reach_X0_source : GoodIn wsX0_reach wsX0_source := goodIn_r _ [18, 19, 20, 21, 22, 6, 23, 2, 29, 30, 31, 32, 33, 34, 35] (by decide +kernel) (by decide +kernel)
set_option maxRecDepth 20000 in
theorem gX0_reach_X0_source : GoodIn wsX0_reach (wsV RX0 65 RX0 yX0_source wsX0_source) := goodIn_app (goodIn_of _ (by decide +kernel)) ggX0_reach_X0_source
set_option maxRecDepth 20000 in
theorem ggX0_reach_X0_target : GoodIn wsX0_reach wsX0_target := goodIn_r _ [27, 28, 20, 21, 22, 6, 23, 2, 29, 30, 31, 32, 33, 34, 35] (by decide +kernel) (by decide +kernel)
set_option maxRecDepth 20000 in
theorem gX0_reach_X0_target : GoodIn wsX0_reach (wsV RX0 67 RX0 yX0_target wsX0_target) := goodIn_app (goodIn_of _ (by decide +kernel)) ggX0_reach_X0_target
theorem dX0_reach_0 : decode cX0_reach 0 = .ok (.iconst 1, 1) := by decide +kernel
theorem dX0_reach_1 : decode cX0_reach 1 = .ok (.iload_n 1, 1) := by decide +kernel
theorem dX0_reach_2 : decode cX0_reach 2 = .ok (.ishl, 1) := by decide +kernel
theorem dX0_reach_3 : decode cX0_reach 3 = .ok (.istore_n 3, 1) := by decide +kernel
theorem dX0_reach_4 : decode cX0_reach 4 = .ok (.iconst 0, 1) := by decide +kernel
theorem dX0_reach_5 : decode cX0_reach 5 = .ok (.istore 4, 2) := by decide +kernel
theorem dX0_reach_7 : decode cX0_reach 7 = .ok (.iconst 0, 1) := by decide +kernel
theorem dX0_reach_8 : decode cX0_reach 8 = .ok (.istore 5, 2) := by decide +kernel
theorem dX0_reach_10 : decode cX0_reach 10 = .ok (.iload 5, 2) := by decide +kernel
theorem dX0_reach_12 : decode cX0_reach 12 = .ok (.aload_n 0, 1) := by decide +kernel
theorem dX0_reach_13 : decode cX0_reach 13 = .ok (.getfield 29, 3) := by decide +kernel
theorem dX0_reach_16 : decode cX0_reach 16 = .ok (.if_icmp .gt 82, 3) := by decide +kernel
theorem dX0_reach_19 : decode cX0_reach 19 = .ok (.iload_n 3, 1) := by decide +kernel
theorem dX0_reach_20 : decode cX0_reach 20 = .ok (.iload 4, 2) := by decide +kernel
theorem dX0_reach_22 : decode cX0_reach 22 = .ok (.if_icmp .eq 76, 3) := by decide +kernel
theorem dX0_reach_25 : decode cX0_reach 25 = .ok (.iload_n 3, 1) := by decide +kernel
theorem dX0_reach_26 : decode cX0_reach 26 = .ok (.istore 4, 2) := by decide +kernel
theorem dX0_reach_28 : decode cX0_reach 28 = .ok (.aload_n 0, 1) := by decide +kernel
theorem dX0_reach_29 : decode cX0_reach 29 = .ok (.iload_n 3, 1) := by decide +kernel
theorem dX0_reach_30 : decode cX0_reach 30 = .ok (.iconst 1, 1) := by decide +kernel
theorem dX0_reach_31 : decode cX0_reach 31 = .ok (.iconst 1, 1) := by decide +kernel
theorem dX0_reach_32 : decode cX0_reach 32 = .ok (.aload_n 0, 1) := by decide +kernel
theorem dX0_reach_33 : decode cX0_reach 33 = .ok (.invokevirtual 50, 3) := by decide +kernel
theorem dX0_reach_36 : decode cX0_reach 36 = .ok (.ishl, 1) := by decide +kernel
theorem dX0_reach_37 : decode cX0_reach 37 = .ok (.ior, 1) := by decide +kernel
theorem dX0_reach_38 : decode cX0_reach 38 = .ok (.invokevirtual 58, 3) := by decide +kernel
theorem dX0_reach_41 : decode cX0_reach 41 = .ok (.istore_n 3, 1) := by decide +kernel
theorem dX0_reach_42 : decode cX0_reach 42 = .ok (.iconst 0, 1) := by decide +kernel
theorem dX0_reach_43 : decode cX0_reach 43 = .ok (.istore 6, 2) := by decide +kernel
theorem dX0_reach_45 : decode cX0_reach 45 = .ok (.iload 6, 2) := by decide +kernel
theorem dX0_reach_47 : decode cX0_reach 47 = .ok (.aload_n 0, 1) := by decide +kernel
theorem dX0_reach_48 : decode cX0_reach 48 = .ok (.getfield 33, 3) := by decide +kernel
theorem dX0_reach_51 : decode cX0_reach 51 = .ok (.if_icmp .ge 41, 3) := by decide +kernel
theorem dX0_reach_54 : decode cX0_reach 54 = .ok (.iload_n 2, 1) := by decide +kernel
theorem dX0_reach_55 : decode cX0_reach 55 = .ok (.iload 6, 2) := by decide +kernel
theorem dX0_reach_57 : decode cX0_reach 57 = .ok (.invokestatic 61, 3) := by decide +kernel
theorem dX0_reach_60 : decode cX0_reach 60 = .ok (.ifCond .eq 26, 3) := by decide +kernel
theorem dX0_reach_63 : decode cX0_reach 63 = .ok (.aload_n 0, 1) := by decide +kernel
theorem dX0_reach_64 : decode cX0_reach 64 = .ok (.iload_n 3, 1) := by decide +kernel
theorem dX0_reach_65 : decode cX0_reach 65 = .ok (.iconst 1, 1) := by decide +kernel
theorem dX0_reach_66 : decode cX0_reach 66 = .ok (.aload_n 0, 1) := by decide +kernel
theorem dX0_reach_67 : decode cX0_reach 67 = .ok (.iload 6, 2) := by decide +kernel
theorem dX0_reach_69 : decode cX0_reach 69 = .ok (.invokevirtual 65, 3) := by decide +kernel
theorem dX0_reach_72 : decode cX0_reach 72 = .ok (.ishl, 1) := by decide +kernel
theorem dX0_reach_73 : decode cX0_reach 73 = .ok (.iconst 1, 1) := by decide +kernel
theorem dX0_reach_74 : decode cX0_reach 74 = .ok (.aload_n 0, 1) := by decide +kernel
theorem dX0_reach_75 : decode cX0_reach 75 = .ok (.iload 6, 2) := by decide +kernel
theorem dX0_reach_77 : decode cX0_reach 77 = .ok (.invokevirtual 67, 3) := by decide +kernel
theorem dX0_reach_80 : decode cX0_reach 80 = .ok (.ishl, 1) := by decide +kernel
theorem dX0_reach_81 : decode cX0_reach 81 = .ok (.ior, 1) := by decide +kernel
theorem dX0_reach_82 : decode cX0_reach 82 = .ok (.invokevirtual 58, 3) := by decide +kernel
theorem dX0_reach_85 : decode cX0_reach 85 = .ok (.istore_n 3, 1) := by decide +kernel
theorem dX0_reach_86 : decode cX0_reach 86 = .ok (.iinc 6 1, 3) := by decide +kernel
theorem dX0_reach_89 : decode cX0_reach 89 = .ok (.goto (-44), 3) := by decide +kernel
theorem dX0_reach_92 : decode cX0_reach 92 = .ok (.iinc 5 1, 3) := by decide +kernel
theorem dX0_reach_95 : decode cX0_reach 95 = .ok (.goto (-85), 3) := by decide +kernel
theorem dX0_reach_98 : decode cX0_reach 98 = .ok (.iload_n 3, 1) := by decide +kernel
theorem dX0_reach_99 : decode cX0_reach 99 = .ok (.ireturn, 1) := by decide +kernel
theorem dX0_spread_0 : decode cX0_spread 0 = .ok (.iload_n 1, 1) := by decide +kernel
theorem dX0_spread_1 : decode cX0_spread 1 = .ok (.iload_n 2, 1) := by decide +kernel
theorem dX0_spread_2 : decode cX0_spread 2 = .ok (.iand, 1) := by decide +kernel
theorem dX0_spread_3 : decode cX0_spread 3 = .ok (.ifCond .eq 9, 3) := by decide +kernel
theorem dX0_spread_6 : decode cX0_spread 6 = .ok (.iload_n 1, 1) := by decide +kernel
theorem dX0_spread_7 : decode cX0_spread 7 = .ok (.iload_n 2, 1) := by decide +kernel
theorem dX0_spread_8 : decode cX0_spread 8 = .ok (.ior, 1) := by decide +kernel
theorem dX0_spread_9 : decode cX0_spread 9 = .ok (.goto 4, 3) := by decide +kernel
theorem dX0_spread_12 : decode cX0_spread 12 = .ok (.iload_n 1, 1) := by decide +kernel
theorem dX0_spread_13 : decode cX0_spread 13 = .ok (.ireturn, 1) := by decide +kernel
theorem dX1_init_0 : decode cX1_init 0 = .ok (.aload_n 0, 1) := by decide +kernel
theorem dX1_init_1 : decode cX1_init 1 = .ok (.invokespecial 3, 3) := by decide +kernel
theorem dX1_init_4 : decode cX1_init 4 = .ok (.aload_n 0, 1) := by decide +kernel
theorem dX1_init_5 : decode cX1_init 5 = .ok (.sipush 200, 3) := by decide +kernel
theorem dX1_init_8 : decode cX1_init 8 = .ok (.newarray .char, 2) := by decide +kernel
theorem dX1_init_10 : decode cX1_init 10 = .ok (.putfield 9, 3) := by decide +kernel
theorem dX1_init_13 : decode cX1_init 13 = .ok (.return_, 1) := by decide +kernel
theorem dX1_length_0 : decode cX1_length 0 = .ok (.aload_n 0, 1) := by decide +kernel
theorem dX1_length_1 : decode cX1_length 1 = .ok (.getfield 15, 3) := by decide +kernel
theorem dX1_length_4 : decode cX1_length 4 = .ok (.ireturn, 1) := by decide +kernel
theorem dX1_isFull_0 : decode cX1_isFull 0 = .ok (.aload_n 0, 1) := by decide +kernel
theorem dX1_isFull_1 : decode cX1_isFull 1 = .ok (.getfield 15, 3) := by decide +kernel
theorem dX1_isFull_4 : decode cX1_isFull 4 = .ok (.sipush 200, 3) := by decide +kernel
theorem dX1_isFull_7 : decode cX1_isFull 7 = .ok (.if_icmp .lt 7, 3) := by decide +kernel
theorem dX1_isFull_10 : decode cX1_isFull 10 = .ok (.iconst 1, 1) := by decide +kernel
theorem dX1_isFull_11 : decode cX1_isFull 11 = .ok (.goto 4, 3) := by decide +kernel
theorem dX1_isFull_14 : decode cX1_isFull 14 = .ok (.iconst 0, 1) := by decide +kernel
theorem dX1_isFull_15 : decode cX1_isFull 15 = .ok (.ireturn, 1) := by decide +kernel
set_option maxRecDepth 20000 in
theorem ggX1_add_X1_isFull : GoodIn wsX1_add wsX1_isFull := goodIn_r _ [7, 2, 8, 9] (by decide +kernel) (by decide +kernel)
set_option maxRecDepth 20000 in
theorem gX1_add_X1_isFull : GoodIn wsX1_add (wsV RX1 19 RX1 yX1_isFull wsX1_isFull) := goodIn_app (goodIn_of _ (by decide +kernel)) ggX1_add_X1_isFull
theorem dX1_add_0 : decode cX1_add 0 = .ok (.aload_n 0, 1) := by decide +kernel
theorem dX1_add_1 : decode cX1_add 1 = .ok (.invokevirtual 19, 3) := by decide +kernel
theorem dX1_add_4 : decode cX1_add 4 = .ok (.ifCond .ne 23, 3) := by decide +kernel
theorem dX1_add_7 : decode cX1_add 7 = .ok (.aload_n 0, 1) := by decide +kernel
theorem dX1_add_8 : decode cX1_add 8 = .ok (.getfield 9, 3) := by decide +kernel
theorem dX1_add_11 : decode cX1_add 11 = .ok (.aload_n 0, 1) := by decide +kernel
theorem dX1_add_12 : decode cX1_add 12 = .ok (.getfield 15, 3) := by decide +kernel
theorem dX1_add_15 : decode cX1_add 15 = .ok (.iload_n 1, 1) := by decide +kernel
theorem dX1_add_16 : decode cX1_add 16 = .ok (.castore, 1) := by decide +kernel
theorem dX1_add_17 : decode cX1_add 17 = .ok (.aload_n 0, 1) := by decide +kernel
theorem dX1_add_18 : decode cX1_add 18 = .ok (.dup, 1) := by decide +kernel
theorem dX1_add_19 : decode cX1_add 19 = .ok (.getfield 15, 3) := by decide +kernel
theorem dX1_add_22 : decode cX1_add 22 = .ok (.iconst 1, 1) := by decide +kernel
theorem dX1_add_23 : decode cX1_add 23 = .ok (.iadd, 1) := by decide +kernel
theorem dX1_add_24 : decode cX1_add 24 = .ok (.putfield 15, 3) := by decide +kernel
theorem dX1_add_27 : decode cX1_add 27 = .ok (.return_, 1) := by decide +kernel
theorem dX1_clear_0 : decode cX1_clear 0 = .ok (.aload_n 0, 1) := by decide +kernel
theorem dX1_clear_1 : decode cX1_clear 1 = .ok (.iconst 0, 1) := by decide +kernel
theorem dX1_clear_2 : decode cX1_clear 2 = .ok (.putfield 15, 3) := by decide +kernel
theorem dX1_clear_5 : decode cX1_clear 5 = .ok (.return_, 1) := by decide +kernel
theorem dX1_at_0 : decode cX1_at 0 = .ok (.iload_n 1, 1) := by decide +kernel
theorem dX1_at_1 : decode cX1_at 1 = .ok (.ifCond .lt 20, 3) := by decide +kernel
theorem dX1_at_4 : decode cX1_at 4 = .ok (.iload_n 1, 1) := by decide +kernel
theorem dX1_at_5 : decode cX1_at 5 = .ok (.aload_n 0, 1) := by decide +kernel
theorem dX1_at_6 : decode cX1_at 6 = .ok (.getfield 15, 3) := by decide +kernel
theorem dX1_at_9 : decode cX1_at 9 = .ok (.if_icmp .ge 12, 3) := by decide +kernel
theorem dX1_at_12 : decode cX1_at 12 = .ok (.aload_n 0, 1) := by decide +kernel
theorem dX1_at_13 : decode cX1_at 13 = .ok (.getfield 9, 3) := by decide +kernel
theorem dX1_at_16 : decode cX1_at 16 = .ok (.iload_n 1, 1) := by decide +kernel
theorem dX1_at_17 : decode cX1_at 17 = .ok (.caload, 1) := by decide +kernel
theorem dX1_at_18 : decode cX1_at 18 = .ok (.goto 4, 3) := by decide +kernel
theorem dX1_at_21 : decode cX1_at 21 = .ok (.iconst 0, 1) := by decide +kernel
theorem dX1_at_22 : decode cX1_at 22 = .ok (.ireturn, 1) := by decide +kernel
set_option maxRecDepth 20000 in
theorem ggX2_init_X3_init : GoodIn wsX2_init wsX3_init := goodIn_r _ [13, 14, 2, 3, 15, 16, 17, 27, 28, 29] (by decide +kernel) (by decide +kernel)
set_option maxRecDepth 20000 in
theorem gX2_init_X3_init_n23 : GoodIn wsX2_init (wsX3_init) := ggX2_init_X3_init
set_option maxRecDepth 20000 in
theorem ggX2_init_X4_init : GoodIn wsX2_init wsX4_init := goodIn_r _ [19, 20, 2, 3, 15, 21, 22, 30, 31, 32, 33, 34] (by decide +kernel) (by decide +kernel)
set_option maxRecDepth 20000 in
theorem gX2_init_X4_init_n24 : GoodIn wsX2_init (wsX4_init) := ggX2_init_X4_init
theorem dX2_init_0 : decode cX2_init 0 = .ok (.aload_n 0, 1) := by decide +kernel
theorem dX2_init_1 : decode cX2_init 1 = .ok (.invokespecial 3, 3) := by decide +kernel
theorem dX2_init_4 : decode cX2_init 4 = .ok (.aload_n 0, 1) := by decide +kernel
theorem dX2_init_5 : decode cX2_init 5 = .ok (.iconst 4, 1) := by decide +kernel
theorem dX2_init_6 : decode cX2_init 6 = .ok (.anewarray 9, 3) := by decide +kernel
theorem dX2_init_9 : decode cX2_init 9 = .ok (.putfield 11, 3) := by decide +kernel
theorem dX2_init_12 : decode cX2_init 12 = .ok (.aload_n 0, 1) := by decide +kernel
theorem dX2_init_13 : decode cX2_init 13 = .ok (.iconst 4, 1) := by decide +kernel
theorem dX2_init_14 : decode cX2_init 14 = .ok (.anewarray 17, 3) := by decide +kernel
theorem dX2_init_17 : decode cX2_init 17 = .ok (.putfield 19, 3) := by decide +kernel
theorem dX2_init_20 : decode cX2_init 20 = .ok (.iconst 0, 1) := by decide +kernel
theorem dX2_init_21 : decode cX2_init 21 = .ok (.istore_n 1, 1) := by decide +kernel
theorem dX2_init_22 : decode cX2_init 22 = .ok (.iload_n 1, 1) := by decide +kernel
theorem dX2_init_23 : decode cX2_init 23 = .ok (.iconst 4, 1) := by decide +kernel
theorem dX2_init_24 : decode cX2_init 24 = .ok (.if_icmp .ge 35, 3) := by decide +kernel
theorem dX2_init_27 : decode cX2_init 27 = .ok (.aload_n 0, 1) := by decide +kernel
theorem dX2_init_28 : decode cX2_init 28 = .ok (.getfield 11, 3) := by decide +kernel
theorem dX2_init_31 : decode cX2_init 31 = .ok (.iload_n 1, 1) := by decide +kernel
theorem dX2_init_32 : decode cX2_init 32 = .ok (.new 9, 3) := by decide +kernel
theorem dX2_init_35 : decode cX2_init 35 = .ok (.dup, 1) := by decide +kernel
theorem dX2_init_36 : decode cX2_init 36 = .ok (.invokespecial 23, 3) := by decide +kernel
theorem dX2_init_39 : decode cX2_init 39 = .ok (.aastore, 1) := by decide +kernel
theorem dX2_init_40 : decode cX2_init 40 = .ok (.aload_n 0, 1) := by decide +kernel
theorem dX2_init_41 : decode cX2_init 41 = .ok (.getfield 19, 3) := by decide +kernel
theorem dX2_init_44 : decode cX2_init 44 = .ok (.iload_n 1, 1) := by decide +kernel
theorem dX2_init_45 : decode cX2_init 45 = .ok (.new 17, 3) := by decide +kernel
theorem dX2_init_48 : decode cX2_init 48 = .ok (.dup, 1) := by decide +kernel
theorem dX2_init_49 : decode cX2_init 49 = .ok (.invokespecial 24, 3) := by decide +kernel
theorem dX2_init_52 : decode cX2_init 52 = .ok (.aastore, 1) := by decide +kernel
theorem dX2_init_53 : decode cX2_init 53 = .ok (.iinc 1 1, 3) := by decide +kernel
theorem dX2_init_56 : decode cX2_init 56 = .ok (.goto (-34), 3) := by decide +kernel
theorem dX2_init_59 : decode cX2_init 59 = .ok (.return_, 1) := by decide +kernel
theorem dX2_size_0 : decode cX2_size 0 = .ok (.aload_n 0, 1) := by decide +kernel
theorem dX2_size_1 : decode cX2_size 1 = .ok (.getfield 25, 3) := by decide +kernel
theorem dX2_size_4 : decode cX2_size 4 = .ok (.ireturn, 1) := by decide +kernel
theorem dX2_isEmpty_0 : decode cX2_isEmpty 0 = .ok (.aload_n 0, 1) := by decide +kernel
theorem dX2_isEmpty_1 : decode cX2_isEmpty 1 = .ok (.getfield 25, 3) := by decide +kernel
theorem dX2_isEmpty_4 : decode cX2_isEmpty 4 = .ok (.ifCond .ne 7, 3) := by decide +kernel
theorem dX2_isEmpty_7 : decode cX2_isEmpty 7 = .ok (.iconst 1, 1) := by decide +kernel
theorem dX2_isEmpty_8 : decode cX2_isEmpty 8 = .ok (.goto 4, 3) := by decide +kernel
theorem dX2_isEmpty_11 : decode cX2_isEmpty 11 = .ok (.iconst 0, 1) := by decide +kernel
theorem dX2_isEmpty_12 : decode cX2_isEmpty 12 = .ok (.ireturn, 1) := by decide +kernel
theorem dX2_forget_0 : decode cX2_forget 0 = .ok (.aload_n 0, 1) := by decide +kernel
theorem dX2_forget_1 : decode cX2_forget 1 = .ok (.iconst 0, 1) := by decide +kernel
theorem dX2_forget_2 : decode cX2_forget 2 = .ok (.putfield 25, 3) := by decide +kernel
theorem dX2_forget_5 : decode cX2_forget 5 = .ok (.return_, 1) := by decide +kernel
set_option maxRecDepth 20000 in
theorem ggX2_remember_X3_copyFrom : GoodIn wsX2_remember wsX3_copyFrom := goodIn_r _ [13, 14, 15, 16, 31, 32, 33] (by decide +kernel) (by decide +kernel)
set_option maxRecDepth 20000 in
theorem gX2_remember_X3_copyFrom : GoodIn wsX2_remember (wsV RX2 32 RX3 yX3_copyFrom wsX3_copyFrom) := goodIn_app (goodIn_of _ (by decide +kernel)) ggX2_remember_X3_copyFrom
set_option maxRecDepth 20000 in
theorem ggX2_remember_X4_copyFrom : GoodIn wsX2_remember wsX4_copyFrom := goodIn_r _ [21, 22, 23, 24, 25, 26, 34, 35, 36, 37, 38] (by decide +kernel) (by decide +kernel)
set_option maxRecDepth 20000 in
theorem gX2_remember_X4_copyFrom : GoodIn wsX2_remember (wsV RX2 36 RX4 yX4_copyFrom wsX4_copyFrom) := goodIn_app (goodIn_of _ (by decide +kernel)) ggX2_remember_X4_copyFrom
theorem dX2_remember_0 : decode cX2_remember 0 = .ok (.aload_n 0, 1) := by decide +kernel
theorem dX2_remember_1 : decode cX2_remember 1 = .ok (.aload_n 0, 1) := by decide +kernel
theorem dX2_remember_2 : decode cX2_remember 2 = .ok (.getfield 29, 3) := by decide +kernel
theorem dX2_remember_5 : decode cX2_remember 5 = .ok (.iconst 3, 1) := by decide +kernel
theorem dX2_remember_6 : decode cX2_remember 6 = .ok (.if_icmp .lt 7, 3) := by decide +kernel
theorem dX2_remember_9 : decode cX2_remember 9 = .ok (.iconst 0, 1) := by decide +kernel
theorem dX2_remember_10 : decode cX2_remember 10 = .ok (.goto 9, 3) := by decide +kernel
theorem dX2_remember_13 : decode cX2_remember 13 = .ok (.aload_n 0, 1) := by decide +kernel
theorem dX2_remember_14 : decode cX2_remember 14 = .ok (.getfield 29, 3) := by decide +kernel
theorem dX2_remember_17 : decode cX2_remember 17 = .ok (.iconst 1, 1) := by decide +kernel
theorem dX2_remember_18 : decode cX2_remember 18 = .ok (.iadd, 1) := by decide +kernel
theorem dX2_remember_19 : decode cX2_remember 19 = .ok (.putfield 29, 3) := by decide +kernel
theorem dX2_remember_22 : decode cX2_remember 22 = .ok (.aload_n 0, 1) := by decide +kernel
theorem dX2_remember_23 : decode cX2_remember 23 = .ok (.getfield 11, 3) := by decide +kernel
theorem dX2_remember_26 : decode cX2_remember 26 = .ok (.aload_n 0, 1) := by decide +kernel
theorem dX2_remember_27 : decode cX2_remember 27 = .ok (.getfield 29, 3) := by decide +kernel
theorem dX2_remember_30 : decode cX2_remember 30 = .ok (.aaload, 1) := by decide +kernel
theorem dX2_remember_31 : decode cX2_remember 31 = .ok (.aload_n 1, 1) := by decide +kernel
theorem dX2_remember_32 : decode cX2_remember 32 = .ok (.invokevirtual 32, 3) := by decide +kernel
theorem dX2_remember_35 : decode cX2_remember 35 = .ok (.aload_n 0, 1) := by decide +kernel
theorem dX2_remember_36 : decode cX2_remember 36 = .ok (.getfield 19, 3) := by decide +kernel
theorem dX2_remember_39 : decode cX2_remember 39 = .ok (.aload_n 0, 1) := by decide +kernel
theorem dX2_remember_40 : decode cX2_remember 40 = .ok (.getfield 29, 3) := by decide +kernel
theorem dX2_remember_43 : decode cX2_remember 43 = .ok (.aaload, 1) := by decide +kernel
theorem dX2_remember_44 : decode cX2_remember 44 = .ok (.aload_n 2, 1) := by decide +kernel
theorem dX2_remember_45 : decode cX2_remember 45 = .ok (.invokevirtual 36, 3) := by decide +kernel
theorem dX2_remember_48 : decode cX2_remember 48 = .ok (.aload_n 0, 1) := by decide +kernel
theorem dX2_remember_49 : decode cX2_remember 49 = .ok (.aload_n 0, 1) := by decide +kernel
theorem dX2_remember_50 : decode cX2_remember 50 = .ok (.getfield 25, 3) := by decide +kernel
theorem dX2_remember_53 : decode cX2_remember 53 = .ok (.iconst 1, 1) := by decide +kernel
theorem dX2_remember_54 : decode cX2_remember 54 = .ok (.iadd, 1) := by decide +kernel
theorem dX2_remember_55 : decode cX2_remember 55 = .ok (.iconst 4, 1) := by decide +kernel
theorem dX2_remember_56 : decode cX2_remember 56 = .ok (.invokestatic 39, 3) := by decide +kernel
theorem dX2_remember_59 : decode cX2_remember 59 = .ok (.putfield 25, 3) := by decide +kernel
theorem dX2_remember_62 : decode cX2_remember 62 = .ok (.return_, 1) := by decide +kernel
set_option maxRecDepth 20000 in
theorem ggX2_takeBack_X2_isEmpty : GoodIn wsX2_takeBack wsX2_isEmpty := goodIn_r _ [9, 4, 28, 29, 30, 31] (by decide +kernel) (by decide +kernel)
set_option maxRecDepth 20000 in
theorem gX2_takeBack_X2_isEmpty : GoodIn wsX2_takeBack (wsV RX2 45 RX2 yX2_isEmpty wsX2_isEmpty) := goodIn_app (goodIn_of _ (by decide +kernel)) ggX2_takeBack_X2_isEmpty
set_option maxRecDepth 20000 in
theorem ggX2_takeBack_X3_copyFrom : GoodIn wsX2_takeBack wsX3_copyFrom := goodIn_r _ [14, 15, 16, 17, 32, 33, 34] (by decide +kernel) (by decide +kernel)
set_option maxRecDepth 20000 in
theorem gX2_takeBack_X3_copyFrom : GoodIn wsX2_takeBack (wsV RX2 32 RX3 yX3_copyFrom wsX3_copyFrom) := goodIn_app (goodIn_of _ (by decide +kernel)) ggX2_takeBack_X3_copyFrom
set_option maxRecDepth 20000 in
theorem ggX2_takeBack_X4_copyFrom : GoodIn wsX2_takeBack wsX4_copyFrom := goodIn_r _ [22, 23, 24, 25, 26, 27, 35, 36, 37, 38, 39] (by decide +kernel) (by decide +kernel)
set_option maxRecDepth 20000 in
theorem gX2_takeBack_X4_copyFrom : GoodIn wsX2_takeBack (wsV RX2 36 RX4 yX4_copyFrom wsX4_copyFrom) := goodIn_app (goodIn_of _ (by decide +kernel)) ggX2_takeBack_X4_copyFrom
theorem dX2_takeBack_0 : decode cX2_takeBack 0 = .ok (.aload_n 0, 1) := by decide +kernel
theorem dX2_takeBack_1 : decode cX2_takeBack 1 = .ok (.invokevirtual 45, 3) := by decide +kernel
theorem dX2_takeBack_4 : decode cX2_takeBack 4 = .ok (.ifCond .eq 4, 3) := by decide +kernel
theorem dX2_takeBack_7 : decode cX2_takeBack 7 = .ok (.return_, 1) := by decide +kernel
theorem dX2_takeBack_8 : decode cX2_takeBack 8 = .ok (.aload_n 1, 1) := by decide +kernel
theorem dX2_takeBack_9 : decode cX2_takeBack 9 = .ok (.aload_n 0, 1) := by decide +kernel
theorem dX2_takeBack_10 : decode cX2_takeBack 10 = .ok (.getfield 11, 3) := by decide +kernel
theorem dX2_takeBack_13 : decode cX2_takeBack 13 = .ok (.aload_n 0, 1) := by decide +kernel
theorem dX2_takeBack_14 : decode cX2_takeBack 14 = .ok (.getfield 29, 3) := by decide +kernel
theorem dX2_takeBack_17 : decode cX2_takeBack 17 = .ok (.aaload, 1) := by decide +kernel
theorem dX2_takeBack_18 : decode cX2_takeBack 18 = .ok (.invokevirtual 32, 3) := by decide +kernel
theorem dX2_takeBack_21 : decode cX2_takeBack 21 = .ok (.aload_n 2, 1) := by decide +kernel
theorem dX2_takeBack_22 : decode cX2_takeBack 22 = .ok (.aload_n 0, 1) := by decide +kernel
theorem dX2_takeBack_23 : decode cX2_takeBack 23 = .ok (.getfield 19, 3) := by decide +kernel
theorem dX2_takeBack_26 : decode cX2_takeBack 26 = .ok (.aload_n 0, 1) := by decide +kernel
theorem dX2_takeBack_27 : decode cX2_takeBack 27 = .ok (.getfield 29, 3) := by decide +kernel
theorem dX2_takeBack_30 : decode cX2_takeBack 30 = .ok (.aaload, 1) := by decide +kernel
theorem dX2_takeBack_31 : decode cX2_takeBack 31 = .ok (.invokevirtual 36, 3) := by decide +kernel
theorem dX2_takeBack_34 : decode cX2_takeBack 34 = .ok (.aload_n 0, 1) := by decide +kernel
theorem dX2_takeBack_35 : decode cX2_takeBack 35 = .ok (.aload_n 0, 1) := by decide +kernel
theorem dX2_takeBack_36 : decode cX2_takeBack 36 = .ok (.getfield 29, 3) := by decide +kernel
theorem dX2_takeBack_39 : decode cX2_takeBack 39 = .ok (.ifCond .gt 7, 3) := by decide +kernel
theorem dX2_takeBack_42 : decode cX2_takeBack 42 = .ok (.iconst 3, 1) := by decide +kernel
theorem dX2_takeBack_43 : decode cX2_takeBack 43 = .ok (.goto 9, 3) := by decide +kernel
theorem dX2_takeBack_46 : decode cX2_takeBack 46 = .ok (.aload_n 0, 1) := by decide +kernel
theorem dX2_takeBack_47 : decode cX2_takeBack 47 = .ok (.getfield 29, 3) := by decide +kernel
theorem dX2_takeBack_50 : decode cX2_takeBack 50 = .ok (.iconst 1, 1) := by decide +kernel
theorem dX2_takeBack_51 : decode cX2_takeBack 51 = .ok (.isub, 1) := by decide +kernel
theorem dX2_takeBack_52 : decode cX2_takeBack 52 = .ok (.putfield 29, 3) := by decide +kernel
theorem dX2_takeBack_55 : decode cX2_takeBack 55 = .ok (.aload_n 0, 1) := by decide +kernel
theorem dX2_takeBack_56 : decode cX2_takeBack 56 = .ok (.dup, 1) := by decide +kernel
theorem dX2_takeBack_57 : decode cX2_takeBack 57 = .ok (.getfield 25, 3) := by decide +kernel
theorem dX2_takeBack_60 : decode cX2_takeBack 60 = .ok (.iconst 1, 1) := by decide +kernel
theorem dX2_takeBack_61 : decode cX2_takeBack 61 = .ok (.isub, 1) := by decide +kernel
theorem dX2_takeBack_62 : decode cX2_takeBack 62 = .ok (.putfield 25, 3) := by decide +kernel
theorem dX2_takeBack_65 : decode cX2_takeBack 65 = .ok (.return_, 1) := by decide +kernel
theorem dX3_init_0 : decode cX3_init 0 = .ok (.aload_n 0, 1) := by decide +kernel
theorem dX3_init_1 : decode cX3_init 1 = .ok (.invokespecial 3, 3) := by decide +kernel
theorem dX3_init_4 : decode cX3_init 4 = .ok (.aload_n 0, 1) := by decide +kernel
theorem dX3_init_5 : decode cX3_init 5 = .ok (.bipush 20, 2) := by decide +kernel
theorem dX3_init_7 : decode cX3_init 7 = .ok (.newarray .int, 2) := by decide +kernel
theorem dX3_init_9 : decode cX3_init 9 = .ok (.putfield 9, 3) := by decide +kernel
theorem dX3_init_12 : decode cX3_init 12 = .ok (.aload_n 0, 1) := by decide +kernel
theorem dX3_init_13 : decode cX3_init 13 = .ok (.bipush 20, 2) := by decide +kernel
theorem dX3_init_15 : decode cX3_init 15 = .ok (.newarray .int, 2) := by decide +kernel
theorem dX3_init_17 : decode cX3_init 17 = .ok (.putfield 15, 3) := by decide +kernel
theorem dX3_init_20 : decode cX3_init 20 = .ok (.return_, 1) := by decide +kernel
set_option maxRecDepth 20000 in
theorem ggX3_begin_X0_statedWeight : GoodIn wsX3_begin wsX0_statedWeight := goodIn_r _ [6, 7, 8, 9, 10, 5, 11, 12, 71, 72, 73, 74, 75, 76, 77] (by decide +kernel) (by decide +kernel)
set_option maxRecDepth 20000 in
theorem gX3_begin_X0_statedWeight : GoodIn wsX3_begin (wsV RX3 18 RX0 yX0_statedWeight wsX0_statedWeight) := goodIn_app (goodIn_of _ (by decide +kernel)) ggX3_begin_X0_statedWeight
set_option maxRecDepth 20000 in
theorem ggX3_begin_X3_findTree : GoodIn wsX3_begin wsX3_findTree := goodIn_r _ [17, 18, 19, 20, 21, 5, 22, 12, 23, 24, 25, 16, 26, 27, 28, 29, 30, 31, 32, 33, 1, 34, 35, 36, 37, 38, 8, 9, 10, 11, 39, 40, 41, 42, 43, 44, 45, 46, 47, 48, 49, 50, 51, 52, 53, 54, 55, 56, 57, 58, 59, 60, 61, 62, 63, 64, 65, 66, 67, 68, 69, 70, 71, 72, 73, 74, 75, 76, 77] (by decide +kernel) (by decide +kernel)
set_option maxRecDepth 20000 in
theorem gX3_begin_X3_findTree : GoodIn wsX3_begin (wsV RX3 24 RX3 yX3_findTree wsX3_findTree) := goodIn_app (goodIn_of _ (by decide +kernel)) ggX3_begin_X3_findTree
theorem dX3_begin_0 : decode cX3_begin 0 = .ok (.iconst 0, 1) := by decide +kernel
theorem dX3_begin_1 : decode cX3_begin 1 = .ok (.istore_n 2, 1) := by decide +kernel
theorem dX3_begin_2 : decode cX3_begin 2 = .ok (.iload_n 2, 1) := by decide +kernel
theorem dX3_begin_3 : decode cX3_begin 3 = .ok (.bipush 20, 2) := by decide +kernel
theorem dX3_begin_5 : decode cX3_begin 5 = .ok (.if_icmp .ge 20, 3) := by decide +kernel
theorem dX3_begin_8 : decode cX3_begin 8 = .ok (.aload_n 0, 1) := by decide +kernel
theorem dX3_begin_9 : decode cX3_begin 9 = .ok (.getfield 9, 3) := by decide +kernel
theorem dX3_begin_12 : decode cX3_begin 12 = .ok (.iload_n 2, 1) := by decide +kernel
theorem dX3_begin_13 : decode cX3_begin 13 = .ok (.aload_n 1, 1) := by decide +kernel
theorem dX3_begin_14 : decode cX3_begin 14 = .ok (.iload_n 2, 1) := by decide +kernel
theorem dX3_begin_15 : decode cX3_begin 15 = .ok (.invokevirtual 18, 3) := by decide +kernel
theorem dX3_begin_18 : decode cX3_begin 18 = .ok (.iastore, 1) := by decide +kernel
theorem dX3_begin_19 : decode cX3_begin 19 = .ok (.iinc 2 1, 3) := by decide +kernel
theorem dX3_begin_22 : decode cX3_begin 22 = .ok (.goto (-20), 3) := by decide +kernel
theorem dX3_begin_25 : decode cX3_begin 25 = .ok (.aload_n 0, 1) := by decide +kernel
theorem dX3_begin_26 : decode cX3_begin 26 = .ok (.aload_n 1, 1) := by decide +kernel
theorem dX3_begin_27 : decode cX3_begin 27 = .ok (.invokevirtual 24, 3) := by decide +kernel
theorem dX3_begin_30 : decode cX3_begin 30 = .ok (.return_, 1) := by decide +kernel
theorem dX3_copyFrom_0 : decode cX3_copyFrom 0 = .ok (.iconst 0, 1) := by decide +kernel
theorem dX3_copyFrom_1 : decode cX3_copyFrom 1 = .ok (.istore_n 2, 1) := by decide +kernel
theorem dX3_copyFrom_2 : decode cX3_copyFrom 2 = .ok (.iload_n 2, 1) := by decide +kernel
theorem dX3_copyFrom_3 : decode cX3_copyFrom 3 = .ok (.bipush 20, 2) := by decide +kernel
theorem dX3_copyFrom_5 : decode cX3_copyFrom 5 = .ok (.if_icmp .ge 33, 3) := by decide +kernel
theorem dX3_copyFrom_8 : decode cX3_copyFrom 8 = .ok (.aload_n 0, 1) := by decide +kernel
theorem dX3_copyFrom_9 : decode cX3_copyFrom 9 = .ok (.getfield 9, 3) := by decide +kernel
theorem dX3_copyFrom_12 : decode cX3_copyFrom 12 = .ok (.iload_n 2, 1) := by decide +kernel
theorem dX3_copyFrom_13 : decode cX3_copyFrom 13 = .ok (.aload_n 1, 1) := by decide +kernel
theorem dX3_copyFrom_14 : decode cX3_copyFrom 14 = .ok (.getfield 9, 3) := by decide +kernel
theorem dX3_copyFrom_17 : decode cX3_copyFrom 17 = .ok (.iload_n 2, 1) := by decide +kernel
theorem dX3_copyFrom_18 : decode cX3_copyFrom 18 = .ok (.iaload, 1) := by decide +kernel
theorem dX3_copyFrom_19 : decode cX3_copyFrom 19 = .ok (.iastore, 1) := by decide +kernel
theorem dX3_copyFrom_20 : decode cX3_copyFrom 20 = .ok (.aload_n 0, 1) := by decide +kernel
theorem dX3_copyFrom_21 : decode cX3_copyFrom 21 = .ok (.getfield 15, 3) := by decide +kernel
theorem dX3_copyFrom_24 : decode cX3_copyFrom 24 = .ok (.iload_n 2, 1) := by decide +kernel
theorem dX3_copyFrom_25 : decode cX3_copyFrom 25 = .ok (.aload_n 1, 1) := by decide +kernel
theorem dX3_copyFrom_26 : decode cX3_copyFrom 26 = .ok (.getfield 15, 3) := by decide +kernel
theorem dX3_copyFrom_29 : decode cX3_copyFrom 29 = .ok (.iload_n 2, 1) := by decide +kernel
theorem dX3_copyFrom_30 : decode cX3_copyFrom 30 = .ok (.iaload, 1) := by decide +kernel
theorem dX3_copyFrom_31 : decode cX3_copyFrom 31 = .ok (.iastore, 1) := by decide +kernel
theorem dX3_copyFrom_32 : decode cX3_copyFrom 32 = .ok (.iinc 2 1, 3) := by decide +kernel
theorem dX3_copyFrom_35 : decode cX3_copyFrom 35 = .ok (.goto (-33), 3) := by decide +kernel
theorem dX3_copyFrom_38 : decode cX3_copyFrom 38 = .ok (.aload_n 0, 1) := by decide +kernel
theorem dX3_copyFrom_39 : decode cX3_copyFrom 39 = .ok (.aload_n 1, 1) := by decide +kernel
theorem dX3_copyFrom_40 : decode cX3_copyFrom 40 = .ok (.getfield 28, 3) := by decide +kernel
theorem dX3_copyFrom_43 : decode cX3_copyFrom 43 = .ok (.putfield 28, 3) := by decide +kernel
theorem dX3_copyFrom_46 : decode cX3_copyFrom 46 = .ok (.return_, 1) := by decide +kernel
theorem dX3_weight_0 : decode cX3_weight 0 = .ok (.iload_n 1, 1) := by decide +kernel
theorem dX3_weight_1 : decode cX3_weight 1 = .ok (.ifCond .lt 18, 3) := by decide +kernel
theorem dX3_weight_4 : decode cX3_weight 4 = .ok (.iload_n 1, 1) := by decide +kernel
theorem dX3_weight_5 : decode cX3_weight 5 = .ok (.bipush 20, 2) := by decide +kernel
theorem dX3_weight_7 : decode cX3_weight 7 = .ok (.if_icmp .ge 12, 3) := by decide +kernel
theorem dX3_weight_10 : decode cX3_weight 10 = .ok (.aload_n 0, 1) := by decide +kernel
theorem dX3_weight_11 : decode cX3_weight 11 = .ok (.getfield 9, 3) := by decide +kernel
theorem dX3_weight_14 : decode cX3_weight 14 = .ok (.iload_n 1, 1) := by decide +kernel
theorem dX3_weight_15 : decode cX3_weight 15 = .ok (.iaload, 1) := by decide +kernel
theorem dX3_weight_16 : decode cX3_weight 16 = .ok (.goto 4, 3) := by decide +kernel
theorem dX3_weight_19 : decode cX3_weight 19 = .ok (.iconst 0, 1) := by decide +kernel
theorem dX3_weight_20 : decode cX3_weight 20 = .ok (.ireturn, 1) := by decide +kernel
theorem dX3_putWeight_0 : decode cX3_putWeight 0 = .ok (.iload_n 1, 1) := by decide +kernel
theorem dX3_putWeight_1 : decode cX3_putWeight 1 = .ok (.ifCond .lt 16, 3) := by decide +kernel
theorem dX3_putWeight_4 : decode cX3_putWeight 4 = .ok (.iload_n 1, 1) := by decide +kernel
theorem dX3_putWeight_5 : decode cX3_putWeight 5 = .ok (.bipush 20, 2) := by decide +kernel
theorem dX3_putWeight_7 : decode cX3_putWeight 7 = .ok (.if_icmp .ge 10, 3) := by decide +kernel
theorem dX3_putWeight_10 : decode cX3_putWeight 10 = .ok (.aload_n 0, 1) := by decide +kernel
theorem dX3_putWeight_11 : decode cX3_putWeight 11 = .ok (.getfield 9, 3) := by decide +kernel
theorem dX3_putWeight_14 : decode cX3_putWeight 14 = .ok (.iload_n 1, 1) := by decide +kernel
theorem dX3_putWeight_15 : decode cX3_putWeight 15 = .ok (.iload_n 2, 1) := by decide +kernel
theorem dX3_putWeight_16 : decode cX3_putWeight 16 = .ok (.iastore, 1) := by decide +kernel
theorem dX3_putWeight_17 : decode cX3_putWeight 17 = .ok (.return_, 1) := by decide +kernel
set_option maxRecDepth 20000 in
theorem ggX3_isInTree_X6_holds : GoodIn wsX3_isInTree wsX6_holds := goodIn_r _ [4] (by decide +kernel) (by decide +kernel)
set_option maxRecDepth 20000 in
theorem gX3_isInTree_X6_holds_n32 : GoodIn wsX3_isInTree (wsX6_holds) := ggX3_isInTree_X6_holds
theorem dX3_isInTree_0 : decode cX3_isInTree 0 = .ok (.aload_n 0, 1) := by decide +kernel
theorem dX3_isInTree_1 : decode cX3_isInTree 1 = .ok (.getfield 28, 3) := by decide +kernel
theorem dX3_isInTree_4 : decode cX3_isInTree 4 = .ok (.iload_n 1, 1) := by decide +kernel
theorem dX3_isInTree_5 : decode cX3_isInTree 5 = .ok (.invokestatic 32, 3) := by decide +kernel
theorem dX3_isInTree_8 : decode cX3_isInTree 8 = .ok (.ireturn, 1) := by decide +kernel
set_option maxRecDepth 20000 in
theorem ggX3_findTree_X0_edges : GoodIn wsX3_findTree wsX0_edges := goodIn_r _ [6, 7, 62, 63, 64, 65, 66, 67, 68] (by decide +kernel) (by decide +kernel)
set_option maxRecDepth 20000 in
theorem gX3_findTree_X0_edges : GoodIn wsX3_findTree (wsV RX3 36 RX0 yX0_edges wsX0_edges) := goodIn_app (goodIn_of _ (by decide +kernel)) ggX3_findTree_X0_edges
set_option maxRecDepth 20000 in
theorem ggX3_findTree_X3_heaviestEdge : GoodIn wsX3_findTree wsX3_heaviestEdge := goodIn_r _ [12, 13, 14, 15, 16, 17, 18, 11, 19, 20, 59, 60, 61] (by decide +kernel) (by decide +kernel)
set_option maxRecDepth 20000 in
theorem gX3_findTree_X3_heaviestEdge : GoodIn wsX3_findTree (wsV RX3 40 RX3 yX3_heaviestEdge wsX3_heaviestEdge) := goodIn_app (goodIn_of _ (by decide +kernel)) ggX3_findTree_X3_heaviestEdge
set_option maxRecDepth 20000 in
theorem ggX3_findTree_X0_source : GoodIn wsX3_findTree wsX0_source := goodIn_r _ [24, 25, 26, 27, 28, 5, 29, 7, 62, 63, 64, 65, 66, 67, 68] (by decide +kernel) (by decide +kernel)
set_option maxRecDepth 20000 in
theorem gX3_findTree_X0_source : GoodIn wsX3_findTree (wsV RX3 44 RX0 yX0_source wsX0_source) := goodIn_app (goodIn_of _ (by decide +kernel)) ggX3_findTree_X0_source
set_option maxRecDepth 20000 in
theorem ggX3_findTree_X0_reach : GoodIn wsX3_findTree wsX0_reach := goodIn_r _ [33, 34, 7, 35, 36, 37, 5, 38, 39, 40, 41, 42, 13, 14, 15, 43, 22, 23, 24, 25, 26, 27, 28, 29, 44, 45, 46, 47, 48, 62, 63, 64, 65, 66, 67, 68] (by decide +kernel) (by decide +kernel)
set_option maxRecDepth 20000 in
theorem gX3_findTree_X0_reach : GoodIn wsX3_findTree (wsV RX3 47 RX0 yX0_reach wsX0_reach) := goodIn_app (goodIn_of _ (by decide +kernel)) ggX3_findTree_X0_reach
set_option maxRecDepth 20000 in
theorem ggX3_findTree_X0_target : GoodIn wsX3_findTree wsX0_target := goodIn_r _ [47, 48, 26, 27, 28, 5, 29, 7, 62, 63, 64, 65, 66, 67, 68] (by decide +kernel) (by decide +kernel)
set_option maxRecDepth 20000 in
theorem gX3_findTree_X0_target : GoodIn wsX3_findTree (wsV RX3 50 RX0 yX0_target wsX0_target) := goodIn_app (goodIn_of _ (by decide +kernel)) ggX3_findTree_X0_target
set_option maxRecDepth 20000 in
theorem ggX3_findTree_X6_holds : GoodIn wsX3_findTree wsX6_holds := goodIn_r _ [15] (by decide +kernel) (by decide +kernel)
set_option maxRecDepth 20000 in
theorem gX3_findTree_X6_holds_n32 : GoodIn wsX3_findTree (wsX6_holds) := ggX3_findTree_X6_holds
set_option maxRecDepth 20000 in
theorem ggX3_findTree_X3_findSides : GoodIn wsX3_findTree wsX3_findSides := goodIn_r _ [53, 54, 1, 55, 56, 57, 11, 58, 13, 14, 15, 21, 22, 23, 5, 24, 25, 26, 27, 28, 29, 7, 30, 31, 32, 33, 34, 35, 36, 37, 38, 39, 40, 41, 42, 43, 44, 45, 46, 47, 48, 59, 60, 61, 62, 63, 64, 65, 66, 67, 68] (by decide +kernel) (by decide +kernel)
set_option maxRecDepth 20000 in
theorem gX3_findTree_X3_findSides : GoodIn wsX3_findTree (wsV RX3 53 RX3 yX3_findSides wsX3_findSides) := goodIn_app (goodIn_of _ (by decide +kernel)) ggX3_findTree_X3_findSides
