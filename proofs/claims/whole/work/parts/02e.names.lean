theorem dX6_drive_0 : decode cX6_drive 0 = .ok (.iload_n 1, 1) := by decide +kernel
theorem dX6_drive_1 : decode cX6_drive 1 = .ok (.ifCond .lt 22, 3) := by decide +kernel
theorem dX6_drive_4 : decode cX6_drive 4 = .ok (.iload_n 1, 1) := by decide +kernel
theorem dX6_drive_5 : decode cX6_drive 5 = .ok (.sipush 9999, 3) := by decide +kernel
theorem dX6_drive_8 : decode cX6_drive 8 = .ok (.if_icmp .gt 15, 3) := by decide +kernel
theorem dX6_drive_11 : decode cX6_drive 11 = .ok (.iload_n 2, 1) := by decide +kernel
theorem dX6_drive_12 : decode cX6_drive 12 = .ok (.iconst 1, 1) := by decide +kernel
theorem dX6_drive_13 : decode cX6_drive 13 = .ok (.if_icmp .lt 10, 3) := by decide +kernel
theorem dX6_drive_16 : decode cX6_drive 16 = .ok (.iload_n 2, 1) := by decide +kernel
theorem dX6_drive_17 : decode cX6_drive 17 = .ok (.sipush 500, 3) := by decide +kernel
theorem dX6_drive_20 : decode cX6_drive 20 = .ok (.if_icmp .le 6, 3) := by decide +kernel
theorem dX6_drive_23 : decode cX6_drive 23 = .ok (.bipush (-101), 2) := by decide +kernel
theorem dX6_drive_25 : decode cX6_drive 25 = .ok (.ireturn, 1) := by decide +kernel
theorem dX6_drive_26 : decode cX6_drive 26 = .ok (.aload_n 0, 1) := by decide +kernel
theorem dX6_drive_27 : decode cX6_drive 27 = .ok (.getfield 40, 3) := by decide +kernel
theorem dX6_drive_30 : decode cX6_drive 30 = .ok (.aload_n 0, 1) := by decide +kernel
theorem dX6_drive_31 : decode cX6_drive 31 = .ok (.getfield 26, 3) := by decide +kernel
theorem dX6_drive_34 : decode cX6_drive 34 = .ok (.aload_n 0, 1) := by decide +kernel
theorem dX6_drive_35 : decode cX6_drive 35 = .ok (.getfield 33, 3) := by decide +kernel
theorem dX6_drive_38 : decode cX6_drive 38 = .ok (.invokevirtual 113, 3) := by decide +kernel
theorem dX6_drive_41 : decode cX6_drive 41 = .ok (.aload_n 0, 1) := by decide +kernel
theorem dX6_drive_42 : decode cX6_drive 42 = .ok (.getfield 33, 3) := by decide +kernel
theorem dX6_drive_45 : decode cX6_drive 45 = .ok (.invokevirtual 149, 3) := by decide +kernel
theorem dX6_drive_48 : decode cX6_drive 48 = .ok (.istore_n 3, 1) := by decide +kernel
theorem dX6_drive_49 : decode cX6_drive 49 = .ok (.iconst 0, 1) := by decide +kernel
theorem dX6_drive_50 : decode cX6_drive 50 = .ok (.istore 4, 2) := by decide +kernel
theorem dX6_drive_52 : decode cX6_drive 52 = .ok (.iload 4, 2) := by decide +kernel
theorem dX6_drive_54 : decode cX6_drive 54 = .ok (.iload_n 2, 1) := by decide +kernel
theorem dX6_drive_55 : decode cX6_drive 55 = .ok (.if_icmp .ge 31, 3) := by decide +kernel
theorem dX6_drive_58 : decode cX6_drive 58 = .ok (.aload_n 0, 1) := by decide +kernel
theorem dX6_drive_59 : decode cX6_drive 59 = .ok (.getfield 33, 3) := by decide +kernel
theorem dX6_drive_62 : decode cX6_drive 62 = .ok (.aload_n 0, 1) := by decide +kernel
theorem dX6_drive_63 : decode cX6_drive 63 = .ok (.iload_n 1, 1) := by decide +kernel
theorem dX6_drive_64 : decode cX6_drive 64 = .ok (.iload 4, 2) := by decide +kernel
theorem dX6_drive_66 : decode cX6_drive 66 = .ok (.invokevirtual 152, 3) := by decide +kernel
theorem dX6_drive_69 : decode cX6_drive 69 = .ok (.aload_n 0, 1) := by decide +kernel
theorem dX6_drive_70 : decode cX6_drive 70 = .ok (.getfield 47, 3) := by decide +kernel
theorem dX6_drive_73 : decode cX6_drive 73 = .ok (.aload_n 0, 1) := by decide +kernel
theorem dX6_drive_74 : decode cX6_drive 74 = .ok (.getfield 26, 3) := by decide +kernel
theorem dX6_drive_77 : decode cX6_drive 77 = .ok (.invokevirtual 145, 3) := by decide +kernel
theorem dX6_drive_80 : decode cX6_drive 80 = .ok (.iinc 4 1, 3) := by decide +kernel
theorem dX6_drive_83 : decode cX6_drive 83 = .ok (.goto (-31), 3) := by decide +kernel
theorem dX6_drive_86 : decode cX6_drive 86 = .ok (.aload_n 0, 1) := by decide +kernel
theorem dX6_drive_87 : decode cX6_drive 87 = .ok (.getfield 33, 3) := by decide +kernel
theorem dX6_drive_90 : decode cX6_drive 90 = .ok (.invokevirtual 149, 3) := by decide +kernel
theorem dX6_drive_93 : decode cX6_drive 93 = .ok (.iload_n 3, 1) := by decide +kernel
theorem dX6_drive_94 : decode cX6_drive 94 = .ok (.isub, 1) := by decide +kernel
theorem dX6_drive_95 : decode cX6_drive 95 = .ok (.ireturn, 1) := by decide +kernel
set_option maxRecDepth 20000 in
theorem ggX6_adoptCounts_X6_anyIsUncertain : GoodIn wsX6_adoptCounts wsX6_anyIsUncertain := goodIn_r _ [13, 4, 14, 15, 16, 17, 18, 19, 20, 21, 22, 12, 23, 2, 24, 25, 26, 27, 28, 29, 30, 31, 32, 33, 34, 35, 3, 36, 37, 38, 39, 40, 41, 42, 43, 44, 45, 46, 47, 48, 49, 50, 51, 52, 53, 54, 55, 56, 57, 58, 59, 60, 61, 62, 63, 64, 65, 66, 67, 68, 69, 150, 151, 152, 153, 154, 155, 156, 157, 158, 159, 160, 161, 162, 163, 164, 165, 166, 167, 168, 169, 170, 171] (by decide +kernel) (by decide +kernel)
set_option maxRecDepth 20000 in
theorem gX6_adoptCounts_X6_anyIsUncertain : GoodIn wsX6_adoptCounts (wsV RX6 156 RX6 yX6_anyIsUncertain wsX6_anyIsUncertain) := goodIn_app (goodIn_of _ (by decide +kernel)) ggX6_adoptCounts_X6_anyIsUncertain
set_option maxRecDepth 20000 in
theorem ggX6_adoptCounts_X2_remember : GoodIn wsX6_adoptCounts wsX2_remember := goodIn_r _ [74, 75, 76, 77, 78, 79, 6, 7, 8, 80, 81, 82, 27, 83, 84, 69, 29, 85, 86, 87, 39, 88, 46, 89, 41, 90, 91, 172, 173, 174, 175, 164, 165, 166, 167, 168, 169, 170, 171] (by decide +kernel) (by decide +kernel)
set_option maxRecDepth 20000 in
theorem gX6_adoptCounts_X2_remember : GoodIn wsX6_adoptCounts (wsV RX6 113 RX2 yX2_remember wsX2_remember) := goodIn_app (goodIn_of _ (by decide +kernel)) ggX6_adoptCounts_X2_remember
set_option maxRecDepth 20000 in
theorem ggX6_adoptCounts_X0_edges : GoodIn wsX6_adoptCounts wsX0_edges := goodIn_r _ [18, 19, 157, 158, 159, 160, 161, 162, 163] (by decide +kernel) (by decide +kernel)
set_option maxRecDepth 20000 in
theorem gX6_adoptCounts_X0_edges : GoodIn wsX6_adoptCounts (wsV RX6 106 RX0 yX0_edges wsX0_edges) := goodIn_app (goodIn_of _ (by decide +kernel)) ggX6_adoptCounts_X0_edges
set_option maxRecDepth 20000 in
theorem ggX6_adoptCounts_X6_reconstructedCount : GoodIn wsX6_adoptCounts wsX6_reconstructedCount := goodIn_r _ [95, 2, 3, 4, 24, 25, 26, 27, 28, 29, 30, 12, 31, 96, 43, 44, 39, 45, 46, 97, 98, 99, 100, 101, 102, 103, 104, 90, 105, 106, 107, 17, 108, 109, 65, 66, 67, 68, 69, 14, 15, 16, 18, 19, 47, 48, 49, 50, 51, 52, 53, 54, 55, 56, 57, 58, 59, 60, 61, 62, 63, 64, 150, 151, 152, 153, 154, 155, 156, 164, 165, 166, 167, 168, 169, 170, 171, 157, 158, 159, 160, 161, 162, 163] (by decide +kernel) (by decide +kernel)
set_option maxRecDepth 20000 in
theorem gX6_adoptCounts_X6_reconstructedCount : GoodIn wsX6_adoptCounts (wsV RX6 159 RX6 yX6_reconstructedCount wsX6_reconstructedCount) := goodIn_app (goodIn_of _ (by decide +kernel)) ggX6_adoptCounts_X6_reconstructedCount
set_option maxRecDepth 20000 in
theorem ggX6_adoptCounts_X3_weight : GoodIn wsX6_adoptCounts wsX3_weight := goodIn_r _ [113, 84, 164, 165, 166] (by decide +kernel) (by decide +kernel)
set_option maxRecDepth 20000 in
theorem gX6_adoptCounts_X3_weight : GoodIn wsX6_adoptCounts (wsV RX6 117 RX3 yX3_weight wsX3_weight) := goodIn_app (goodIn_of _ (by decide +kernel)) ggX6_adoptCounts_X3_weight
set_option maxRecDepth 20000 in
theorem ggX6_adoptCounts_X3_putWeight : GoodIn wsX6_adoptCounts wsX3_putWeight := goodIn_r _ [117, 84, 164, 165, 166] (by decide +kernel) (by decide +kernel)
set_option maxRecDepth 20000 in
theorem gX6_adoptCounts_X3_putWeight : GoodIn wsX6_adoptCounts (wsV RX6 121 RX3 yX3_putWeight wsX3_putWeight) := goodIn_app (goodIn_of _ (by decide +kernel)) ggX6_adoptCounts_X3_putWeight
set_option maxRecDepth 20000 in
theorem ggX6_adoptCounts_X3_findTree : GoodIn wsX6_adoptCounts wsX3_findTree := goodIn_r _ [121, 29, 122, 15, 16, 17, 18, 19, 123, 124, 125, 27, 126, 30, 12, 31, 127, 111, 112, 113, 84, 128, 52, 53, 54, 55, 56, 57, 58, 59, 129, 130, 131, 132, 109, 133, 106, 107, 108, 134, 135, 136, 137, 138, 139, 61, 62, 63, 64, 140, 141, 142, 143, 144, 69, 145, 25, 26, 28, 164, 165, 166, 157, 158, 159, 160, 161, 162, 163] (by decide +kernel) (by decide +kernel)
set_option maxRecDepth 20000 in
theorem gX6_adoptCounts_X3_findTree : GoodIn wsX6_adoptCounts (wsV RX6 125 RX3 yX3_findTree wsX3_findTree) := goodIn_app (goodIn_of _ (by decide +kernel)) ggX6_adoptCounts_X3_findTree
set_option maxRecDepth 20000 in
theorem ggX6_adoptCounts_X4_restart : GoodIn wsX6_adoptCounts wsX4_restart := goodIn_r _ [149, 46, 89, 90, 91, 167, 168, 169, 170, 171] (by decide +kernel) (by decide +kernel)
set_option maxRecDepth 20000 in
theorem gX6_adoptCounts_X4_restart : GoodIn wsX6_adoptCounts (wsV RX6 128 RX4 yX4_restart wsX4_restart) := goodIn_app (goodIn_of _ (by decide +kernel)) ggX6_adoptCounts_X4_restart
theorem dX6_adoptCounts_0 : decode cX6_adoptCounts 0 = .ok (.aload_n 0, 1) := by decide +kernel
theorem dX6_adoptCounts_1 : decode cX6_adoptCounts 1 = .ok (.invokevirtual 156, 3) := by decide +kernel
theorem dX6_adoptCounts_4 : decode cX6_adoptCounts 4 = .ok (.ifCond .eq 6, 3) := by decide +kernel
theorem dX6_adoptCounts_7 : decode cX6_adoptCounts 7 = .ok (.bipush (-105), 2) := by decide +kernel
theorem dX6_adoptCounts_9 : decode cX6_adoptCounts 9 = .ok (.ireturn, 1) := by decide +kernel
theorem dX6_adoptCounts_10 : decode cX6_adoptCounts 10 = .ok (.aload_n 0, 1) := by decide +kernel
theorem dX6_adoptCounts_11 : decode cX6_adoptCounts 11 = .ok (.getfield 40, 3) := by decide +kernel
theorem dX6_adoptCounts_14 : decode cX6_adoptCounts 14 = .ok (.aload_n 0, 1) := by decide +kernel
theorem dX6_adoptCounts_15 : decode cX6_adoptCounts 15 = .ok (.getfield 26, 3) := by decide +kernel
theorem dX6_adoptCounts_18 : decode cX6_adoptCounts 18 = .ok (.aload_n 0, 1) := by decide +kernel
theorem dX6_adoptCounts_19 : decode cX6_adoptCounts 19 = .ok (.getfield 33, 3) := by decide +kernel
theorem dX6_adoptCounts_22 : decode cX6_adoptCounts 22 = .ok (.invokevirtual 113, 3) := by decide +kernel
theorem dX6_adoptCounts_25 : decode cX6_adoptCounts 25 = .ok (.iconst 0, 1) := by decide +kernel
theorem dX6_adoptCounts_26 : decode cX6_adoptCounts 26 = .ok (.istore_n 1, 1) := by decide +kernel
theorem dX6_adoptCounts_27 : decode cX6_adoptCounts 27 = .ok (.iconst 0, 1) := by decide +kernel
theorem dX6_adoptCounts_28 : decode cX6_adoptCounts 28 = .ok (.istore_n 2, 1) := by decide +kernel
theorem dX6_adoptCounts_29 : decode cX6_adoptCounts 29 = .ok (.iload_n 2, 1) := by decide +kernel
theorem dX6_adoptCounts_30 : decode cX6_adoptCounts 30 = .ok (.aload_n 0, 1) := by decide +kernel
theorem dX6_adoptCounts_31 : decode cX6_adoptCounts 31 = .ok (.getfield 47, 3) := by decide +kernel
theorem dX6_adoptCounts_34 : decode cX6_adoptCounts 34 = .ok (.invokevirtual 106, 3) := by decide +kernel
theorem dX6_adoptCounts_37 : decode cX6_adoptCounts 37 = .ok (.if_icmp .ge 45, 3) := by decide +kernel
theorem dX6_adoptCounts_40 : decode cX6_adoptCounts 40 = .ok (.aload_n 0, 1) := by decide +kernel
theorem dX6_adoptCounts_41 : decode cX6_adoptCounts 41 = .ok (.iload_n 2, 1) := by decide +kernel
theorem dX6_adoptCounts_42 : decode cX6_adoptCounts 42 = .ok (.invokevirtual 159, 3) := by decide +kernel
theorem dX6_adoptCounts_45 : decode cX6_adoptCounts 45 = .ok (.sipush 999, 3) := by decide +kernel
theorem dX6_adoptCounts_48 : decode cX6_adoptCounts 48 = .ok (.invokestatic 162, 3) := by decide +kernel
theorem dX6_adoptCounts_51 : decode cX6_adoptCounts 51 = .ok (.istore_n 3, 1) := by decide +kernel
theorem dX6_adoptCounts_52 : decode cX6_adoptCounts 52 = .ok (.iload_n 3, 1) := by decide +kernel
theorem dX6_adoptCounts_53 : decode cX6_adoptCounts 53 = .ok (.aload_n 0, 1) := by decide +kernel
theorem dX6_adoptCounts_54 : decode cX6_adoptCounts 54 = .ok (.getfield 26, 3) := by decide +kernel
theorem dX6_adoptCounts_57 : decode cX6_adoptCounts 57 = .ok (.iload_n 2, 1) := by decide +kernel
theorem dX6_adoptCounts_58 : decode cX6_adoptCounts 58 = .ok (.invokevirtual 117, 3) := by decide +kernel
theorem dX6_adoptCounts_61 : decode cX6_adoptCounts 61 = .ok (.if_icmp .eq 6, 3) := by decide +kernel
theorem dX6_adoptCounts_64 : decode cX6_adoptCounts 64 = .ok (.iinc 1 1, 3) := by decide +kernel
theorem dX6_adoptCounts_67 : decode cX6_adoptCounts 67 = .ok (.aload_n 0, 1) := by decide +kernel
theorem dX6_adoptCounts_68 : decode cX6_adoptCounts 68 = .ok (.getfield 26, 3) := by decide +kernel
theorem dX6_adoptCounts_71 : decode cX6_adoptCounts 71 = .ok (.iload_n 2, 1) := by decide +kernel
theorem dX6_adoptCounts_72 : decode cX6_adoptCounts 72 = .ok (.iload_n 3, 1) := by decide +kernel
theorem dX6_adoptCounts_73 : decode cX6_adoptCounts 73 = .ok (.invokevirtual 121, 3) := by decide +kernel
theorem dX6_adoptCounts_76 : decode cX6_adoptCounts 76 = .ok (.iinc 2 1, 3) := by decide +kernel
theorem dX6_adoptCounts_79 : decode cX6_adoptCounts 79 = .ok (.goto (-50), 3) := by decide +kernel
theorem dX6_adoptCounts_82 : decode cX6_adoptCounts 82 = .ok (.aload_n 0, 1) := by decide +kernel
theorem dX6_adoptCounts_83 : decode cX6_adoptCounts 83 = .ok (.getfield 26, 3) := by decide +kernel
theorem dX6_adoptCounts_86 : decode cX6_adoptCounts 86 = .ok (.aload_n 0, 1) := by decide +kernel
theorem dX6_adoptCounts_87 : decode cX6_adoptCounts 87 = .ok (.getfield 47, 3) := by decide +kernel
theorem dX6_adoptCounts_90 : decode cX6_adoptCounts 90 = .ok (.invokevirtual 125, 3) := by decide +kernel
theorem dX6_adoptCounts_93 : decode cX6_adoptCounts 93 = .ok (.aload_n 0, 1) := by decide +kernel
theorem dX6_adoptCounts_94 : decode cX6_adoptCounts 94 = .ok (.getfield 33, 3) := by decide +kernel
theorem dX6_adoptCounts_97 : decode cX6_adoptCounts 97 = .ok (.invokevirtual 128, 3) := by decide +kernel
theorem dX6_adoptCounts_100 : decode cX6_adoptCounts 100 = .ok (.iload_n 1, 1) := by decide +kernel
theorem dX6_adoptCounts_101 : decode cX6_adoptCounts 101 = .ok (.ireturn, 1) := by decide +kernel
set_option maxRecDepth 20000 in
theorem ggX6_undo_X2_isEmpty : GoodIn wsX6_undo wsX2_isEmpty := goodIn_r _ [8, 9, 47, 48, 49, 50] (by decide +kernel) (by decide +kernel)
set_option maxRecDepth 20000 in
theorem gX6_undo_X2_isEmpty : GoodIn wsX6_undo (wsV RX6 167 RX2 yX2_isEmpty wsX2_isEmpty) := goodIn_app (goodIn_of _ (by decide +kernel)) ggX6_undo_X2_isEmpty
set_option maxRecDepth 20000 in
theorem ggX6_undo_X2_takeBack : GoodIn wsX6_undo wsX2_takeBack := goodIn_r _ [13, 14, 15, 16, 9, 17, 5, 6, 7, 8, 18, 19, 20, 21, 22, 23, 24, 25, 26, 27, 28, 29, 30, 31, 32, 33, 34, 35, 47, 48, 49, 50, 51, 52, 53, 54, 55, 56, 57, 58] (by decide +kernel) (by decide +kernel)
set_option maxRecDepth 20000 in
theorem gX6_undo_X2_takeBack : GoodIn wsX6_undo (wsV RX6 170 RX2 yX2_takeBack wsX2_takeBack) := goodIn_app (goodIn_of _ (by decide +kernel)) ggX6_undo_X2_takeBack
set_option maxRecDepth 20000 in
theorem ggX6_undo_X2_size : GoodIn wsX6_undo wsX2_size := goodIn_r _ [39, 9, 47, 48, 49, 50] (by decide +kernel) (by decide +kernel)
set_option maxRecDepth 20000 in
theorem gX6_undo_X2_size : GoodIn wsX6_undo (wsV RX6 173 RX2 yX2_size wsX2_size) := goodIn_app (goodIn_of _ (by decide +kernel)) ggX6_undo_X2_size
theorem dX6_undo_0 : decode cX6_undo 0 = .ok (.aload_n 0, 1) := by decide +kernel
theorem dX6_undo_1 : decode cX6_undo 1 = .ok (.getfield 40, 3) := by decide +kernel
theorem dX6_undo_4 : decode cX6_undo 4 = .ok (.invokevirtual 167, 3) := by decide +kernel
theorem dX6_undo_7 : decode cX6_undo 7 = .ok (.ifCond .eq 6, 3) := by decide +kernel
theorem dX6_undo_10 : decode cX6_undo 10 = .ok (.bipush (-102), 2) := by decide +kernel
theorem dX6_undo_12 : decode cX6_undo 12 = .ok (.ireturn, 1) := by decide +kernel
theorem dX6_undo_13 : decode cX6_undo 13 = .ok (.aload_n 0, 1) := by decide +kernel
theorem dX6_undo_14 : decode cX6_undo 14 = .ok (.getfield 40, 3) := by decide +kernel
theorem dX6_undo_17 : decode cX6_undo 17 = .ok (.aload_n 0, 1) := by decide +kernel
theorem dX6_undo_18 : decode cX6_undo 18 = .ok (.getfield 26, 3) := by decide +kernel
theorem dX6_undo_21 : decode cX6_undo 21 = .ok (.aload_n 0, 1) := by decide +kernel
theorem dX6_undo_22 : decode cX6_undo 22 = .ok (.getfield 33, 3) := by decide +kernel
theorem dX6_undo_25 : decode cX6_undo 25 = .ok (.invokevirtual 170, 3) := by decide +kernel
theorem dX6_undo_28 : decode cX6_undo 28 = .ok (.aload_n 0, 1) := by decide +kernel
theorem dX6_undo_29 : decode cX6_undo 29 = .ok (.getfield 40, 3) := by decide +kernel
theorem dX6_undo_32 : decode cX6_undo 32 = .ok (.invokevirtual 173, 3) := by decide +kernel
theorem dX6_undo_35 : decode cX6_undo 35 = .ok (.ireturn, 1) := by decide +kernel
set_option maxRecDepth 20000 in
theorem ggX6_blockCount_X0_blocks : GoodIn wsX6_blockCount wsX0_blocks := goodIn_r _ [6, 7, 15, 16, 17, 18, 19, 20, 21] (by decide +kernel) (by decide +kernel)
set_option maxRecDepth 20000 in
theorem gX6_blockCount_X0_blocks : GoodIn wsX6_blockCount (wsV RX6 176 RX0 yX0_blocks wsX0_blocks) := goodIn_app (goodIn_of _ (by decide +kernel)) ggX6_blockCount_X0_blocks
theorem dX6_blockCount_0 : decode cX6_blockCount 0 = .ok (.aload_n 0, 1) := by decide +kernel
theorem dX6_blockCount_1 : decode cX6_blockCount 1 = .ok (.getfield 47, 3) := by decide +kernel
theorem dX6_blockCount_4 : decode cX6_blockCount 4 = .ok (.invokevirtual 176, 3) := by decide +kernel
theorem dX6_blockCount_7 : decode cX6_blockCount 7 = .ok (.ireturn, 1) := by decide +kernel
set_option maxRecDepth 20000 in
theorem ggX6_sourceOf_X0_hasEdge : GoodIn wsX6_sourceOf wsX0_hasEdge := goodIn_r _ [6, 7, 21, 22, 23, 24, 25, 26, 27] (by decide +kernel) (by decide +kernel)
set_option maxRecDepth 20000 in
theorem gX6_sourceOf_X0_hasEdge : GoodIn wsX6_sourceOf (wsV RX6 109 RX0 yX0_hasEdge wsX0_hasEdge) := goodIn_app (goodIn_of _ (by decide +kernel)) ggX6_sourceOf_X0_hasEdge
set_option maxRecDepth 20000 in
theorem ggX6_sourceOf_X0_source : GoodIn wsX6_sourceOf wsX0_source := goodIn_r _ [11, 12, 13, 3, 4, 5, 6, 7, 21, 22, 23, 24, 25, 26, 27] (by decide +kernel) (by decide +kernel)
set_option maxRecDepth 20000 in
theorem gX6_sourceOf_X0_source : GoodIn wsX6_sourceOf (wsV RX6 139 RX0 yX0_source wsX0_source) := goodIn_app (goodIn_of _ (by decide +kernel)) ggX6_sourceOf_X0_source
theorem dX6_sourceOf_0 : decode cX6_sourceOf 0 = .ok (.aload_n 0, 1) := by decide +kernel
theorem dX6_sourceOf_1 : decode cX6_sourceOf 1 = .ok (.getfield 47, 3) := by decide +kernel
theorem dX6_sourceOf_4 : decode cX6_sourceOf 4 = .ok (.iload_n 1, 1) := by decide +kernel
theorem dX6_sourceOf_5 : decode cX6_sourceOf 5 = .ok (.invokevirtual 109, 3) := by decide +kernel
theorem dX6_sourceOf_8 : decode cX6_sourceOf 8 = .ok (.ifCond .eq 14, 3) := by decide +kernel
theorem dX6_sourceOf_11 : decode cX6_sourceOf 11 = .ok (.aload_n 0, 1) := by decide +kernel
theorem dX6_sourceOf_12 : decode cX6_sourceOf 12 = .ok (.getfield 47, 3) := by decide +kernel
theorem dX6_sourceOf_15 : decode cX6_sourceOf 15 = .ok (.iload_n 1, 1) := by decide +kernel
theorem dX6_sourceOf_16 : decode cX6_sourceOf 16 = .ok (.invokevirtual 139, 3) := by decide +kernel
theorem dX6_sourceOf_19 : decode cX6_sourceOf 19 = .ok (.goto 5, 3) := by decide +kernel
theorem dX6_sourceOf_22 : decode cX6_sourceOf 22 = .ok (.bipush (-101), 2) := by decide +kernel
theorem dX6_sourceOf_24 : decode cX6_sourceOf 24 = .ok (.ireturn, 1) := by decide +kernel
set_option maxRecDepth 20000 in
theorem ggX6_targetOf_X0_hasEdge : GoodIn wsX6_targetOf wsX0_hasEdge := goodIn_r _ [6, 7, 21, 22, 23, 24, 25, 26, 27] (by decide +kernel) (by decide +kernel)
set_option maxRecDepth 20000 in
theorem gX6_targetOf_X0_hasEdge : GoodIn wsX6_targetOf (wsV RX6 109 RX0 yX0_hasEdge wsX0_hasEdge) := goodIn_app (goodIn_of _ (by decide +kernel)) ggX6_targetOf_X0_hasEdge
set_option maxRecDepth 20000 in
theorem ggX6_targetOf_X0_target : GoodIn wsX6_targetOf wsX0_target := goodIn_r _ [11, 12, 13, 3, 4, 5, 6, 7, 21, 22, 23, 24, 25, 26, 27] (by decide +kernel) (by decide +kernel)
set_option maxRecDepth 20000 in
theorem gX6_targetOf_X0_target : GoodIn wsX6_targetOf (wsV RX6 179 RX0 yX0_target wsX0_target) := goodIn_app (goodIn_of _ (by decide +kernel)) ggX6_targetOf_X0_target
theorem dX6_targetOf_0 : decode cX6_targetOf 0 = .ok (.aload_n 0, 1) := by decide +kernel
theorem dX6_targetOf_1 : decode cX6_targetOf 1 = .ok (.getfield 47, 3) := by decide +kernel
theorem dX6_targetOf_4 : decode cX6_targetOf 4 = .ok (.iload_n 1, 1) := by decide +kernel
theorem dX6_targetOf_5 : decode cX6_targetOf 5 = .ok (.invokevirtual 109, 3) := by decide +kernel
theorem dX6_targetOf_8 : decode cX6_targetOf 8 = .ok (.ifCond .eq 14, 3) := by decide +kernel
theorem dX6_targetOf_11 : decode cX6_targetOf 11 = .ok (.aload_n 0, 1) := by decide +kernel
theorem dX6_targetOf_12 : decode cX6_targetOf 12 = .ok (.getfield 47, 3) := by decide +kernel
theorem dX6_targetOf_15 : decode cX6_targetOf 15 = .ok (.iload_n 1, 1) := by decide +kernel
theorem dX6_targetOf_16 : decode cX6_targetOf 16 = .ok (.invokevirtual 179, 3) := by decide +kernel
theorem dX6_targetOf_19 : decode cX6_targetOf 19 = .ok (.goto 5, 3) := by decide +kernel
theorem dX6_targetOf_22 : decode cX6_targetOf 22 = .ok (.bipush (-101), 2) := by decide +kernel
theorem dX6_targetOf_24 : decode cX6_targetOf 24 = .ok (.ireturn, 1) := by decide +kernel
set_option maxRecDepth 20000 in
theorem ggX6_weightOf_X0_hasEdge : GoodIn wsX6_weightOf wsX0_hasEdge := goodIn_r _ [7, 8, 22, 23, 24, 25, 26, 27, 28] (by decide +kernel) (by decide +kernel)
set_option maxRecDepth 20000 in
theorem gX6_weightOf_X0_hasEdge : GoodIn wsX6_weightOf (wsV RX6 109 RX0 yX0_hasEdge wsX0_hasEdge) := goodIn_app (goodIn_of _ (by decide +kernel)) ggX6_weightOf_X0_hasEdge
set_option maxRecDepth 20000 in
theorem ggX6_weightOf_X3_weight : GoodIn wsX6_weightOf wsX3_weight := goodIn_r _ [13, 14, 29, 30, 31] (by decide +kernel) (by decide +kernel)
set_option maxRecDepth 20000 in
theorem gX6_weightOf_X3_weight : GoodIn wsX6_weightOf (wsV RX6 117 RX3 yX3_weight wsX3_weight) := goodIn_app (goodIn_of _ (by decide +kernel)) ggX6_weightOf_X3_weight
theorem dX6_weightOf_0 : decode cX6_weightOf 0 = .ok (.aload_n 0, 1) := by decide +kernel
theorem dX6_weightOf_1 : decode cX6_weightOf 1 = .ok (.getfield 47, 3) := by decide +kernel
theorem dX6_weightOf_4 : decode cX6_weightOf 4 = .ok (.iload_n 1, 1) := by decide +kernel
theorem dX6_weightOf_5 : decode cX6_weightOf 5 = .ok (.invokevirtual 109, 3) := by decide +kernel
theorem dX6_weightOf_8 : decode cX6_weightOf 8 = .ok (.ifCond .eq 14, 3) := by decide +kernel
theorem dX6_weightOf_11 : decode cX6_weightOf 11 = .ok (.aload_n 0, 1) := by decide +kernel
theorem dX6_weightOf_12 : decode cX6_weightOf 12 = .ok (.getfield 26, 3) := by decide +kernel
theorem dX6_weightOf_15 : decode cX6_weightOf 15 = .ok (.iload_n 1, 1) := by decide +kernel
theorem dX6_weightOf_16 : decode cX6_weightOf 16 = .ok (.invokevirtual 117, 3) := by decide +kernel
theorem dX6_weightOf_19 : decode cX6_weightOf 19 = .ok (.goto 5, 3) := by decide +kernel
theorem dX6_weightOf_22 : decode cX6_weightOf 22 = .ok (.bipush (-101), 2) := by decide +kernel
theorem dX6_weightOf_24 : decode cX6_weightOf 24 = .ok (.ireturn, 1) := by decide +kernel
set_option maxRecDepth 20000 in
theorem ggX6_hasCounter_X0_hasEdge : GoodIn wsX6_hasCounter wsX0_hasEdge := goodIn_r _ [7, 8, 25, 26, 27, 28, 29, 30, 31] (by decide +kernel) (by decide +kernel)
set_option maxRecDepth 20000 in
theorem gX6_hasCounter_X0_hasEdge : GoodIn wsX6_hasCounter (wsV RX6 109 RX0 yX0_hasEdge wsX0_hasEdge) := goodIn_app (goodIn_of _ (by decide +kernel)) ggX6_hasCounter_X0_hasEdge
set_option maxRecDepth 20000 in
theorem ggX6_hasCounter_X3_isInTree : GoodIn wsX6_hasCounter wsX3_isInTree := goodIn_r _ [13, 14, 15, 16, 17, 32, 33, 34] (by decide +kernel) (by decide +kernel)
set_option maxRecDepth 20000 in
theorem gX6_hasCounter_X3_isInTree : GoodIn wsX6_hasCounter (wsV RX6 182 RX3 yX3_isInTree wsX3_isInTree) := goodIn_app (goodIn_of _ (by decide +kernel)) ggX6_hasCounter_X3_isInTree
theorem dX6_hasCounter_0 : decode cX6_hasCounter 0 = .ok (.aload_n 0, 1) := by decide +kernel
theorem dX6_hasCounter_1 : decode cX6_hasCounter 1 = .ok (.getfield 47, 3) := by decide +kernel
theorem dX6_hasCounter_4 : decode cX6_hasCounter 4 = .ok (.iload_n 1, 1) := by decide +kernel
theorem dX6_hasCounter_5 : decode cX6_hasCounter 5 = .ok (.invokevirtual 109, 3) := by decide +kernel
theorem dX6_hasCounter_8 : decode cX6_hasCounter 8 = .ok (.ifCond .ne 6, 3) := by decide +kernel
theorem dX6_hasCounter_11 : decode cX6_hasCounter 11 = .ok (.bipush (-101), 2) := by decide +kernel
theorem dX6_hasCounter_13 : decode cX6_hasCounter 13 = .ok (.ireturn, 1) := by decide +kernel
theorem dX6_hasCounter_14 : decode cX6_hasCounter 14 = .ok (.aload_n 0, 1) := by decide +kernel
theorem dX6_hasCounter_15 : decode cX6_hasCounter 15 = .ok (.getfield 26, 3) := by decide +kernel
theorem dX6_hasCounter_18 : decode cX6_hasCounter 18 = .ok (.iload_n 1, 1) := by decide +kernel
theorem dX6_hasCounter_19 : decode cX6_hasCounter 19 = .ok (.invokevirtual 182, 3) := by decide +kernel
theorem dX6_hasCounter_22 : decode cX6_hasCounter 22 = .ok (.ifCond .eq 7, 3) := by decide +kernel
theorem dX6_hasCounter_25 : decode cX6_hasCounter 25 = .ok (.iconst 0, 1) := by decide +kernel
theorem dX6_hasCounter_26 : decode cX6_hasCounter 26 = .ok (.goto 4, 3) := by decide +kernel
theorem dX6_hasCounter_29 : decode cX6_hasCounter 29 = .ok (.iconst 1, 1) := by decide +kernel
theorem dX6_hasCounter_30 : decode cX6_hasCounter 30 = .ok (.ireturn, 1) := by decide +kernel
set_option maxRecDepth 20000 in
theorem ggX6_counterCount_X0_edges : GoodIn wsX6_counterCount wsX0_edges := goodIn_r _ [7, 8, 25, 26, 27, 28, 29, 30, 31] (by decide +kernel) (by decide +kernel)
set_option maxRecDepth 20000 in
theorem gX6_counterCount_X0_edges : GoodIn wsX6_counterCount (wsV RX6 106 RX0 yX0_edges wsX0_edges) := goodIn_app (goodIn_of _ (by decide +kernel)) ggX6_counterCount_X0_edges
set_option maxRecDepth 20000 in
theorem ggX6_counterCount_X3_isInTree : GoodIn wsX6_counterCount wsX3_isInTree := goodIn_r _ [13, 14, 15, 16, 17, 32, 33, 34] (by decide +kernel) (by decide +kernel)
set_option maxRecDepth 20000 in
theorem gX6_counterCount_X3_isInTree : GoodIn wsX6_counterCount (wsV RX6 182 RX3 yX3_isInTree wsX3_isInTree) := goodIn_app (goodIn_of _ (by decide +kernel)) ggX6_counterCount_X3_isInTree
theorem dX6_counterCount_0 : decode cX6_counterCount 0 = .ok (.iconst 0, 1) := by decide +kernel
theorem dX6_counterCount_1 : decode cX6_counterCount 1 = .ok (.istore_n 1, 1) := by decide +kernel
theorem dX6_counterCount_2 : decode cX6_counterCount 2 = .ok (.iconst 0, 1) := by decide +kernel
theorem dX6_counterCount_3 : decode cX6_counterCount 3 = .ok (.istore_n 2, 1) := by decide +kernel
theorem dX6_counterCount_4 : decode cX6_counterCount 4 = .ok (.iload_n 2, 1) := by decide +kernel
theorem dX6_counterCount_5 : decode cX6_counterCount 5 = .ok (.aload_n 0, 1) := by decide +kernel
theorem dX6_counterCount_6 : decode cX6_counterCount 6 = .ok (.getfield 47, 3) := by decide +kernel
theorem dX6_counterCount_9 : decode cX6_counterCount 9 = .ok (.invokevirtual 106, 3) := by decide +kernel
theorem dX6_counterCount_12 : decode cX6_counterCount 12 = .ok (.if_icmp .ge 23, 3) := by decide +kernel
theorem dX6_counterCount_15 : decode cX6_counterCount 15 = .ok (.aload_n 0, 1) := by decide +kernel
theorem dX6_counterCount_16 : decode cX6_counterCount 16 = .ok (.getfield 26, 3) := by decide +kernel
theorem dX6_counterCount_19 : decode cX6_counterCount 19 = .ok (.iload_n 2, 1) := by decide +kernel
theorem dX6_counterCount_20 : decode cX6_counterCount 20 = .ok (.invokevirtual 182, 3) := by decide +kernel
theorem dX6_counterCount_23 : decode cX6_counterCount 23 = .ok (.ifCond .ne 6, 3) := by decide +kernel
theorem dX6_counterCount_26 : decode cX6_counterCount 26 = .ok (.iinc 1 1, 3) := by decide +kernel
theorem dX6_counterCount_29 : decode cX6_counterCount 29 = .ok (.iinc 2 1, 3) := by decide +kernel
theorem dX6_counterCount_32 : decode cX6_counterCount 32 = .ok (.goto (-28), 3) := by decide +kernel
theorem dX6_counterCount_35 : decode cX6_counterCount 35 = .ok (.iload_n 1, 1) := by decide +kernel
theorem dX6_counterCount_36 : decode cX6_counterCount 36 = .ok (.ireturn, 1) := by decide +kernel
set_option maxRecDepth 20000 in
theorem ggX6_placementCost_X0_edges : GoodIn wsX6_placementCost wsX0_edges := goodIn_r _ [7, 8, 30, 31, 32, 33, 34, 35, 36] (by decide +kernel) (by decide +kernel)
set_option maxRecDepth 20000 in
theorem gX6_placementCost_X0_edges : GoodIn wsX6_placementCost (wsV RX6 106 RX0 yX0_edges wsX0_edges) := goodIn_app (goodIn_of _ (by decide +kernel)) ggX6_placementCost_X0_edges
set_option maxRecDepth 20000 in
theorem ggX6_placementCost_X3_isInTree : GoodIn wsX6_placementCost wsX3_isInTree := goodIn_r _ [13, 14, 15, 16, 17, 37, 38, 39] (by decide +kernel) (by decide +kernel)
set_option maxRecDepth 20000 in
theorem gX6_placementCost_X3_isInTree : GoodIn wsX6_placementCost (wsV RX6 182 RX3 yX3_isInTree wsX3_isInTree) := goodIn_app (goodIn_of _ (by decide +kernel)) ggX6_placementCost_X3_isInTree
set_option maxRecDepth 20000 in
theorem ggX6_placementCost_X3_weight : GoodIn wsX6_placementCost wsX3_weight := goodIn_r _ [21, 22, 37, 38, 39] (by decide +kernel) (by decide +kernel)
set_option maxRecDepth 20000 in
theorem gX6_placementCost_X3_weight : GoodIn wsX6_placementCost (wsV RX6 117 RX3 yX3_weight wsX3_weight) := goodIn_app (goodIn_of _ (by decide +kernel)) ggX6_placementCost_X3_weight
theorem dX6_placementCost_0 : decode cX6_placementCost 0 = .ok (.iconst 0, 1) := by decide +kernel
theorem dX6_placementCost_1 : decode cX6_placementCost 1 = .ok (.istore_n 1, 1) := by decide +kernel
theorem dX6_placementCost_2 : decode cX6_placementCost 2 = .ok (.iconst 0, 1) := by decide +kernel
theorem dX6_placementCost_3 : decode cX6_placementCost 3 = .ok (.istore_n 2, 1) := by decide +kernel
theorem dX6_placementCost_4 : decode cX6_placementCost 4 = .ok (.iload_n 2, 1) := by decide +kernel
theorem dX6_placementCost_5 : decode cX6_placementCost 5 = .ok (.aload_n 0, 1) := by decide +kernel
theorem dX6_placementCost_6 : decode cX6_placementCost 6 = .ok (.getfield 47, 3) := by decide +kernel
theorem dX6_placementCost_9 : decode cX6_placementCost 9 = .ok (.invokevirtual 106, 3) := by decide +kernel
theorem dX6_placementCost_12 : decode cX6_placementCost 12 = .ok (.if_icmp .ge 31, 3) := by decide +kernel
theorem dX6_placementCost_15 : decode cX6_placementCost 15 = .ok (.aload_n 0, 1) := by decide +kernel
theorem dX6_placementCost_16 : decode cX6_placementCost 16 = .ok (.getfield 26, 3) := by decide +kernel
theorem dX6_placementCost_19 : decode cX6_placementCost 19 = .ok (.iload_n 2, 1) := by decide +kernel
theorem dX6_placementCost_20 : decode cX6_placementCost 20 = .ok (.invokevirtual 182, 3) := by decide +kernel
theorem dX6_placementCost_23 : decode cX6_placementCost 23 = .ok (.ifCond .ne 14, 3) := by decide +kernel
theorem dX6_placementCost_26 : decode cX6_placementCost 26 = .ok (.iload_n 1, 1) := by decide +kernel
theorem dX6_placementCost_27 : decode cX6_placementCost 27 = .ok (.aload_n 0, 1) := by decide +kernel
theorem dX6_placementCost_28 : decode cX6_placementCost 28 = .ok (.getfield 26, 3) := by decide +kernel
theorem dX6_placementCost_31 : decode cX6_placementCost 31 = .ok (.iload_n 2, 1) := by decide +kernel
theorem dX6_placementCost_32 : decode cX6_placementCost 32 = .ok (.invokevirtual 117, 3) := by decide +kernel
theorem dX6_placementCost_35 : decode cX6_placementCost 35 = .ok (.iadd, 1) := by decide +kernel
theorem dX6_placementCost_36 : decode cX6_placementCost 36 = .ok (.istore_n 1, 1) := by decide +kernel
theorem dX6_placementCost_37 : decode cX6_placementCost 37 = .ok (.iinc 2 1, 3) := by decide +kernel
theorem dX6_placementCost_40 : decode cX6_placementCost 40 = .ok (.goto (-36), 3) := by decide +kernel
theorem dX6_placementCost_43 : decode cX6_placementCost 43 = .ok (.iload_n 1, 1) := by decide +kernel
theorem dX6_placementCost_44 : decode cX6_placementCost 44 = .ok (.ireturn, 1) := by decide +kernel
set_option maxRecDepth 20000 in
theorem ggX6_costShareBits_X0_edges : GoodIn wsX6_costShareBits wsX0_edges := goodIn_r _ [7, 8, 38, 39, 40, 41, 42, 43, 44] (by decide +kernel) (by decide +kernel)
set_option maxRecDepth 20000 in
theorem gX6_costShareBits_X0_edges : GoodIn wsX6_costShareBits (wsV RX6 106 RX0 yX0_edges wsX0_edges) := goodIn_app (goodIn_of _ (by decide +kernel)) ggX6_costShareBits_X0_edges
set_option maxRecDepth 20000 in
theorem ggX6_costShareBits_X3_weight : GoodIn wsX6_costShareBits wsX3_weight := goodIn_r _ [13, 14, 45, 46, 47] (by decide +kernel) (by decide +kernel)
set_option maxRecDepth 20000 in
theorem gX6_costShareBits_X3_weight : GoodIn wsX6_costShareBits (wsV RX6 117 RX3 yX3_weight wsX3_weight) := goodIn_app (goodIn_of _ (by decide +kernel)) ggX6_costShareBits_X3_weight
set_option maxRecDepth 20000 in
theorem ggX6_costShareBits_X6_placementCost : GoodIn wsX6_costShareBits wsX6_placementCost := goodIn_r _ [19, 1, 2, 3, 4, 5, 6, 7, 8, 20, 21, 22, 12, 23, 24, 25, 18, 26, 9, 10, 11, 13, 14, 31, 32, 33, 34, 35, 36, 37, 38, 39, 40, 41, 42, 43, 44, 45, 46, 47] (by decide +kernel) (by decide +kernel)
set_option maxRecDepth 20000 in
theorem gX6_costShareBits_X6_placementCost : GoodIn wsX6_costShareBits (wsV RX6 185 RX6 yX6_placementCost wsX6_placementCost) := goodIn_app (goodIn_of _ (by decide +kernel)) ggX6_costShareBits_X6_placementCost
set_option maxRecDepth 20000 in
theorem ggX6_costShareBits_X6_bitsOfShare : GoodIn wsX6_costShareBits wsX6_bitsOfShare := goodIn_r _ [29, 30] (by decide +kernel) (by decide +kernel)
set_option maxRecDepth 20000 in
theorem gX6_costShareBits_X6_bitsOfShare : GoodIn wsX6_costShareBits (va_wsS RX6 188 yX6_bitsOfShare wsX6_bitsOfShare) := goodIn_app (goodIn_of _ (by decide +kernel)) ggX6_costShareBits_X6_bitsOfShare
theorem dX6_costShareBits_0 : decode cX6_costShareBits 0 = .ok (.iconst 0, 1) := by decide +kernel
theorem dX6_costShareBits_1 : decode cX6_costShareBits 1 = .ok (.istore_n 1, 1) := by decide +kernel
theorem dX6_costShareBits_2 : decode cX6_costShareBits 2 = .ok (.iconst 0, 1) := by decide +kernel
theorem dX6_costShareBits_3 : decode cX6_costShareBits 3 = .ok (.istore_n 2, 1) := by decide +kernel
theorem dX6_costShareBits_4 : decode cX6_costShareBits 4 = .ok (.iload_n 2, 1) := by decide +kernel
theorem dX6_costShareBits_5 : decode cX6_costShareBits 5 = .ok (.aload_n 0, 1) := by decide +kernel
theorem dX6_costShareBits_6 : decode cX6_costShareBits 6 = .ok (.getfield 47, 3) := by decide +kernel
theorem dX6_costShareBits_9 : decode cX6_costShareBits 9 = .ok (.invokevirtual 106, 3) := by decide +kernel
theorem dX6_costShareBits_12 : decode cX6_costShareBits 12 = .ok (.if_icmp .ge 20, 3) := by decide +kernel
theorem dX6_costShareBits_15 : decode cX6_costShareBits 15 = .ok (.iload_n 1, 1) := by decide +kernel
theorem dX6_costShareBits_16 : decode cX6_costShareBits 16 = .ok (.aload_n 0, 1) := by decide +kernel
theorem dX6_costShareBits_17 : decode cX6_costShareBits 17 = .ok (.getfield 26, 3) := by decide +kernel
theorem dX6_costShareBits_20 : decode cX6_costShareBits 20 = .ok (.iload_n 2, 1) := by decide +kernel
theorem dX6_costShareBits_21 : decode cX6_costShareBits 21 = .ok (.invokevirtual 117, 3) := by decide +kernel
theorem dX6_costShareBits_24 : decode cX6_costShareBits 24 = .ok (.iadd, 1) := by decide +kernel
theorem dX6_costShareBits_25 : decode cX6_costShareBits 25 = .ok (.istore_n 1, 1) := by decide +kernel
theorem dX6_costShareBits_26 : decode cX6_costShareBits 26 = .ok (.iinc 2 1, 3) := by decide +kernel
theorem dX6_costShareBits_29 : decode cX6_costShareBits 29 = .ok (.goto (-25), 3) := by decide +kernel
theorem dX6_costShareBits_32 : decode cX6_costShareBits 32 = .ok (.iload_n 1, 1) := by decide +kernel
theorem dX6_costShareBits_33 : decode cX6_costShareBits 33 = .ok (.ifCond .gt 6, 3) := by decide +kernel
theorem dX6_costShareBits_36 : decode cX6_costShareBits 36 = .ok (.bipush (-104), 2) := by decide +kernel
theorem dX6_costShareBits_38 : decode cX6_costShareBits 38 = .ok (.ireturn, 1) := by decide +kernel
theorem dX6_costShareBits_39 : decode cX6_costShareBits 39 = .ok (.aload_n 0, 1) := by decide +kernel
theorem dX6_costShareBits_40 : decode cX6_costShareBits 40 = .ok (.invokevirtual 185, 3) := by decide +kernel
theorem dX6_costShareBits_43 : decode cX6_costShareBits 43 = .ok (.i2f, 1) := by decide +kernel
theorem dX6_costShareBits_44 : decode cX6_costShareBits 44 = .ok (.iload_n 1, 1) := by decide +kernel
theorem dX6_costShareBits_45 : decode cX6_costShareBits 45 = .ok (.i2f, 1) := by decide +kernel
theorem dX6_costShareBits_46 : decode cX6_costShareBits 46 = .ok (.fdiv, 1) := by decide +kernel
theorem dX6_costShareBits_47 : decode cX6_costShareBits 47 = .ok (.invokestatic 188, 3) := by decide +kernel
theorem dX6_costShareBits_50 : decode cX6_costShareBits 50 = .ok (.ireturn, 1) := by decide +kernel
set_option maxRecDepth 20000 in
theorem ggX6_counter_X0_hasEdge : GoodIn wsX6_counter wsX0_hasEdge := goodIn_r _ [8, 9, 32, 33, 34, 35, 36, 37, 38] (by decide +kernel) (by decide +kernel)
set_option maxRecDepth 20000 in
theorem gX6_counter_X0_hasEdge : GoodIn wsX6_counter (wsV RX6 109 RX0 yX0_hasEdge wsX0_hasEdge) := goodIn_app (goodIn_of _ (by decide +kernel)) ggX6_counter_X0_hasEdge
set_option maxRecDepth 20000 in
theorem ggX6_counter_X3_isInTree : GoodIn wsX6_counter wsX3_isInTree := goodIn_r _ [14, 15, 16, 17, 18, 39, 40, 41] (by decide +kernel) (by decide +kernel)
set_option maxRecDepth 20000 in
theorem gX6_counter_X3_isInTree : GoodIn wsX6_counter (wsV RX6 182 RX3 yX3_isInTree wsX3_isInTree) := goodIn_app (goodIn_of _ (by decide +kernel)) ggX6_counter_X3_isInTree
set_option maxRecDepth 20000 in
theorem ggX6_counter_X4_counterValue : GoodIn wsX6_counter wsX4_counterValue := goodIn_r _ [23, 24, 42, 43, 44, 45, 46] (by decide +kernel) (by decide +kernel)
set_option maxRecDepth 20000 in
theorem gX6_counter_X4_counterValue : GoodIn wsX6_counter (wsV RX6 192 RX4 yX4_counterValue wsX4_counterValue) := goodIn_app (goodIn_of _ (by decide +kernel)) ggX6_counter_X4_counterValue
theorem dX6_counter_0 : decode cX6_counter 0 = .ok (.aload_n 0, 1) := by decide +kernel
theorem dX6_counter_1 : decode cX6_counter 1 = .ok (.getfield 47, 3) := by decide +kernel
theorem dX6_counter_4 : decode cX6_counter 4 = .ok (.iload_n 1, 1) := by decide +kernel
theorem dX6_counter_5 : decode cX6_counter 5 = .ok (.invokevirtual 109, 3) := by decide +kernel
theorem dX6_counter_8 : decode cX6_counter 8 = .ok (.ifCond .ne 6, 3) := by decide +kernel
theorem dX6_counter_11 : decode cX6_counter 11 = .ok (.bipush (-101), 2) := by decide +kernel
theorem dX6_counter_13 : decode cX6_counter 13 = .ok (.ireturn, 1) := by decide +kernel
theorem dX6_counter_14 : decode cX6_counter 14 = .ok (.aload_n 0, 1) := by decide +kernel
theorem dX6_counter_15 : decode cX6_counter 15 = .ok (.getfield 26, 3) := by decide +kernel
theorem dX6_counter_18 : decode cX6_counter 18 = .ok (.iload_n 1, 1) := by decide +kernel
theorem dX6_counter_19 : decode cX6_counter 19 = .ok (.invokevirtual 182, 3) := by decide +kernel
theorem dX6_counter_22 : decode cX6_counter 22 = .ok (.ifCond .eq 8, 3) := by decide +kernel
theorem dX6_counter_25 : decode cX6_counter 25 = .ok (.bipush (-104), 2) := by decide +kernel
theorem dX6_counter_27 : decode cX6_counter 27 = .ok (.goto 11, 3) := by decide +kernel
theorem dX6_counter_30 : decode cX6_counter 30 = .ok (.aload_n 0, 1) := by decide +kernel
theorem dX6_counter_31 : decode cX6_counter 31 = .ok (.getfield 33, 3) := by decide +kernel
theorem dX6_counter_34 : decode cX6_counter 34 = .ok (.iload_n 1, 1) := by decide +kernel
theorem dX6_counter_35 : decode cX6_counter 35 = .ok (.invokevirtual 192, 3) := by decide +kernel
theorem dX6_counter_38 : decode cX6_counter 38 = .ok (.ireturn, 1) := by decide +kernel
set_option maxRecDepth 20000 in
theorem ggX6_trueCount_X0_hasEdge : GoodIn wsX6_trueCount wsX0_hasEdge := goodIn_r _ [7, 8, 22, 23, 24, 25, 26, 27, 28] (by decide +kernel) (by decide +kernel)
set_option maxRecDepth 20000 in
theorem gX6_trueCount_X0_hasEdge : GoodIn wsX6_trueCount (wsV RX6 109 RX0 yX0_hasEdge wsX0_hasEdge) := goodIn_app (goodIn_of _ (by decide +kernel)) ggX6_trueCount_X0_hasEdge
set_option maxRecDepth 20000 in
theorem ggX6_trueCount_X4_passes : GoodIn wsX6_trueCount wsX4_passes := goodIn_r _ [13, 14, 29, 30, 31, 32, 33] (by decide +kernel) (by decide +kernel)
set_option maxRecDepth 20000 in
theorem gX6_trueCount_X4_passes : GoodIn wsX6_trueCount (wsV RX6 195 RX4 yX4_passes wsX4_passes) := goodIn_app (goodIn_of _ (by decide +kernel)) ggX6_trueCount_X4_passes
theorem dX6_trueCount_0 : decode cX6_trueCount 0 = .ok (.aload_n 0, 1) := by decide +kernel
theorem dX6_trueCount_1 : decode cX6_trueCount 1 = .ok (.getfield 47, 3) := by decide +kernel
theorem dX6_trueCount_4 : decode cX6_trueCount 4 = .ok (.iload_n 1, 1) := by decide +kernel
theorem dX6_trueCount_5 : decode cX6_trueCount 5 = .ok (.invokevirtual 109, 3) := by decide +kernel
theorem dX6_trueCount_8 : decode cX6_trueCount 8 = .ok (.ifCond .eq 14, 3) := by decide +kernel
theorem dX6_trueCount_11 : decode cX6_trueCount 11 = .ok (.aload_n 0, 1) := by decide +kernel
theorem dX6_trueCount_12 : decode cX6_trueCount 12 = .ok (.getfield 33, 3) := by decide +kernel
theorem dX6_trueCount_15 : decode cX6_trueCount 15 = .ok (.iload_n 1, 1) := by decide +kernel
theorem dX6_trueCount_16 : decode cX6_trueCount 16 = .ok (.invokevirtual 195, 3) := by decide +kernel
theorem dX6_trueCount_19 : decode cX6_trueCount 19 = .ok (.goto 5, 3) := by decide +kernel
theorem dX6_trueCount_22 : decode cX6_trueCount 22 = .ok (.bipush (-101), 2) := by decide +kernel
theorem dX6_trueCount_24 : decode cX6_trueCount 24 = .ok (.ireturn, 1) := by decide +kernel
set_option maxRecDepth 20000 in
theorem ggX6_reconstruct_X0_hasEdge : GoodIn wsX6_reconstruct wsX0_hasEdge := goodIn_r _ [6, 7, 88, 89, 90, 91, 92, 93, 94] (by decide +kernel) (by decide +kernel)
set_option maxRecDepth 20000 in
theorem gX6_reconstruct_X0_hasEdge : GoodIn wsX6_reconstruct (wsV RX6 109 RX0 yX0_hasEdge wsX0_hasEdge) := goodIn_app (goodIn_of _ (by decide +kernel)) ggX6_reconstruct_X0_hasEdge
set_option maxRecDepth 20000 in
theorem ggX6_reconstruct_X6_isUncertain : GoodIn wsX6_reconstruct wsX6_isUncertain := goodIn_r _ [12, 13, 1, 14, 15, 16, 17, 18, 19, 20, 11, 21, 22, 23, 24, 25, 26, 27, 28, 29, 30, 31, 32, 33, 34, 35, 36, 37, 38, 39, 40, 5, 41, 7, 42, 43, 44, 45, 46, 47, 48, 49, 50, 51, 3, 4, 6, 52, 53, 54, 55, 56, 57, 58, 59, 60, 61, 81, 82, 83, 84, 85, 86, 87, 95, 96, 97, 98, 99, 100, 101, 102, 88, 89, 90, 91, 92, 93, 94] (by decide +kernel) (by decide +kernel)
set_option maxRecDepth 20000 in
theorem gX6_reconstruct_X6_isUncertain : GoodIn wsX6_reconstruct (wsV RX6 198 RX6 yX6_isUncertain wsX6_isUncertain) := goodIn_app (goodIn_of _ (by decide +kernel)) ggX6_reconstruct_X6_isUncertain
set_option maxRecDepth 20000 in
theorem ggX6_reconstruct_X6_reconstructedCount : GoodIn wsX6_reconstruct wsX6_reconstructedCount := goodIn_r _ [65, 13, 26, 1, 14, 15, 16, 17, 18, 19, 20, 11, 21, 66, 34, 35, 30, 36, 37, 67, 68, 69, 70, 71, 72, 73, 74, 75, 76, 77, 78, 5, 79, 80, 57, 58, 59, 60, 61, 38, 39, 40, 41, 7, 42, 43, 44, 45, 46, 47, 48, 49, 50, 51, 3, 4, 6, 52, 53, 54, 55, 56, 81, 82, 83, 84, 85, 86, 87, 95, 96, 97, 98, 99, 100, 101, 102, 88, 89, 90, 91, 92, 93, 94] (by decide +kernel) (by decide +kernel)
set_option maxRecDepth 20000 in
theorem gX6_reconstruct_X6_reconstructedCount : GoodIn wsX6_reconstruct (wsV RX6 159 RX6 yX6_reconstructedCount wsX6_reconstructedCount) := goodIn_app (goodIn_of _ (by decide +kernel)) ggX6_reconstruct_X6_reconstructedCount
theorem dX6_reconstruct_0 : decode cX6_reconstruct 0 = .ok (.aload_n 0, 1) := by decide +kernel
theorem dX6_reconstruct_1 : decode cX6_reconstruct 1 = .ok (.getfield 47, 3) := by decide +kernel
theorem dX6_reconstruct_4 : decode cX6_reconstruct 4 = .ok (.iload_n 1, 1) := by decide +kernel
theorem dX6_reconstruct_5 : decode cX6_reconstruct 5 = .ok (.invokevirtual 109, 3) := by decide +kernel
theorem dX6_reconstruct_8 : decode cX6_reconstruct 8 = .ok (.ifCond .ne 6, 3) := by decide +kernel
theorem dX6_reconstruct_11 : decode cX6_reconstruct 11 = .ok (.bipush (-101), 2) := by decide +kernel
theorem dX6_reconstruct_13 : decode cX6_reconstruct 13 = .ok (.ireturn, 1) := by decide +kernel
theorem dX6_reconstruct_14 : decode cX6_reconstruct 14 = .ok (.aload_n 0, 1) := by decide +kernel
theorem dX6_reconstruct_15 : decode cX6_reconstruct 15 = .ok (.iload_n 1, 1) := by decide +kernel
theorem dX6_reconstruct_16 : decode cX6_reconstruct 16 = .ok (.invokevirtual 198, 3) := by decide +kernel
theorem dX6_reconstruct_19 : decode cX6_reconstruct 19 = .ok (.ifCond .eq 8, 3) := by decide +kernel
theorem dX6_reconstruct_22 : decode cX6_reconstruct 22 = .ok (.bipush (-105), 2) := by decide +kernel
theorem dX6_reconstruct_24 : decode cX6_reconstruct 24 = .ok (.goto 8, 3) := by decide +kernel
theorem dX6_reconstruct_27 : decode cX6_reconstruct 27 = .ok (.aload_n 0, 1) := by decide +kernel
theorem dX6_reconstruct_28 : decode cX6_reconstruct 28 = .ok (.iload_n 1, 1) := by decide +kernel
theorem dX6_reconstruct_29 : decode cX6_reconstruct 29 = .ok (.invokevirtual 159, 3) := by decide +kernel
theorem dX6_reconstruct_32 : decode cX6_reconstruct 32 = .ok (.ireturn, 1) := by decide +kernel
set_option maxRecDepth 20000 in
theorem ggX6_coefficient_X0_hasEdge : GoodIn wsX6_coefficient wsX0_hasEdge := goodIn_r _ [7, 8, 45, 46, 47, 48, 49, 50, 51] (by decide +kernel) (by decide +kernel)
set_option maxRecDepth 20000 in
theorem gX6_coefficient_X0_hasEdge : GoodIn wsX6_coefficient (wsV RX6 109 RX0 yX0_hasEdge wsX0_hasEdge) := goodIn_app (goodIn_of _ (by decide +kernel)) ggX6_coefficient_X0_hasEdge
set_option maxRecDepth 20000 in
theorem ggX6_coefficient_X3_isInTree : GoodIn wsX6_coefficient wsX3_isInTree := goodIn_r _ [13, 14, 15, 16, 17, 52, 53, 54] (by decide +kernel) (by decide +kernel)
set_option maxRecDepth 20000 in
theorem gX6_coefficient_X3_isInTree : GoodIn wsX6_coefficient (wsV RX6 182 RX3 yX3_isInTree wsX3_isInTree) := goodIn_app (goodIn_of _ (by decide +kernel)) ggX6_coefficient_X3_isInTree
set_option maxRecDepth 20000 in
theorem ggX6_coefficient_X6_factorOfChord : GoodIn wsX6_coefficient wsX6_factorOfChord := goodIn_r _ [21, 2, 1, 22, 23, 24, 6, 25, 26, 27, 4, 5, 7, 8, 28, 29, 30, 31, 32, 33, 34, 35, 12, 36, 37, 15, 16, 17, 38, 39, 40, 41, 42, 43, 44, 45, 46, 47, 48, 49, 50, 51, 52, 53, 54] (by decide +kernel) (by decide +kernel)
set_option maxRecDepth 20000 in
theorem gX6_coefficient_X6_factorOfChord : GoodIn wsX6_coefficient (wsV RX6 201 RX6 yX6_factorOfChord wsX6_factorOfChord) := goodIn_app (goodIn_of _ (by decide +kernel)) ggX6_coefficient_X6_factorOfChord
theorem dX6_coefficient_0 : decode cX6_coefficient 0 = .ok (.aload_n 0, 1) := by decide +kernel
theorem dX6_coefficient_1 : decode cX6_coefficient 1 = .ok (.getfield 47, 3) := by decide +kernel
theorem dX6_coefficient_4 : decode cX6_coefficient 4 = .ok (.iload_n 1, 1) := by decide +kernel
theorem dX6_coefficient_5 : decode cX6_coefficient 5 = .ok (.invokevirtual 109, 3) := by decide +kernel
theorem dX6_coefficient_8 : decode cX6_coefficient 8 = .ok (.ifCond .eq 14, 3) := by decide +kernel
theorem dX6_coefficient_11 : decode cX6_coefficient 11 = .ok (.aload_n 0, 1) := by decide +kernel
theorem dX6_coefficient_12 : decode cX6_coefficient 12 = .ok (.getfield 47, 3) := by decide +kernel
theorem dX6_coefficient_15 : decode cX6_coefficient 15 = .ok (.iload_n 2, 1) := by decide +kernel
theorem dX6_coefficient_16 : decode cX6_coefficient 16 = .ok (.invokevirtual 109, 3) := by decide +kernel
theorem dX6_coefficient_19 : decode cX6_coefficient 19 = .ok (.ifCond .ne 6, 3) := by decide +kernel
theorem dX6_coefficient_22 : decode cX6_coefficient 22 = .ok (.bipush (-101), 2) := by decide +kernel
theorem dX6_coefficient_24 : decode cX6_coefficient 24 = .ok (.ireturn, 1) := by decide +kernel
theorem dX6_coefficient_25 : decode cX6_coefficient 25 = .ok (.aload_n 0, 1) := by decide +kernel
theorem dX6_coefficient_26 : decode cX6_coefficient 26 = .ok (.getfield 26, 3) := by decide +kernel
theorem dX6_coefficient_29 : decode cX6_coefficient 29 = .ok (.iload_n 1, 1) := by decide +kernel
theorem dX6_coefficient_30 : decode cX6_coefficient 30 = .ok (.invokevirtual 182, 3) := by decide +kernel
theorem dX6_coefficient_33 : decode cX6_coefficient 33 = .ok (.ifCond .eq 14, 3) := by decide +kernel
theorem dX6_coefficient_36 : decode cX6_coefficient 36 = .ok (.aload_n 0, 1) := by decide +kernel
theorem dX6_coefficient_37 : decode cX6_coefficient 37 = .ok (.getfield 26, 3) := by decide +kernel
theorem dX6_coefficient_40 : decode cX6_coefficient 40 = .ok (.iload_n 2, 1) := by decide +kernel
theorem dX6_coefficient_41 : decode cX6_coefficient 41 = .ok (.invokevirtual 182, 3) := by decide +kernel
theorem dX6_coefficient_44 : decode cX6_coefficient 44 = .ok (.ifCond .eq 6, 3) := by decide +kernel
theorem dX6_coefficient_47 : decode cX6_coefficient 47 = .ok (.bipush (-104), 2) := by decide +kernel
theorem dX6_coefficient_49 : decode cX6_coefficient 49 = .ok (.ireturn, 1) := by decide +kernel
theorem dX6_coefficient_50 : decode cX6_coefficient 50 = .ok (.aload_n 0, 1) := by decide +kernel
theorem dX6_coefficient_51 : decode cX6_coefficient 51 = .ok (.iload_n 1, 1) := by decide +kernel
theorem dX6_coefficient_52 : decode cX6_coefficient 52 = .ok (.iload_n 2, 1) := by decide +kernel
theorem dX6_coefficient_53 : decode cX6_coefficient 53 = .ok (.invokevirtual 201, 3) := by decide +kernel
theorem dX6_coefficient_56 : decode cX6_coefficient 56 = .ok (.ireturn, 1) := by decide +kernel
set_option maxRecDepth 20000 in
theorem ggX6_executions_X0_hasBlock : GoodIn wsX6_executions wsX0_hasBlock := goodIn_r _ [7, 8, 96, 97, 98, 99, 100, 101, 102] (by decide +kernel) (by decide +kernel)
set_option maxRecDepth 20000 in
theorem gX6_executions_X0_hasBlock : GoodIn wsX6_executions (wsV RX6 204 RX0 yX0_hasBlock wsX0_hasBlock) := goodIn_app (goodIn_of _ (by decide +kernel)) ggX6_executions_X0_hasBlock
set_option maxRecDepth 20000 in
theorem ggX6_executions_X4_finished : GoodIn wsX6_executions wsX4_finished := goodIn_r _ [13, 14, 103, 104, 105, 106, 107] (by decide +kernel) (by decide +kernel)
set_option maxRecDepth 20000 in
theorem gX6_executions_X4_finished : GoodIn wsX6_executions (wsV RX6 149 RX4 yX4_finished wsX4_finished) := goodIn_app (goodIn_of _ (by decide +kernel)) ggX6_executions_X4_finished
set_option maxRecDepth 20000 in
theorem ggX6_executions_X4_present : GoodIn wsX6_executions wsX4_present := goodIn_r _ [18, 19, 103, 104, 105, 106, 107] (by decide +kernel) (by decide +kernel)
set_option maxRecDepth 20000 in
theorem gX6_executions_X4_present : GoodIn wsX6_executions (wsV RX6 142 RX4 yX4_present wsX4_present) := goodIn_app (goodIn_of _ (by decide +kernel)) ggX6_executions_X4_present
set_option maxRecDepth 20000 in
theorem ggX6_executions_X0_edges : GoodIn wsX6_executions wsX0_edges := goodIn_r _ [23, 24, 96, 97, 98, 99, 100, 101, 102] (by decide +kernel) (by decide +kernel)
set_option maxRecDepth 20000 in
theorem gX6_executions_X0_edges : GoodIn wsX6_executions (wsV RX6 106 RX0 yX0_edges wsX0_edges) := goodIn_app (goodIn_of _ (by decide +kernel)) ggX6_executions_X0_edges
set_option maxRecDepth 20000 in
theorem ggX6_executions_X0_target : GoodIn wsX6_executions wsX0_target := goodIn_r _ [28, 29, 30, 31, 32, 6, 33, 24, 96, 97, 98, 99, 100, 101, 102] (by decide +kernel) (by decide +kernel)
set_option maxRecDepth 20000 in
theorem gX6_executions_X0_target : GoodIn wsX6_executions (wsV RX6 179 RX0 yX0_target wsX0_target) := goodIn_app (goodIn_of _ (by decide +kernel)) ggX6_executions_X0_target
set_option maxRecDepth 20000 in
theorem ggX6_executions_X6_isUncertain : GoodIn wsX6_executions wsX6_isUncertain := goodIn_r _ [38, 39, 1, 40, 41, 42, 43, 44, 45, 46, 37, 47, 48, 49, 50, 51, 2, 52, 53, 54, 12, 55, 56, 57, 58, 59, 60, 61, 20, 21, 22, 6, 23, 24, 62, 63, 64, 65, 66, 67, 68, 69, 70, 30, 31, 32, 33, 25, 26, 27, 28, 29, 71, 72, 73, 74, 75, 89, 90, 91, 92, 93, 94, 95, 108, 109, 110, 103, 104, 105, 106, 107, 96, 97, 98, 99, 100, 101, 102] (by decide +kernel) (by decide +kernel)
set_option maxRecDepth 20000 in
theorem gX6_executions_X6_isUncertain : GoodIn wsX6_executions (wsV RX6 198 RX6 yX6_isUncertain wsX6_isUncertain) := goodIn_app (goodIn_of _ (by decide +kernel)) ggX6_executions_X6_isUncertain
set_option maxRecDepth 20000 in
theorem ggX6_executions_X6_reconstructedCount : GoodIn wsX6_executions wsX6_reconstructedCount := goodIn_r _ [79, 39, 2, 1, 40, 41, 42, 43, 44, 45, 46, 37, 47, 80, 58, 59, 12, 60, 61, 81, 82, 83, 84, 15, 16, 17, 18, 19, 85, 86, 87, 6, 88, 8, 71, 72, 73, 74, 75, 20, 21, 22, 23, 24, 62, 63, 64, 65, 66, 67, 68, 69, 70, 30, 31, 32, 33, 25, 26, 27, 28, 29, 89, 90, 91, 92, 93, 94, 95, 108, 109, 110, 103, 104, 105, 106, 107, 96, 97, 98, 99, 100, 101, 102] (by decide +kernel) (by decide +kernel)
set_option maxRecDepth 20000 in
theorem gX6_executions_X6_reconstructedCount : GoodIn wsX6_executions (wsV RX6 159 RX6 yX6_reconstructedCount wsX6_reconstructedCount) := goodIn_app (goodIn_of _ (by decide +kernel)) ggX6_executions_X6_reconstructedCount
theorem dX6_executions_0 : decode cX6_executions 0 = .ok (.aload_n 0, 1) := by decide +kernel
theorem dX6_executions_1 : decode cX6_executions 1 = .ok (.getfield 47, 3) := by decide +kernel
theorem dX6_executions_4 : decode cX6_executions 4 = .ok (.iload_n 1, 1) := by decide +kernel
theorem dX6_executions_5 : decode cX6_executions 5 = .ok (.invokevirtual 204, 3) := by decide +kernel
theorem dX6_executions_8 : decode cX6_executions 8 = .ok (.ifCond .ne 6, 3) := by decide +kernel
theorem dX6_executions_11 : decode cX6_executions 11 = .ok (.bipush (-101), 2) := by decide +kernel
theorem dX6_executions_13 : decode cX6_executions 13 = .ok (.ireturn, 1) := by decide +kernel
theorem dX6_executions_14 : decode cX6_executions 14 = .ok (.iload_n 1, 1) := by decide +kernel
theorem dX6_executions_15 : decode cX6_executions 15 = .ok (.ifCond .ne 27, 3) := by decide +kernel
theorem dX6_executions_18 : decode cX6_executions 18 = .ok (.aload_n 0, 1) := by decide +kernel
theorem dX6_executions_19 : decode cX6_executions 19 = .ok (.getfield 33, 3) := by decide +kernel
theorem dX6_executions_22 : decode cX6_executions 22 = .ok (.invokevirtual 149, 3) := by decide +kernel
theorem dX6_executions_25 : decode cX6_executions 25 = .ok (.aload_n 0, 1) := by decide +kernel
theorem dX6_executions_26 : decode cX6_executions 26 = .ok (.getfield 33, 3) := by decide +kernel
theorem dX6_executions_29 : decode cX6_executions 29 = .ok (.invokevirtual 142, 3) := by decide +kernel
theorem dX6_executions_32 : decode cX6_executions 32 = .ok (.ifCond .ne 7, 3) := by decide +kernel
theorem dX6_executions_35 : decode cX6_executions 35 = .ok (.iconst 0, 1) := by decide +kernel
theorem dX6_executions_36 : decode cX6_executions 36 = .ok (.goto 4, 3) := by decide +kernel
theorem dX6_executions_39 : decode cX6_executions 39 = .ok (.iconst 1, 1) := by decide +kernel
theorem dX6_executions_40 : decode cX6_executions 40 = .ok (.iadd, 1) := by decide +kernel
theorem dX6_executions_41 : decode cX6_executions 41 = .ok (.ireturn, 1) := by decide +kernel
theorem dX6_executions_42 : decode cX6_executions 42 = .ok (.iconst 0, 1) := by decide +kernel
theorem dX6_executions_43 : decode cX6_executions 43 = .ok (.istore_n 2, 1) := by decide +kernel
theorem dX6_executions_44 : decode cX6_executions 44 = .ok (.iconst 0, 1) := by decide +kernel
theorem dX6_executions_45 : decode cX6_executions 45 = .ok (.istore_n 3, 1) := by decide +kernel
theorem dX6_executions_46 : decode cX6_executions 46 = .ok (.iload_n 3, 1) := by decide +kernel
theorem dX6_executions_47 : decode cX6_executions 47 = .ok (.aload_n 0, 1) := by decide +kernel
theorem dX6_executions_48 : decode cX6_executions 48 = .ok (.getfield 47, 3) := by decide +kernel
theorem dX6_executions_51 : decode cX6_executions 51 = .ok (.invokevirtual 106, 3) := by decide +kernel
theorem dX6_executions_54 : decode cX6_executions 54 = .ok (.if_icmp .ge 40, 3) := by decide +kernel
theorem dX6_executions_57 : decode cX6_executions 57 = .ok (.aload_n 0, 1) := by decide +kernel
theorem dX6_executions_58 : decode cX6_executions 58 = .ok (.getfield 47, 3) := by decide +kernel
theorem dX6_executions_61 : decode cX6_executions 61 = .ok (.iload_n 3, 1) := by decide +kernel
theorem dX6_executions_62 : decode cX6_executions 62 = .ok (.invokevirtual 179, 3) := by decide +kernel
theorem dX6_executions_65 : decode cX6_executions 65 = .ok (.iload_n 1, 1) := by decide +kernel
theorem dX6_executions_66 : decode cX6_executions 66 = .ok (.if_icmp .ne 22, 3) := by decide +kernel
theorem dX6_executions_69 : decode cX6_executions 69 = .ok (.aload_n 0, 1) := by decide +kernel
theorem dX6_executions_70 : decode cX6_executions 70 = .ok (.iload_n 3, 1) := by decide +kernel
theorem dX6_executions_71 : decode cX6_executions 71 = .ok (.invokevirtual 198, 3) := by decide +kernel
theorem dX6_executions_74 : decode cX6_executions 74 = .ok (.ifCond .eq 6, 3) := by decide +kernel
theorem dX6_executions_77 : decode cX6_executions 77 = .ok (.bipush (-105), 2) := by decide +kernel
theorem dX6_executions_79 : decode cX6_executions 79 = .ok (.ireturn, 1) := by decide +kernel
