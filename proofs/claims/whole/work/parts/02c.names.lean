theorem dX3_findTree_0 : decode cX3_findTree 0 = .ok (.aload_n 0, 1) := by decide +kernel
theorem dX3_findTree_1 : decode cX3_findTree 1 = .ok (.iconst 0, 1) := by decide +kernel
theorem dX3_findTree_2 : decode cX3_findTree 2 = .ok (.putfield 28, 3) := by decide +kernel
theorem dX3_findTree_5 : decode cX3_findTree 5 = .ok (.iconst 0, 1) := by decide +kernel
theorem dX3_findTree_6 : decode cX3_findTree 6 = .ok (.istore_n 2, 1) := by decide +kernel
theorem dX3_findTree_7 : decode cX3_findTree 7 = .ok (.iconst 0, 1) := by decide +kernel
theorem dX3_findTree_8 : decode cX3_findTree 8 = .ok (.istore_n 3, 1) := by decide +kernel
theorem dX3_findTree_9 : decode cX3_findTree 9 = .ok (.iload_n 3, 1) := by decide +kernel
theorem dX3_findTree_10 : decode cX3_findTree 10 = .ok (.aload_n 1, 1) := by decide +kernel
theorem dX3_findTree_11 : decode cX3_findTree 11 = .ok (.invokevirtual 36, 3) := by decide +kernel
theorem dX3_findTree_14 : decode cX3_findTree 14 = .ok (.if_icmp .ge 66, 3) := by decide +kernel
theorem dX3_findTree_17 : decode cX3_findTree 17 = .ok (.aload_n 0, 1) := by decide +kernel
theorem dX3_findTree_18 : decode cX3_findTree 18 = .ok (.aload_n 1, 1) := by decide +kernel
theorem dX3_findTree_19 : decode cX3_findTree 19 = .ok (.invokevirtual 36, 3) := by decide +kernel
theorem dX3_findTree_22 : decode cX3_findTree 22 = .ok (.iload_n 2, 1) := by decide +kernel
theorem dX3_findTree_23 : decode cX3_findTree 23 = .ok (.invokevirtual 40, 3) := by decide +kernel
theorem dX3_findTree_26 : decode cX3_findTree 26 = .ok (.istore 4, 2) := by decide +kernel
theorem dX3_findTree_28 : decode cX3_findTree 28 = .ok (.iload_n 2, 1) := by decide +kernel
theorem dX3_findTree_29 : decode cX3_findTree 29 = .ok (.iconst 1, 1) := by decide +kernel
theorem dX3_findTree_30 : decode cX3_findTree 30 = .ok (.iload 4, 2) := by decide +kernel
theorem dX3_findTree_32 : decode cX3_findTree 32 = .ok (.ishl, 1) := by decide +kernel
theorem dX3_findTree_33 : decode cX3_findTree 33 = .ok (.ior, 1) := by decide +kernel
theorem dX3_findTree_34 : decode cX3_findTree 34 = .ok (.istore_n 2, 1) := by decide +kernel
theorem dX3_findTree_35 : decode cX3_findTree 35 = .ok (.aload_n 1, 1) := by decide +kernel
theorem dX3_findTree_36 : decode cX3_findTree 36 = .ok (.aload_n 1, 1) := by decide +kernel
theorem dX3_findTree_37 : decode cX3_findTree 37 = .ok (.iload 4, 2) := by decide +kernel
theorem dX3_findTree_39 : decode cX3_findTree 39 = .ok (.invokevirtual 44, 3) := by decide +kernel
theorem dX3_findTree_42 : decode cX3_findTree 42 = .ok (.aload_n 0, 1) := by decide +kernel
theorem dX3_findTree_43 : decode cX3_findTree 43 = .ok (.getfield 28, 3) := by decide +kernel
theorem dX3_findTree_46 : decode cX3_findTree 46 = .ok (.invokevirtual 47, 3) := by decide +kernel
theorem dX3_findTree_49 : decode cX3_findTree 49 = .ok (.aload_n 1, 1) := by decide +kernel
theorem dX3_findTree_50 : decode cX3_findTree 50 = .ok (.iload 4, 2) := by decide +kernel
theorem dX3_findTree_52 : decode cX3_findTree 52 = .ok (.invokevirtual 50, 3) := by decide +kernel
theorem dX3_findTree_55 : decode cX3_findTree 55 = .ok (.invokestatic 32, 3) := by decide +kernel
theorem dX3_findTree_58 : decode cX3_findTree 58 = .ok (.ifCond .ne 16, 3) := by decide +kernel
theorem dX3_findTree_61 : decode cX3_findTree 61 = .ok (.aload_n 0, 1) := by decide +kernel
theorem dX3_findTree_62 : decode cX3_findTree 62 = .ok (.dup, 1) := by decide +kernel
theorem dX3_findTree_63 : decode cX3_findTree 63 = .ok (.getfield 28, 3) := by decide +kernel
theorem dX3_findTree_66 : decode cX3_findTree 66 = .ok (.iconst 1, 1) := by decide +kernel
theorem dX3_findTree_67 : decode cX3_findTree 67 = .ok (.iload 4, 2) := by decide +kernel
theorem dX3_findTree_69 : decode cX3_findTree 69 = .ok (.ishl, 1) := by decide +kernel
theorem dX3_findTree_70 : decode cX3_findTree 70 = .ok (.ior, 1) := by decide +kernel
theorem dX3_findTree_71 : decode cX3_findTree 71 = .ok (.putfield 28, 3) := by decide +kernel
theorem dX3_findTree_74 : decode cX3_findTree 74 = .ok (.iinc 3 1, 3) := by decide +kernel
theorem dX3_findTree_77 : decode cX3_findTree 77 = .ok (.goto (-68), 3) := by decide +kernel
theorem dX3_findTree_80 : decode cX3_findTree 80 = .ok (.aload_n 0, 1) := by decide +kernel
theorem dX3_findTree_81 : decode cX3_findTree 81 = .ok (.aload_n 1, 1) := by decide +kernel
theorem dX3_findTree_82 : decode cX3_findTree 82 = .ok (.invokevirtual 53, 3) := by decide +kernel
theorem dX3_findTree_85 : decode cX3_findTree 85 = .ok (.return_, 1) := by decide +kernel
set_option maxRecDepth 20000 in
theorem ggX3_heaviestEdge_X6_holds : GoodIn wsX3_heaviestEdge wsX6_holds := goodIn_r _ [3] (by decide +kernel) (by decide +kernel)
set_option maxRecDepth 20000 in
theorem gX3_heaviestEdge_X6_holds_n32 : GoodIn wsX3_heaviestEdge (wsX6_holds) := ggX3_heaviestEdge_X6_holds
set_option maxRecDepth 20000 in
theorem ggX3_heaviestEdge_X3_weight : GoodIn wsX3_heaviestEdge wsX3_weight := goodIn_r _ [8, 9, 10, 11, 12] (by decide +kernel) (by decide +kernel)
set_option maxRecDepth 20000 in
theorem gX3_heaviestEdge_X3_weight : GoodIn wsX3_heaviestEdge (wsV RX3 56 RX3 yX3_weight wsX3_weight) := goodIn_app (goodIn_of _ (by decide +kernel)) ggX3_heaviestEdge_X3_weight
theorem dX3_heaviestEdge_0 : decode cX3_heaviestEdge 0 = .ok (.iconst 0, 1) := by decide +kernel
theorem dX3_heaviestEdge_1 : decode cX3_heaviestEdge 1 = .ok (.istore_n 3, 1) := by decide +kernel
theorem dX3_heaviestEdge_2 : decode cX3_heaviestEdge 2 = .ok (.iconst (-1), 1) := by decide +kernel
theorem dX3_heaviestEdge_3 : decode cX3_heaviestEdge 3 = .ok (.istore 4, 2) := by decide +kernel
theorem dX3_heaviestEdge_5 : decode cX3_heaviestEdge 5 = .ok (.iconst 0, 1) := by decide +kernel
theorem dX3_heaviestEdge_6 : decode cX3_heaviestEdge 6 = .ok (.istore 5, 2) := by decide +kernel
theorem dX3_heaviestEdge_8 : decode cX3_heaviestEdge 8 = .ok (.iload 5, 2) := by decide +kernel
theorem dX3_heaviestEdge_10 : decode cX3_heaviestEdge 10 = .ok (.iload_n 1, 1) := by decide +kernel
theorem dX3_heaviestEdge_11 : decode cX3_heaviestEdge 11 = .ok (.if_icmp .ge 40, 3) := by decide +kernel
theorem dX3_heaviestEdge_14 : decode cX3_heaviestEdge 14 = .ok (.iload_n 2, 1) := by decide +kernel
theorem dX3_heaviestEdge_15 : decode cX3_heaviestEdge 15 = .ok (.iload 5, 2) := by decide +kernel
theorem dX3_heaviestEdge_17 : decode cX3_heaviestEdge 17 = .ok (.invokestatic 32, 3) := by decide +kernel
theorem dX3_heaviestEdge_20 : decode cX3_heaviestEdge 20 = .ok (.ifCond .ne 25, 3) := by decide +kernel
theorem dX3_heaviestEdge_23 : decode cX3_heaviestEdge 23 = .ok (.aload_n 0, 1) := by decide +kernel
theorem dX3_heaviestEdge_24 : decode cX3_heaviestEdge 24 = .ok (.iload 5, 2) := by decide +kernel
theorem dX3_heaviestEdge_26 : decode cX3_heaviestEdge 26 = .ok (.invokevirtual 56, 3) := by decide +kernel
theorem dX3_heaviestEdge_29 : decode cX3_heaviestEdge 29 = .ok (.iload 4, 2) := by decide +kernel
theorem dX3_heaviestEdge_31 : decode cX3_heaviestEdge 31 = .ok (.if_icmp .le 14, 3) := by decide +kernel
theorem dX3_heaviestEdge_34 : decode cX3_heaviestEdge 34 = .ok (.iload 5, 2) := by decide +kernel
theorem dX3_heaviestEdge_36 : decode cX3_heaviestEdge 36 = .ok (.istore_n 3, 1) := by decide +kernel
theorem dX3_heaviestEdge_37 : decode cX3_heaviestEdge 37 = .ok (.aload_n 0, 1) := by decide +kernel
theorem dX3_heaviestEdge_38 : decode cX3_heaviestEdge 38 = .ok (.iload 5, 2) := by decide +kernel
theorem dX3_heaviestEdge_40 : decode cX3_heaviestEdge 40 = .ok (.invokevirtual 56, 3) := by decide +kernel
theorem dX3_heaviestEdge_43 : decode cX3_heaviestEdge 43 = .ok (.istore 4, 2) := by decide +kernel
theorem dX3_heaviestEdge_45 : decode cX3_heaviestEdge 45 = .ok (.iinc 5 1, 3) := by decide +kernel
theorem dX3_heaviestEdge_48 : decode cX3_heaviestEdge 48 = .ok (.goto (-40), 3) := by decide +kernel
theorem dX3_heaviestEdge_51 : decode cX3_heaviestEdge 51 = .ok (.iload_n 3, 1) := by decide +kernel
theorem dX3_heaviestEdge_52 : decode cX3_heaviestEdge 52 = .ok (.ireturn, 1) := by decide +kernel
set_option maxRecDepth 20000 in
theorem ggX3_findSides_X3_isInTree : GoodIn wsX3_findSides wsX3_isInTree := goodIn_r _ [7, 2, 8, 9, 10, 41, 42, 43] (by decide +kernel) (by decide +kernel)
set_option maxRecDepth 20000 in
theorem gX3_findSides_X3_isInTree : GoodIn wsX3_findSides (wsV RX3 58 RX3 yX3_isInTree wsX3_isInTree) := goodIn_app (goodIn_of _ (by decide +kernel)) ggX3_findSides_X3_isInTree
set_option maxRecDepth 20000 in
theorem ggX3_findSides_X0_source : GoodIn wsX3_findSides wsX0_source := goodIn_r _ [15, 16, 17, 18, 19, 14, 20, 21, 44, 45, 46, 47, 48, 49, 50] (by decide +kernel) (by decide +kernel)
set_option maxRecDepth 20000 in
theorem gX3_findSides_X0_source : GoodIn wsX3_findSides (wsV RX3 44 RX0 yX0_source wsX0_source) := goodIn_app (goodIn_of _ (by decide +kernel)) ggX3_findSides_X0_source
set_option maxRecDepth 20000 in
theorem ggX3_findSides_X0_reach : GoodIn wsX3_findSides wsX0_reach := goodIn_r _ [25, 26, 21, 27, 28, 29, 14, 30, 31, 32, 33, 34, 8, 9, 10, 35, 12, 13, 15, 16, 17, 18, 19, 20, 36, 37, 38, 39, 40, 44, 45, 46, 47, 48, 49, 50] (by decide +kernel) (by decide +kernel)
set_option maxRecDepth 20000 in
theorem gX3_findSides_X0_reach : GoodIn wsX3_findSides (wsV RX3 47 RX0 yX0_reach wsX0_reach) := goodIn_app (goodIn_of _ (by decide +kernel)) ggX3_findSides_X0_reach
theorem dX3_findSides_0 : decode cX3_findSides 0 = .ok (.iconst 0, 1) := by decide +kernel
theorem dX3_findSides_1 : decode cX3_findSides 1 = .ok (.istore_n 2, 1) := by decide +kernel
theorem dX3_findSides_2 : decode cX3_findSides 2 = .ok (.iload_n 2, 1) := by decide +kernel
theorem dX3_findSides_3 : decode cX3_findSides 3 = .ok (.bipush 20, 2) := by decide +kernel
theorem dX3_findSides_5 : decode cX3_findSides 5 = .ok (.if_icmp .ge 49, 3) := by decide +kernel
theorem dX3_findSides_8 : decode cX3_findSides 8 = .ok (.aload_n 0, 1) := by decide +kernel
theorem dX3_findSides_9 : decode cX3_findSides 9 = .ok (.getfield 15, 3) := by decide +kernel
theorem dX3_findSides_12 : decode cX3_findSides 12 = .ok (.iload_n 2, 1) := by decide +kernel
theorem dX3_findSides_13 : decode cX3_findSides 13 = .ok (.iconst 0, 1) := by decide +kernel
theorem dX3_findSides_14 : decode cX3_findSides 14 = .ok (.iastore, 1) := by decide +kernel
theorem dX3_findSides_15 : decode cX3_findSides 15 = .ok (.aload_n 0, 1) := by decide +kernel
theorem dX3_findSides_16 : decode cX3_findSides 16 = .ok (.iload_n 2, 1) := by decide +kernel
theorem dX3_findSides_17 : decode cX3_findSides 17 = .ok (.invokevirtual 58, 3) := by decide +kernel
theorem dX3_findSides_20 : decode cX3_findSides 20 = .ok (.ifCond .eq 28, 3) := by decide +kernel
theorem dX3_findSides_23 : decode cX3_findSides 23 = .ok (.aload_n 0, 1) := by decide +kernel
theorem dX3_findSides_24 : decode cX3_findSides 24 = .ok (.getfield 15, 3) := by decide +kernel
theorem dX3_findSides_27 : decode cX3_findSides 27 = .ok (.iload_n 2, 1) := by decide +kernel
theorem dX3_findSides_28 : decode cX3_findSides 28 = .ok (.aload_n 1, 1) := by decide +kernel
theorem dX3_findSides_29 : decode cX3_findSides 29 = .ok (.aload_n 1, 1) := by decide +kernel
theorem dX3_findSides_30 : decode cX3_findSides 30 = .ok (.iload_n 2, 1) := by decide +kernel
theorem dX3_findSides_31 : decode cX3_findSides 31 = .ok (.invokevirtual 44, 3) := by decide +kernel
theorem dX3_findSides_34 : decode cX3_findSides 34 = .ok (.aload_n 0, 1) := by decide +kernel
theorem dX3_findSides_35 : decode cX3_findSides 35 = .ok (.getfield 28, 3) := by decide +kernel
theorem dX3_findSides_38 : decode cX3_findSides 38 = .ok (.iconst 1, 1) := by decide +kernel
theorem dX3_findSides_39 : decode cX3_findSides 39 = .ok (.iload_n 2, 1) := by decide +kernel
theorem dX3_findSides_40 : decode cX3_findSides 40 = .ok (.ishl, 1) := by decide +kernel
theorem dX3_findSides_41 : decode cX3_findSides 41 = .ok (.iconst (-1), 1) := by decide +kernel
theorem dX3_findSides_42 : decode cX3_findSides 42 = .ok (.ixor, 1) := by decide +kernel
theorem dX3_findSides_43 : decode cX3_findSides 43 = .ok (.iand, 1) := by decide +kernel
theorem dX3_findSides_44 : decode cX3_findSides 44 = .ok (.invokevirtual 47, 3) := by decide +kernel
theorem dX3_findSides_47 : decode cX3_findSides 47 = .ok (.iastore, 1) := by decide +kernel
theorem dX3_findSides_48 : decode cX3_findSides 48 = .ok (.iinc 2 1, 3) := by decide +kernel
theorem dX3_findSides_51 : decode cX3_findSides 51 = .ok (.goto (-49), 3) := by decide +kernel
theorem dX3_findSides_54 : decode cX3_findSides 54 = .ok (.return_, 1) := by decide +kernel
set_option maxRecDepth 20000 in
theorem ggX3_factor_X6_holds : GoodIn wsX3_factor wsX6_holds := goodIn_r _ [4] (by decide +kernel) (by decide +kernel)
set_option maxRecDepth 20000 in
theorem gX3_factor_X6_holds_n32 : GoodIn wsX3_factor (wsX6_holds) := ggX3_factor_X6_holds
theorem dX3_factor_0 : decode cX3_factor 0 = .ok (.iload_n 1, 1) := by decide +kernel
theorem dX3_factor_1 : decode cX3_factor 1 = .ok (.ifCond .lt 9, 3) := by decide +kernel
theorem dX3_factor_4 : decode cX3_factor 4 = .ok (.iload_n 1, 1) := by decide +kernel
theorem dX3_factor_5 : decode cX3_factor 5 = .ok (.bipush 20, 2) := by decide +kernel
theorem dX3_factor_7 : decode cX3_factor 7 = .ok (.if_icmp .lt 5, 3) := by decide +kernel
theorem dX3_factor_10 : decode cX3_factor 10 = .ok (.iconst 0, 1) := by decide +kernel
theorem dX3_factor_11 : decode cX3_factor 11 = .ok (.ireturn, 1) := by decide +kernel
theorem dX3_factor_12 : decode cX3_factor 12 = .ok (.aload_n 0, 1) := by decide +kernel
theorem dX3_factor_13 : decode cX3_factor 13 = .ok (.getfield 15, 3) := by decide +kernel
theorem dX3_factor_16 : decode cX3_factor 16 = .ok (.iload_n 1, 1) := by decide +kernel
theorem dX3_factor_17 : decode cX3_factor 17 = .ok (.iaload, 1) := by decide +kernel
theorem dX3_factor_18 : decode cX3_factor 18 = .ok (.iload_n 2, 1) := by decide +kernel
theorem dX3_factor_19 : decode cX3_factor 19 = .ok (.invokestatic 32, 3) := by decide +kernel
theorem dX3_factor_22 : decode cX3_factor 22 = .ok (.istore 4, 2) := by decide +kernel
theorem dX3_factor_24 : decode cX3_factor 24 = .ok (.aload_n 0, 1) := by decide +kernel
theorem dX3_factor_25 : decode cX3_factor 25 = .ok (.getfield 15, 3) := by decide +kernel
theorem dX3_factor_28 : decode cX3_factor 28 = .ok (.iload_n 1, 1) := by decide +kernel
theorem dX3_factor_29 : decode cX3_factor 29 = .ok (.iaload, 1) := by decide +kernel
theorem dX3_factor_30 : decode cX3_factor 30 = .ok (.iload_n 3, 1) := by decide +kernel
theorem dX3_factor_31 : decode cX3_factor 31 = .ok (.invokestatic 32, 3) := by decide +kernel
theorem dX3_factor_34 : decode cX3_factor 34 = .ok (.istore 5, 2) := by decide +kernel
theorem dX3_factor_36 : decode cX3_factor 36 = .ok (.iload 4, 2) := by decide +kernel
theorem dX3_factor_38 : decode cX3_factor 38 = .ok (.iload 5, 2) := by decide +kernel
theorem dX3_factor_40 : decode cX3_factor 40 = .ok (.if_icmp .ne 5, 3) := by decide +kernel
theorem dX3_factor_43 : decode cX3_factor 43 = .ok (.iconst 0, 1) := by decide +kernel
theorem dX3_factor_44 : decode cX3_factor 44 = .ok (.ireturn, 1) := by decide +kernel
theorem dX3_factor_45 : decode cX3_factor 45 = .ok (.iload 4, 2) := by decide +kernel
theorem dX3_factor_47 : decode cX3_factor 47 = .ok (.ifCond .eq 7, 3) := by decide +kernel
theorem dX3_factor_50 : decode cX3_factor 50 = .ok (.iconst (-1), 1) := by decide +kernel
theorem dX3_factor_51 : decode cX3_factor 51 = .ok (.goto 4, 3) := by decide +kernel
theorem dX3_factor_54 : decode cX3_factor 54 = .ok (.iconst 1, 1) := by decide +kernel
theorem dX3_factor_55 : decode cX3_factor 55 = .ok (.ireturn, 1) := by decide +kernel
theorem dX4_init_0 : decode cX4_init 0 = .ok (.aload_n 0, 1) := by decide +kernel
theorem dX4_init_1 : decode cX4_init 1 = .ok (.invokespecial 3, 3) := by decide +kernel
theorem dX4_init_4 : decode cX4_init 4 = .ok (.aload_n 0, 1) := by decide +kernel
theorem dX4_init_5 : decode cX4_init 5 = .ok (.bipush 20, 2) := by decide +kernel
theorem dX4_init_7 : decode cX4_init 7 = .ok (.newarray .int, 2) := by decide +kernel
theorem dX4_init_9 : decode cX4_init 9 = .ok (.putfield 9, 3) := by decide +kernel
theorem dX4_init_12 : decode cX4_init 12 = .ok (.aload_n 0, 1) := by decide +kernel
theorem dX4_init_13 : decode cX4_init 13 = .ok (.bipush 20, 2) := by decide +kernel
theorem dX4_init_15 : decode cX4_init 15 = .ok (.newarray .int, 2) := by decide +kernel
theorem dX4_init_17 : decode cX4_init 17 = .ok (.putfield 15, 3) := by decide +kernel
theorem dX4_init_20 : decode cX4_init 20 = .ok (.return_, 1) := by decide +kernel
set_option maxRecDepth 20000 in
theorem ggX4_begin_X4_restart : GoodIn wsX4_begin wsX4_restart := goodIn_r _ [7, 8, 9, 10, 11, 12, 13, 14, 15, 16] (by decide +kernel) (by decide +kernel)
set_option maxRecDepth 20000 in
theorem gX4_begin_X4_restart : GoodIn wsX4_begin (wsV RX4 23 RX4 yX4_restart wsX4_restart) := goodIn_app (goodIn_of _ (by decide +kernel)) ggX4_begin_X4_restart
theorem dX4_begin_0 : decode cX4_begin 0 = .ok (.aload_n 0, 1) := by decide +kernel
theorem dX4_begin_1 : decode cX4_begin 1 = .ok (.ldc 18, 2) := by decide +kernel
theorem dX4_begin_3 : decode cX4_begin 3 = .ok (.putfield 19, 3) := by decide +kernel
theorem dX4_begin_6 : decode cX4_begin 6 = .ok (.aload_n 0, 1) := by decide +kernel
theorem dX4_begin_7 : decode cX4_begin 7 = .ok (.invokevirtual 23, 3) := by decide +kernel
theorem dX4_begin_10 : decode cX4_begin 10 = .ok (.return_, 1) := by decide +kernel
theorem dX4_restart_0 : decode cX4_restart 0 = .ok (.iconst 0, 1) := by decide +kernel
theorem dX4_restart_1 : decode cX4_restart 1 = .ok (.istore_n 1, 1) := by decide +kernel
theorem dX4_restart_2 : decode cX4_restart 2 = .ok (.iload_n 1, 1) := by decide +kernel
theorem dX4_restart_3 : decode cX4_restart 3 = .ok (.bipush 20, 2) := by decide +kernel
theorem dX4_restart_5 : decode cX4_restart 5 = .ok (.if_icmp .ge 23, 3) := by decide +kernel
theorem dX4_restart_8 : decode cX4_restart 8 = .ok (.aload_n 0, 1) := by decide +kernel
theorem dX4_restart_9 : decode cX4_restart 9 = .ok (.getfield 9, 3) := by decide +kernel
theorem dX4_restart_12 : decode cX4_restart 12 = .ok (.iload_n 1, 1) := by decide +kernel
theorem dX4_restart_13 : decode cX4_restart 13 = .ok (.iconst 0, 1) := by decide +kernel
theorem dX4_restart_14 : decode cX4_restart 14 = .ok (.iastore, 1) := by decide +kernel
theorem dX4_restart_15 : decode cX4_restart 15 = .ok (.aload_n 0, 1) := by decide +kernel
theorem dX4_restart_16 : decode cX4_restart 16 = .ok (.getfield 15, 3) := by decide +kernel
theorem dX4_restart_19 : decode cX4_restart 19 = .ok (.iload_n 1, 1) := by decide +kernel
theorem dX4_restart_20 : decode cX4_restart 20 = .ok (.iconst 0, 1) := by decide +kernel
theorem dX4_restart_21 : decode cX4_restart 21 = .ok (.iastore, 1) := by decide +kernel
theorem dX4_restart_22 : decode cX4_restart 22 = .ok (.iinc 1 1, 3) := by decide +kernel
theorem dX4_restart_25 : decode cX4_restart 25 = .ok (.goto (-23), 3) := by decide +kernel
theorem dX4_restart_28 : decode cX4_restart 28 = .ok (.aload_n 0, 1) := by decide +kernel
theorem dX4_restart_29 : decode cX4_restart 29 = .ok (.iconst 0, 1) := by decide +kernel
theorem dX4_restart_30 : decode cX4_restart 30 = .ok (.putfield 26, 3) := by decide +kernel
theorem dX4_restart_33 : decode cX4_restart 33 = .ok (.aload_n 0, 1) := by decide +kernel
theorem dX4_restart_34 : decode cX4_restart 34 = .ok (.iconst 0, 1) := by decide +kernel
theorem dX4_restart_35 : decode cX4_restart 35 = .ok (.putfield 29, 3) := by decide +kernel
theorem dX4_restart_38 : decode cX4_restart 38 = .ok (.return_, 1) := by decide +kernel
theorem dX4_copyFrom_0 : decode cX4_copyFrom 0 = .ok (.iconst 0, 1) := by decide +kernel
theorem dX4_copyFrom_1 : decode cX4_copyFrom 1 = .ok (.istore_n 2, 1) := by decide +kernel
theorem dX4_copyFrom_2 : decode cX4_copyFrom 2 = .ok (.iload_n 2, 1) := by decide +kernel
theorem dX4_copyFrom_3 : decode cX4_copyFrom 3 = .ok (.bipush 20, 2) := by decide +kernel
theorem dX4_copyFrom_5 : decode cX4_copyFrom 5 = .ok (.if_icmp .ge 33, 3) := by decide +kernel
theorem dX4_copyFrom_8 : decode cX4_copyFrom 8 = .ok (.aload_n 0, 1) := by decide +kernel
theorem dX4_copyFrom_9 : decode cX4_copyFrom 9 = .ok (.getfield 9, 3) := by decide +kernel
theorem dX4_copyFrom_12 : decode cX4_copyFrom 12 = .ok (.iload_n 2, 1) := by decide +kernel
theorem dX4_copyFrom_13 : decode cX4_copyFrom 13 = .ok (.aload_n 1, 1) := by decide +kernel
theorem dX4_copyFrom_14 : decode cX4_copyFrom 14 = .ok (.getfield 9, 3) := by decide +kernel
theorem dX4_copyFrom_17 : decode cX4_copyFrom 17 = .ok (.iload_n 2, 1) := by decide +kernel
theorem dX4_copyFrom_18 : decode cX4_copyFrom 18 = .ok (.iaload, 1) := by decide +kernel
theorem dX4_copyFrom_19 : decode cX4_copyFrom 19 = .ok (.iastore, 1) := by decide +kernel
theorem dX4_copyFrom_20 : decode cX4_copyFrom 20 = .ok (.aload_n 0, 1) := by decide +kernel
theorem dX4_copyFrom_21 : decode cX4_copyFrom 21 = .ok (.getfield 15, 3) := by decide +kernel
theorem dX4_copyFrom_24 : decode cX4_copyFrom 24 = .ok (.iload_n 2, 1) := by decide +kernel
theorem dX4_copyFrom_25 : decode cX4_copyFrom 25 = .ok (.aload_n 1, 1) := by decide +kernel
theorem dX4_copyFrom_26 : decode cX4_copyFrom 26 = .ok (.getfield 15, 3) := by decide +kernel
theorem dX4_copyFrom_29 : decode cX4_copyFrom 29 = .ok (.iload_n 2, 1) := by decide +kernel
theorem dX4_copyFrom_30 : decode cX4_copyFrom 30 = .ok (.iaload, 1) := by decide +kernel
theorem dX4_copyFrom_31 : decode cX4_copyFrom 31 = .ok (.iastore, 1) := by decide +kernel
theorem dX4_copyFrom_32 : decode cX4_copyFrom 32 = .ok (.iinc 2 1, 3) := by decide +kernel
theorem dX4_copyFrom_35 : decode cX4_copyFrom 35 = .ok (.goto (-33), 3) := by decide +kernel
theorem dX4_copyFrom_38 : decode cX4_copyFrom 38 = .ok (.aload_n 0, 1) := by decide +kernel
theorem dX4_copyFrom_39 : decode cX4_copyFrom 39 = .ok (.aload_n 1, 1) := by decide +kernel
theorem dX4_copyFrom_40 : decode cX4_copyFrom 40 = .ok (.getfield 19, 3) := by decide +kernel
theorem dX4_copyFrom_43 : decode cX4_copyFrom 43 = .ok (.putfield 19, 3) := by decide +kernel
theorem dX4_copyFrom_46 : decode cX4_copyFrom 46 = .ok (.aload_n 0, 1) := by decide +kernel
theorem dX4_copyFrom_47 : decode cX4_copyFrom 47 = .ok (.aload_n 1, 1) := by decide +kernel
theorem dX4_copyFrom_48 : decode cX4_copyFrom 48 = .ok (.getfield 26, 3) := by decide +kernel
theorem dX4_copyFrom_51 : decode cX4_copyFrom 51 = .ok (.putfield 26, 3) := by decide +kernel
theorem dX4_copyFrom_54 : decode cX4_copyFrom 54 = .ok (.aload_n 0, 1) := by decide +kernel
theorem dX4_copyFrom_55 : decode cX4_copyFrom 55 = .ok (.aload_n 1, 1) := by decide +kernel
theorem dX4_copyFrom_56 : decode cX4_copyFrom 56 = .ok (.getfield 29, 3) := by decide +kernel
theorem dX4_copyFrom_59 : decode cX4_copyFrom 59 = .ok (.putfield 29, 3) := by decide +kernel
theorem dX4_copyFrom_62 : decode cX4_copyFrom 62 = .ok (.return_, 1) := by decide +kernel
theorem dX4_limit_0 : decode cX4_limit 0 = .ok (.aload_n 0, 1) := by decide +kernel
theorem dX4_limit_1 : decode cX4_limit 1 = .ok (.getfield 19, 3) := by decide +kernel
theorem dX4_limit_4 : decode cX4_limit 4 = .ok (.ireturn, 1) := by decide +kernel
theorem dX4_putLimit_0 : decode cX4_putLimit 0 = .ok (.aload_n 0, 1) := by decide +kernel
theorem dX4_putLimit_1 : decode cX4_putLimit 1 = .ok (.iload_n 1, 1) := by decide +kernel
theorem dX4_putLimit_2 : decode cX4_putLimit 2 = .ok (.putfield 19, 3) := by decide +kernel
theorem dX4_putLimit_5 : decode cX4_putLimit 5 = .ok (.return_, 1) := by decide +kernel
theorem dX4_present_0 : decode cX4_present 0 = .ok (.aload_n 0, 1) := by decide +kernel
theorem dX4_present_1 : decode cX4_present 1 = .ok (.getfield 26, 3) := by decide +kernel
theorem dX4_present_4 : decode cX4_present 4 = .ok (.ireturn, 1) := by decide +kernel
theorem dX4_finished_0 : decode cX4_finished 0 = .ok (.aload_n 0, 1) := by decide +kernel
theorem dX4_finished_1 : decode cX4_finished 1 = .ok (.getfield 29, 3) := by decide +kernel
theorem dX4_finished_4 : decode cX4_finished 4 = .ok (.ireturn, 1) := by decide +kernel
theorem dX4_counterValue_0 : decode cX4_counterValue 0 = .ok (.iload_n 1, 1) := by decide +kernel
theorem dX4_counterValue_1 : decode cX4_counterValue 1 = .ok (.ifCond .lt 18, 3) := by decide +kernel
theorem dX4_counterValue_4 : decode cX4_counterValue 4 = .ok (.iload_n 1, 1) := by decide +kernel
theorem dX4_counterValue_5 : decode cX4_counterValue 5 = .ok (.bipush 20, 2) := by decide +kernel
theorem dX4_counterValue_7 : decode cX4_counterValue 7 = .ok (.if_icmp .ge 12, 3) := by decide +kernel
theorem dX4_counterValue_10 : decode cX4_counterValue 10 = .ok (.aload_n 0, 1) := by decide +kernel
theorem dX4_counterValue_11 : decode cX4_counterValue 11 = .ok (.getfield 9, 3) := by decide +kernel
theorem dX4_counterValue_14 : decode cX4_counterValue 14 = .ok (.iload_n 1, 1) := by decide +kernel
theorem dX4_counterValue_15 : decode cX4_counterValue 15 = .ok (.iaload, 1) := by decide +kernel
theorem dX4_counterValue_16 : decode cX4_counterValue 16 = .ok (.goto 4, 3) := by decide +kernel
theorem dX4_counterValue_19 : decode cX4_counterValue 19 = .ok (.iconst 0, 1) := by decide +kernel
theorem dX4_counterValue_20 : decode cX4_counterValue 20 = .ok (.ireturn, 1) := by decide +kernel
theorem dX4_passes_0 : decode cX4_passes 0 = .ok (.iload_n 1, 1) := by decide +kernel
theorem dX4_passes_1 : decode cX4_passes 1 = .ok (.ifCond .lt 18, 3) := by decide +kernel
theorem dX4_passes_4 : decode cX4_passes 4 = .ok (.iload_n 1, 1) := by decide +kernel
theorem dX4_passes_5 : decode cX4_passes 5 = .ok (.bipush 20, 2) := by decide +kernel
theorem dX4_passes_7 : decode cX4_passes 7 = .ok (.if_icmp .ge 12, 3) := by decide +kernel
theorem dX4_passes_10 : decode cX4_passes 10 = .ok (.aload_n 0, 1) := by decide +kernel
theorem dX4_passes_11 : decode cX4_passes 11 = .ok (.getfield 15, 3) := by decide +kernel
theorem dX4_passes_14 : decode cX4_passes 14 = .ok (.iload_n 1, 1) := by decide +kernel
theorem dX4_passes_15 : decode cX4_passes 15 = .ok (.iaload, 1) := by decide +kernel
theorem dX4_passes_16 : decode cX4_passes 16 = .ok (.goto 4, 3) := by decide +kernel
theorem dX4_passes_19 : decode cX4_passes 19 = .ok (.iconst 0, 1) := by decide +kernel
theorem dX4_passes_20 : decode cX4_passes 20 = .ok (.ireturn, 1) := by decide +kernel
set_option maxRecDepth 20000 in
theorem ggX4_isAtLimit_X4_counterValue : GoodIn wsX4_isAtLimit wsX4_counterValue := goodIn_r _ [6, 7, 8, 9, 10, 11, 12] (by decide +kernel) (by decide +kernel)
set_option maxRecDepth 20000 in
theorem gX4_isAtLimit_X4_counterValue : GoodIn wsX4_isAtLimit (wsV RX4 32 RX4 yX4_counterValue wsX4_counterValue) := goodIn_app (goodIn_of _ (by decide +kernel)) ggX4_isAtLimit_X4_counterValue
theorem dX4_isAtLimit_0 : decode cX4_isAtLimit 0 = .ok (.aload_n 0, 1) := by decide +kernel
theorem dX4_isAtLimit_1 : decode cX4_isAtLimit 1 = .ok (.iload_n 1, 1) := by decide +kernel
theorem dX4_isAtLimit_2 : decode cX4_isAtLimit 2 = .ok (.invokevirtual 32, 3) := by decide +kernel
theorem dX4_isAtLimit_5 : decode cX4_isAtLimit 5 = .ok (.aload_n 0, 1) := by decide +kernel
theorem dX4_isAtLimit_6 : decode cX4_isAtLimit 6 = .ok (.getfield 19, 3) := by decide +kernel
theorem dX4_isAtLimit_9 : decode cX4_isAtLimit 9 = .ok (.if_icmp .ne 7, 3) := by decide +kernel
theorem dX4_isAtLimit_12 : decode cX4_isAtLimit 12 = .ok (.iconst 1, 1) := by decide +kernel
theorem dX4_isAtLimit_13 : decode cX4_isAtLimit 13 = .ok (.goto 4, 3) := by decide +kernel
theorem dX4_isAtLimit_16 : decode cX4_isAtLimit 16 = .ok (.iconst 0, 1) := by decide +kernel
theorem dX4_isAtLimit_17 : decode cX4_isAtLimit 17 = .ok (.ireturn, 1) := by decide +kernel
set_option maxRecDepth 20000 in
theorem ggX4_pass_X0_hasEdge : GoodIn wsX4_pass wsX0_hasEdge := goodIn_r _ [9, 10, 46, 47, 48, 49, 50, 51, 52] (by decide +kernel) (by decide +kernel)
set_option maxRecDepth 20000 in
theorem gX4_pass_X0_hasEdge : GoodIn wsX4_pass (wsV RX4 35 RX0 yX0_hasEdge wsX0_hasEdge) := goodIn_app (goodIn_of _ (by decide +kernel)) ggX4_pass_X0_hasEdge
set_option maxRecDepth 20000 in
theorem ggX4_pass_X3_isInTree : GoodIn wsX4_pass wsX3_isInTree := goodIn_r _ [15, 16, 17, 18, 19, 53, 54, 55] (by decide +kernel) (by decide +kernel)
set_option maxRecDepth 20000 in
theorem gX4_pass_X3_isInTree : GoodIn wsX4_pass (wsV RX4 41 RX3 yX3_isInTree wsX3_isInTree) := goodIn_app (goodIn_of _ (by decide +kernel)) ggX4_pass_X3_isInTree
set_option maxRecDepth 20000 in
theorem ggX4_pass_X4_isAtLimit : GoodIn wsX4_pass wsX4_isAtLimit := goodIn_r _ [24, 25, 26, 27, 28, 23, 29, 2, 41, 42, 43, 44, 45] (by decide +kernel) (by decide +kernel)
set_option maxRecDepth 20000 in
theorem gX4_pass_X4_isAtLimit : GoodIn wsX4_pass (wsV RX4 46 RX4 yX4_isAtLimit wsX4_isAtLimit) := goodIn_app (goodIn_of _ (by decide +kernel)) ggX4_pass_X4_isAtLimit
set_option maxRecDepth 20000 in
theorem ggX4_pass_X0_target : GoodIn wsX4_pass wsX0_target := goodIn_r _ [33, 34, 35, 6, 7, 8, 9, 10, 46, 47, 48, 49, 50, 51, 52] (by decide +kernel) (by decide +kernel)
set_option maxRecDepth 20000 in
theorem gX4_pass_X0_target : GoodIn wsX4_pass (wsV RX4 49 RX0 yX0_target wsX0_target) := goodIn_app (goodIn_of _ (by decide +kernel)) ggX4_pass_X0_target
set_option maxRecDepth 20000 in
theorem ggX4_pass_X0_exit : GoodIn wsX4_pass wsX0_exit := goodIn_r _ [39, 40, 46, 47, 48, 49, 50, 51, 52] (by decide +kernel) (by decide +kernel)
set_option maxRecDepth 20000 in
theorem gX4_pass_X0_exit : GoodIn wsX4_pass (wsV RX4 52 RX0 yX0_exit wsX0_exit) := goodIn_app (goodIn_of _ (by decide +kernel)) ggX4_pass_X0_exit
theorem dX4_pass_0 : decode cX4_pass 0 = .ok (.aload_n 2, 1) := by decide +kernel
theorem dX4_pass_1 : decode cX4_pass 1 = .ok (.iload_n 1, 1) := by decide +kernel
theorem dX4_pass_2 : decode cX4_pass 2 = .ok (.invokevirtual 35, 3) := by decide +kernel
theorem dX4_pass_5 : decode cX4_pass 5 = .ok (.ifCond .ne 4, 3) := by decide +kernel
theorem dX4_pass_8 : decode cX4_pass 8 = .ok (.return_, 1) := by decide +kernel
theorem dX4_pass_9 : decode cX4_pass 9 = .ok (.aload_n 0, 1) := by decide +kernel
theorem dX4_pass_10 : decode cX4_pass 10 = .ok (.getfield 15, 3) := by decide +kernel
theorem dX4_pass_13 : decode cX4_pass 13 = .ok (.iload_n 1, 1) := by decide +kernel
theorem dX4_pass_14 : decode cX4_pass 14 = .ok (.dup2, 1) := by decide +kernel
theorem dX4_pass_15 : decode cX4_pass 15 = .ok (.iaload, 1) := by decide +kernel
theorem dX4_pass_16 : decode cX4_pass 16 = .ok (.iconst 1, 1) := by decide +kernel
theorem dX4_pass_17 : decode cX4_pass 17 = .ok (.iadd, 1) := by decide +kernel
theorem dX4_pass_18 : decode cX4_pass 18 = .ok (.iastore, 1) := by decide +kernel
theorem dX4_pass_19 : decode cX4_pass 19 = .ok (.aload_n 3, 1) := by decide +kernel
theorem dX4_pass_20 : decode cX4_pass 20 = .ok (.iload_n 1, 1) := by decide +kernel
theorem dX4_pass_21 : decode cX4_pass 21 = .ok (.invokevirtual 41, 3) := by decide +kernel
theorem dX4_pass_24 : decode cX4_pass 24 = .ok (.ifCond .ne 21, 3) := by decide +kernel
theorem dX4_pass_27 : decode cX4_pass 27 = .ok (.aload_n 0, 1) := by decide +kernel
theorem dX4_pass_28 : decode cX4_pass 28 = .ok (.iload_n 1, 1) := by decide +kernel
theorem dX4_pass_29 : decode cX4_pass 29 = .ok (.invokevirtual 46, 3) := by decide +kernel
theorem dX4_pass_32 : decode cX4_pass 32 = .ok (.ifCond .ne 13, 3) := by decide +kernel
theorem dX4_pass_35 : decode cX4_pass 35 = .ok (.aload_n 0, 1) := by decide +kernel
theorem dX4_pass_36 : decode cX4_pass 36 = .ok (.getfield 9, 3) := by decide +kernel
theorem dX4_pass_39 : decode cX4_pass 39 = .ok (.iload_n 1, 1) := by decide +kernel
theorem dX4_pass_40 : decode cX4_pass 40 = .ok (.dup2, 1) := by decide +kernel
theorem dX4_pass_41 : decode cX4_pass 41 = .ok (.iaload, 1) := by decide +kernel
theorem dX4_pass_42 : decode cX4_pass 42 = .ok (.iconst 1, 1) := by decide +kernel
theorem dX4_pass_43 : decode cX4_pass 43 = .ok (.iadd, 1) := by decide +kernel
theorem dX4_pass_44 : decode cX4_pass 44 = .ok (.iastore, 1) := by decide +kernel
theorem dX4_pass_45 : decode cX4_pass 45 = .ok (.aload_n 2, 1) := by decide +kernel
theorem dX4_pass_46 : decode cX4_pass 46 = .ok (.iload_n 1, 1) := by decide +kernel
theorem dX4_pass_47 : decode cX4_pass 47 = .ok (.invokevirtual 49, 3) := by decide +kernel
theorem dX4_pass_50 : decode cX4_pass 50 = .ok (.aload_n 2, 1) := by decide +kernel
theorem dX4_pass_51 : decode cX4_pass 51 = .ok (.invokevirtual 52, 3) := by decide +kernel
theorem dX4_pass_54 : decode cX4_pass 54 = .ok (.if_icmp .ne 21, 3) := by decide +kernel
theorem dX4_pass_57 : decode cX4_pass 57 = .ok (.aload_n 0, 1) := by decide +kernel
theorem dX4_pass_58 : decode cX4_pass 58 = .ok (.dup, 1) := by decide +kernel
theorem dX4_pass_59 : decode cX4_pass 59 = .ok (.getfield 29, 3) := by decide +kernel
theorem dX4_pass_62 : decode cX4_pass 62 = .ok (.iconst 1, 1) := by decide +kernel
theorem dX4_pass_63 : decode cX4_pass 63 = .ok (.iadd, 1) := by decide +kernel
theorem dX4_pass_64 : decode cX4_pass 64 = .ok (.putfield 29, 3) := by decide +kernel
theorem dX4_pass_67 : decode cX4_pass 67 = .ok (.aload_n 0, 1) := by decide +kernel
theorem dX4_pass_68 : decode cX4_pass 68 = .ok (.iconst 0, 1) := by decide +kernel
theorem dX4_pass_69 : decode cX4_pass 69 = .ok (.putfield 26, 3) := by decide +kernel
theorem dX4_pass_72 : decode cX4_pass 72 = .ok (.goto 12, 3) := by decide +kernel
theorem dX4_pass_75 : decode cX4_pass 75 = .ok (.aload_n 0, 1) := by decide +kernel
theorem dX4_pass_76 : decode cX4_pass 76 = .ok (.aload_n 2, 1) := by decide +kernel
theorem dX4_pass_77 : decode cX4_pass 77 = .ok (.iload_n 1, 1) := by decide +kernel
theorem dX4_pass_78 : decode cX4_pass 78 = .ok (.invokevirtual 49, 3) := by decide +kernel
theorem dX4_pass_81 : decode cX4_pass 81 = .ok (.putfield 26, 3) := by decide +kernel
theorem dX4_pass_84 : decode cX4_pass 84 = .ok (.return_, 1) := by decide +kernel
theorem dX5_init_0 : decode cX5_init 0 = .ok (.aload_n 0, 1) := by decide +kernel
theorem dX5_init_1 : decode cX5_init 1 = .ok (.invokespecial 3, 3) := by decide +kernel
theorem dX5_init_4 : decode cX5_init 4 = .ok (.aload_n 0, 1) := by decide +kernel
theorem dX5_init_5 : decode cX5_init 5 = .ok (.iconst 3, 1) := by decide +kernel
theorem dX5_init_6 : decode cX5_init 6 = .ok (.newarray .int, 2) := by decide +kernel
theorem dX5_init_8 : decode cX5_init 8 = .ok (.putfield 11, 3) := by decide +kernel
theorem dX5_init_11 : decode cX5_init 11 = .ok (.return_, 1) := by decide +kernel
theorem dX5_errorPlace_0 : decode cX5_errorPlace 0 = .ok (.aload_n 0, 1) := by decide +kernel
theorem dX5_errorPlace_1 : decode cX5_errorPlace 1 = .ok (.getfield 15, 3) := by decide +kernel
theorem dX5_errorPlace_4 : decode cX5_errorPlace 4 = .ok (.ireturn, 1) := by decide +kernel
theorem dX5_reason_0 : decode cX5_reason 0 = .ok (.aload_n 0, 1) := by decide +kernel
theorem dX5_reason_1 : decode cX5_reason 1 = .ok (.getfield 19, 3) := by decide +kernel
theorem dX5_reason_4 : decode cX5_reason 4 = .ok (.ireturn, 1) := by decide +kernel
set_option maxRecDepth 20000 in
theorem ggX5_read_X0_begin : GoodIn wsX5_read wsX0_begin := goodIn_r _ [9, 10, 11, 12, 84, 85, 86, 87, 88, 89, 90] (by decide +kernel) (by decide +kernel)
set_option maxRecDepth 20000 in
theorem gX5_read_X0_begin : GoodIn wsX5_read (wsV RX5 22 RX0 yX0_begin wsX0_begin) := goodIn_app (goodIn_of _ (by decide +kernel)) ggX5_read_X0_begin
set_option maxRecDepth 20000 in
theorem ggX5_read_X1_length : GoodIn wsX5_read wsX1_length := goodIn_r _ [17, 18, 91, 92] (by decide +kernel) (by decide +kernel)
set_option maxRecDepth 20000 in
theorem gX5_read_X1_length : GoodIn wsX5_read (wsV RX5 34 RX1 yX1_length wsX1_length) := goodIn_app (goodIn_of _ (by decide +kernel)) ggX5_read_X1_length
set_option maxRecDepth 20000 in
theorem ggX5_read_X5_readStatement : GoodIn wsX5_read wsX5_readStatement := goodIn_r _ [23, 1, 24, 25, 26, 16, 27, 18, 28, 29, 30, 31, 22, 32, 33, 34, 35, 36, 37, 38, 39, 40, 41, 5, 6, 7, 8, 9, 10, 11, 12, 42, 43, 44, 45, 46, 47, 48, 49, 50, 51, 52, 53, 54, 55, 56, 57, 58, 59, 60, 61, 62, 63, 64, 65, 66, 67, 68, 69, 70, 71, 72, 73, 74, 75, 2, 76, 77, 78, 79, 80, 81, 82, 83, 91, 92, 84, 85, 86, 87, 88, 89, 90] (by decide +kernel) (by decide +kernel)
set_option maxRecDepth 20000 in
theorem gX5_read_X5_readStatement : GoodIn wsX5_read (wsV RX5 40 RX5 yX5_readStatement wsX5_readStatement) := goodIn_app (goodIn_of _ (by decide +kernel)) ggX5_read_X5_readStatement
theorem dX5_read_0 : decode cX5_read 0 = .ok (.aload_n 2, 1) := by decide +kernel
theorem dX5_read_1 : decode cX5_read 1 = .ok (.iconst 0, 1) := by decide +kernel
theorem dX5_read_2 : decode cX5_read 2 = .ok (.invokevirtual 22, 3) := by decide +kernel
theorem dX5_read_5 : decode cX5_read 5 = .ok (.aload_n 0, 1) := by decide +kernel
theorem dX5_read_6 : decode cX5_read 6 = .ok (.iconst 0, 1) := by decide +kernel
theorem dX5_read_7 : decode cX5_read 7 = .ok (.putfield 28, 3) := by decide +kernel
theorem dX5_read_10 : decode cX5_read 10 = .ok (.aload_n 0, 1) := by decide +kernel
theorem dX5_read_11 : decode cX5_read 11 = .ok (.iconst 0, 1) := by decide +kernel
theorem dX5_read_12 : decode cX5_read 12 = .ok (.putfield 31, 3) := by decide +kernel
theorem dX5_read_15 : decode cX5_read 15 = .ok (.aload_n 0, 1) := by decide +kernel
theorem dX5_read_16 : decode cX5_read 16 = .ok (.iconst 0, 1) := by decide +kernel
theorem dX5_read_17 : decode cX5_read 17 = .ok (.putfield 19, 3) := by decide +kernel
theorem dX5_read_20 : decode cX5_read 20 = .ok (.iconst 0, 1) := by decide +kernel
theorem dX5_read_21 : decode cX5_read 21 = .ok (.istore_n 3, 1) := by decide +kernel
theorem dX5_read_22 : decode cX5_read 22 = .ok (.iload_n 3, 1) := by decide +kernel
theorem dX5_read_23 : decode cX5_read 23 = .ok (.sipush 200, 3) := by decide +kernel
theorem dX5_read_26 : decode cX5_read 26 = .ok (.if_icmp .ge 46, 3) := by decide +kernel
theorem dX5_read_29 : decode cX5_read 29 = .ok (.aload_n 0, 1) := by decide +kernel
theorem dX5_read_30 : decode cX5_read 30 = .ok (.getfield 28, 3) := by decide +kernel
theorem dX5_read_33 : decode cX5_read 33 = .ok (.aload_n 1, 1) := by decide +kernel
theorem dX5_read_34 : decode cX5_read 34 = .ok (.invokevirtual 34, 3) := by decide +kernel
theorem dX5_read_37 : decode cX5_read 37 = .ok (.if_icmp .ge 10, 3) := by decide +kernel
theorem dX5_read_40 : decode cX5_read 40 = .ok (.aload_n 0, 1) := by decide +kernel
theorem dX5_read_41 : decode cX5_read 41 = .ok (.getfield 19, 3) := by decide +kernel
theorem dX5_read_44 : decode cX5_read 44 = .ok (.ifCond .eq 4, 3) := by decide +kernel
theorem dX5_read_47 : decode cX5_read 47 = .ok (.return_, 1) := by decide +kernel
theorem dX5_read_48 : decode cX5_read 48 = .ok (.aload_n 0, 1) := by decide +kernel
theorem dX5_read_49 : decode cX5_read 49 = .ok (.aload_n 0, 1) := by decide +kernel
theorem dX5_read_50 : decode cX5_read 50 = .ok (.getfield 28, 3) := by decide +kernel
theorem dX5_read_53 : decode cX5_read 53 = .ok (.putfield 15, 3) := by decide +kernel
theorem dX5_read_56 : decode cX5_read 56 = .ok (.aload_n 0, 1) := by decide +kernel
theorem dX5_read_57 : decode cX5_read 57 = .ok (.aload_n 0, 1) := by decide +kernel
theorem dX5_read_58 : decode cX5_read 58 = .ok (.aload_n 1, 1) := by decide +kernel
theorem dX5_read_59 : decode cX5_read 59 = .ok (.aload_n 2, 1) := by decide +kernel
theorem dX5_read_60 : decode cX5_read 60 = .ok (.invokevirtual 40, 3) := by decide +kernel
theorem dX5_read_63 : decode cX5_read 63 = .ok (.putfield 19, 3) := by decide +kernel
theorem dX5_read_66 : decode cX5_read 66 = .ok (.iinc 3 1, 3) := by decide +kernel
theorem dX5_read_69 : decode cX5_read 69 = .ok (.goto (-47), 3) := by decide +kernel
theorem dX5_read_72 : decode cX5_read 72 = .ok (.return_, 1) := by decide +kernel
set_option maxRecDepth 20000 in
theorem ggX5_readStatement_X1_at : GoodIn wsX5_readStatement wsX1_at := goodIn_r _ [6, 7, 8, 74, 75] (by decide +kernel) (by decide +kernel)
set_option maxRecDepth 20000 in
theorem gX5_readStatement_X1_at : GoodIn wsX5_readStatement (wsV RX5 44 RX1 yX1_at wsX1_at) := goodIn_app (goodIn_of _ (by decide +kernel)) ggX5_readStatement_X1_at
set_option maxRecDepth 20000 in
theorem ggX5_readStatement_X5_readNumbers : GoodIn wsX5_readStatement wsX5_readNumbers := goodIn_r _ [13, 1, 14, 15, 16, 17, 12, 18, 2, 3, 4, 5, 6, 7, 8, 69, 70, 71, 72, 73, 74, 75] (by decide +kernel) (by decide +kernel)
set_option maxRecDepth 20000 in
theorem gX5_readStatement_X5_readNumbers : GoodIn wsX5_readStatement (wsV RX5 48 RX5 yX5_readNumbers wsX5_readNumbers) := goodIn_app (goodIn_of _ (by decide +kernel)) ggX5_readStatement_X5_readNumbers
set_option maxRecDepth 20000 in
theorem ggX5_readStatement_X5_takeBlocks : GoodIn wsX5_readStatement wsX5_takeBlocks := goodIn_r _ [22, 14, 23, 24, 25, 26, 27, 28, 29, 30, 69, 70, 71, 72, 73, 76, 77, 78, 79, 80, 81, 82] (by decide +kernel) (by decide +kernel)
set_option maxRecDepth 20000 in
theorem gX5_readStatement_X5_takeBlocks : GoodIn wsX5_readStatement (wsV RX5 52 RX5 yX5_takeBlocks wsX5_takeBlocks) := goodIn_app (goodIn_of _ (by decide +kernel)) ggX5_readStatement_X5_takeBlocks
set_option maxRecDepth 20000 in
theorem ggX5_readStatement_X5_takeEdge : GoodIn wsX5_readStatement wsX5_takeEdge := goodIn_r _ [34, 14, 35, 36, 37, 26, 38, 28, 39, 40, 41, 42, 43, 44, 45, 46, 29, 47, 48, 49, 50, 51, 52, 53, 54, 30, 55, 56, 57, 58, 59, 60, 69, 70, 71, 72, 73, 76, 77, 78, 79, 80, 81, 82] (by decide +kernel) (by decide +kernel)
set_option maxRecDepth 20000 in
theorem gX5_readStatement_X5_takeEdge : GoodIn wsX5_readStatement (wsV RX5 56 RX5 yX5_takeEdge wsX5_takeEdge) := goodIn_app (goodIn_of _ (by decide +kernel)) ggX5_readStatement_X5_takeEdge
set_option maxRecDepth 20000 in
theorem ggX5_readStatement_X5_takeAbort : GoodIn wsX5_readStatement wsX5_takeAbort := goodIn_r _ [64, 14, 65, 35, 36, 37, 26, 38, 28, 39, 40, 41, 42, 66, 67, 68, 43, 44, 45, 46, 29, 47, 48, 49, 50, 51, 52, 53, 54, 30, 55, 56, 57, 58, 59, 60, 69, 70, 71, 72, 73, 76, 77, 78, 79, 80, 81, 82] (by decide +kernel) (by decide +kernel)
set_option maxRecDepth 20000 in
theorem gX5_readStatement_X5_takeAbort : GoodIn wsX5_readStatement (wsV RX5 59 RX5 yX5_takeAbort wsX5_takeAbort) := goodIn_app (goodIn_of _ (by decide +kernel)) ggX5_readStatement_X5_takeAbort
theorem dX5_readStatement_0 : decode cX5_readStatement 0 = .ok (.aload_n 1, 1) := by decide +kernel
theorem dX5_readStatement_1 : decode cX5_readStatement 1 = .ok (.aload_n 0, 1) := by decide +kernel
theorem dX5_readStatement_2 : decode cX5_readStatement 2 = .ok (.getfield 28, 3) := by decide +kernel
theorem dX5_readStatement_5 : decode cX5_readStatement 5 = .ok (.invokevirtual 44, 3) := by decide +kernel
theorem dX5_readStatement_8 : decode cX5_readStatement 8 = .ok (.istore_n 3, 1) := by decide +kernel
theorem dX5_readStatement_9 : decode cX5_readStatement 9 = .ok (.aload_n 0, 1) := by decide +kernel
theorem dX5_readStatement_10 : decode cX5_readStatement 10 = .ok (.getfield 28, 3) := by decide +kernel
theorem dX5_readStatement_13 : decode cX5_readStatement 13 = .ok (.ifCond .ne 17, 3) := by decide +kernel
theorem dX5_readStatement_16 : decode cX5_readStatement 16 = .ok (.iload_n 3, 1) := by decide +kernel
theorem dX5_readStatement_17 : decode cX5_readStatement 17 = .ok (.bipush 98, 2) := by decide +kernel
theorem dX5_readStatement_19 : decode cX5_readStatement 19 = .ok (.if_icmp .ne 7, 3) := by decide +kernel
theorem dX5_readStatement_22 : decode cX5_readStatement 22 = .ok (.iconst 1, 1) := by decide +kernel
theorem dX5_readStatement_23 : decode cX5_readStatement 23 = .ok (.goto 24, 3) := by decide +kernel
theorem dX5_readStatement_26 : decode cX5_readStatement 26 = .ok (.iconst 0, 1) := by decide +kernel
theorem dX5_readStatement_27 : decode cX5_readStatement 27 = .ok (.goto 20, 3) := by decide +kernel
theorem dX5_readStatement_30 : decode cX5_readStatement 30 = .ok (.iload_n 3, 1) := by decide +kernel
theorem dX5_readStatement_31 : decode cX5_readStatement 31 = .ok (.bipush 101, 2) := by decide +kernel
theorem dX5_readStatement_33 : decode cX5_readStatement 33 = .ok (.if_icmp .eq 9, 3) := by decide +kernel
theorem dX5_readStatement_36 : decode cX5_readStatement 36 = .ok (.iload_n 3, 1) := by decide +kernel
theorem dX5_readStatement_37 : decode cX5_readStatement 37 = .ok (.bipush 97, 2) := by decide +kernel
theorem dX5_readStatement_39 : decode cX5_readStatement 39 = .ok (.if_icmp .ne 7, 3) := by decide +kernel
theorem dX5_readStatement_42 : decode cX5_readStatement 42 = .ok (.iconst 1, 1) := by decide +kernel
theorem dX5_readStatement_43 : decode cX5_readStatement 43 = .ok (.goto 4, 3) := by decide +kernel
theorem dX5_readStatement_46 : decode cX5_readStatement 46 = .ok (.iconst 0, 1) := by decide +kernel
theorem dX5_readStatement_47 : decode cX5_readStatement 47 = .ok (.istore 4, 2) := by decide +kernel
theorem dX5_readStatement_49 : decode cX5_readStatement 49 = .ok (.iload 4, 2) := by decide +kernel
theorem dX5_readStatement_51 : decode cX5_readStatement 51 = .ok (.ifCond .ne 5, 3) := by decide +kernel
theorem dX5_readStatement_54 : decode cX5_readStatement 54 = .ok (.iconst 1, 1) := by decide +kernel
theorem dX5_readStatement_55 : decode cX5_readStatement 55 = .ok (.ireturn, 1) := by decide +kernel
theorem dX5_readStatement_56 : decode cX5_readStatement 56 = .ok (.aload_n 0, 1) := by decide +kernel
theorem dX5_readStatement_57 : decode cX5_readStatement 57 = .ok (.dup, 1) := by decide +kernel
theorem dX5_readStatement_58 : decode cX5_readStatement 58 = .ok (.getfield 28, 3) := by decide +kernel
theorem dX5_readStatement_61 : decode cX5_readStatement 61 = .ok (.iconst 1, 1) := by decide +kernel
theorem dX5_readStatement_62 : decode cX5_readStatement 62 = .ok (.iadd, 1) := by decide +kernel
theorem dX5_readStatement_63 : decode cX5_readStatement 63 = .ok (.putfield 28, 3) := by decide +kernel
theorem dX5_readStatement_66 : decode cX5_readStatement 66 = .ok (.aload_n 0, 1) := by decide +kernel
theorem dX5_readStatement_67 : decode cX5_readStatement 67 = .ok (.aload_n 1, 1) := by decide +kernel
theorem dX5_readStatement_68 : decode cX5_readStatement 68 = .ok (.iload_n 3, 1) := by decide +kernel
theorem dX5_readStatement_69 : decode cX5_readStatement 69 = .ok (.bipush 101, 2) := by decide +kernel
theorem dX5_readStatement_71 : decode cX5_readStatement 71 = .ok (.if_icmp .ne 7, 3) := by decide +kernel
theorem dX5_readStatement_74 : decode cX5_readStatement 74 = .ok (.iconst 3, 1) := by decide +kernel
theorem dX5_readStatement_75 : decode cX5_readStatement 75 = .ok (.goto 4, 3) := by decide +kernel
theorem dX5_readStatement_78 : decode cX5_readStatement 78 = .ok (.iconst 1, 1) := by decide +kernel
theorem dX5_readStatement_79 : decode cX5_readStatement 79 = .ok (.invokevirtual 48, 3) := by decide +kernel
theorem dX5_readStatement_82 : decode cX5_readStatement 82 = .ok (.ifCond .ne 5, 3) := by decide +kernel
theorem dX5_readStatement_85 : decode cX5_readStatement 85 = .ok (.iconst 2, 1) := by decide +kernel
theorem dX5_readStatement_86 : decode cX5_readStatement 86 = .ok (.ireturn, 1) := by decide +kernel
theorem dX5_readStatement_87 : decode cX5_readStatement 87 = .ok (.iload_n 3, 1) := by decide +kernel
theorem dX5_readStatement_88 : decode cX5_readStatement 88 = .ok (.bipush 98, 2) := by decide +kernel
theorem dX5_readStatement_90 : decode cX5_readStatement 90 = .ok (.if_icmp .ne 9, 3) := by decide +kernel
theorem dX5_readStatement_93 : decode cX5_readStatement 93 = .ok (.aload_n 0, 1) := by decide +kernel
theorem dX5_readStatement_94 : decode cX5_readStatement 94 = .ok (.aload_n 2, 1) := by decide +kernel
theorem dX5_readStatement_95 : decode cX5_readStatement 95 = .ok (.invokevirtual 52, 3) := by decide +kernel
theorem dX5_readStatement_98 : decode cX5_readStatement 98 = .ok (.ireturn, 1) := by decide +kernel
theorem dX5_readStatement_99 : decode cX5_readStatement 99 = .ok (.iload_n 3, 1) := by decide +kernel
theorem dX5_readStatement_100 : decode cX5_readStatement 100 = .ok (.bipush 101, 2) := by decide +kernel
theorem dX5_readStatement_102 : decode cX5_readStatement 102 = .ok (.if_icmp .ne 11, 3) := by decide +kernel
theorem dX5_readStatement_105 : decode cX5_readStatement 105 = .ok (.aload_n 0, 1) := by decide +kernel
theorem dX5_readStatement_106 : decode cX5_readStatement 106 = .ok (.aload_n 2, 1) := by decide +kernel
theorem dX5_readStatement_107 : decode cX5_readStatement 107 = .ok (.invokevirtual 56, 3) := by decide +kernel
theorem dX5_readStatement_110 : decode cX5_readStatement 110 = .ok (.goto 8, 3) := by decide +kernel
theorem dX5_readStatement_113 : decode cX5_readStatement 113 = .ok (.aload_n 0, 1) := by decide +kernel
theorem dX5_readStatement_114 : decode cX5_readStatement 114 = .ok (.aload_n 2, 1) := by decide +kernel
theorem dX5_readStatement_115 : decode cX5_readStatement 115 = .ok (.invokevirtual 59, 3) := by decide +kernel
theorem dX5_readStatement_118 : decode cX5_readStatement 118 = .ok (.ireturn, 1) := by decide +kernel
set_option maxRecDepth 20000 in
theorem ggX5_readNumbers_X5_readNumber : GoodIn wsX5_readNumbers wsX5_readNumber := goodIn_r _ [7, 1, 8, 9, 10, 11, 12, 13, 14, 15, 16, 17, 18, 19, 20, 21] (by decide +kernel) (by decide +kernel)
set_option maxRecDepth 20000 in
theorem gX5_readNumbers_X5_readNumber : GoodIn wsX5_readNumbers (wsV RX5 62 RX5 yX5_readNumber wsX5_readNumber) := goodIn_app (goodIn_of _ (by decide +kernel)) ggX5_readNumbers_X5_readNumber
set_option maxRecDepth 20000 in
theorem ggX5_readNumbers_X1_at : GoodIn wsX5_readNumbers wsX1_at := goodIn_r _ [12, 13, 14, 20, 21] (by decide +kernel) (by decide +kernel)
set_option maxRecDepth 20000 in
theorem gX5_readNumbers_X1_at : GoodIn wsX5_readNumbers (wsV RX5 44 RX1 yX1_at wsX1_at) := goodIn_app (goodIn_of _ (by decide +kernel)) ggX5_readNumbers_X1_at
theorem dX5_readNumbers_0 : decode cX5_readNumbers 0 = .ok (.iconst 0, 1) := by decide +kernel
theorem dX5_readNumbers_1 : decode cX5_readNumbers 1 = .ok (.istore_n 3, 1) := by decide +kernel
theorem dX5_readNumbers_2 : decode cX5_readNumbers 2 = .ok (.iload_n 3, 1) := by decide +kernel
theorem dX5_readNumbers_3 : decode cX5_readNumbers 3 = .ok (.iload_n 2, 1) := by decide +kernel
theorem dX5_readNumbers_4 : decode cX5_readNumbers 4 = .ok (.if_icmp .ge 81, 3) := by decide +kernel
theorem dX5_readNumbers_7 : decode cX5_readNumbers 7 = .ok (.iload_n 3, 1) := by decide +kernel
theorem dX5_readNumbers_8 : decode cX5_readNumbers 8 = .ok (.iconst 3, 1) := by decide +kernel
theorem dX5_readNumbers_9 : decode cX5_readNumbers 9 = .ok (.if_icmp .ge 76, 3) := by decide +kernel
theorem dX5_readNumbers_12 : decode cX5_readNumbers 12 = .ok (.aload_n 0, 1) := by decide +kernel
theorem dX5_readNumbers_13 : decode cX5_readNumbers 13 = .ok (.getfield 28, 3) := by decide +kernel
theorem dX5_readNumbers_16 : decode cX5_readNumbers 16 = .ok (.istore 4, 2) := by decide +kernel
theorem dX5_readNumbers_18 : decode cX5_readNumbers 18 = .ok (.aload_n 0, 1) := by decide +kernel
theorem dX5_readNumbers_19 : decode cX5_readNumbers 19 = .ok (.getfield 11, 3) := by decide +kernel
theorem dX5_readNumbers_22 : decode cX5_readNumbers 22 = .ok (.iload_n 3, 1) := by decide +kernel
theorem dX5_readNumbers_23 : decode cX5_readNumbers 23 = .ok (.aload_n 0, 1) := by decide +kernel
theorem dX5_readNumbers_24 : decode cX5_readNumbers 24 = .ok (.aload_n 1, 1) := by decide +kernel
theorem dX5_readNumbers_25 : decode cX5_readNumbers 25 = .ok (.invokevirtual 62, 3) := by decide +kernel
theorem dX5_readNumbers_28 : decode cX5_readNumbers 28 = .ok (.iastore, 1) := by decide +kernel
theorem dX5_readNumbers_29 : decode cX5_readNumbers 29 = .ok (.iload_n 3, 1) := by decide +kernel
theorem dX5_readNumbers_30 : decode cX5_readNumbers 30 = .ok (.iload_n 2, 1) := by decide +kernel
theorem dX5_readNumbers_31 : decode cX5_readNumbers 31 = .ok (.iconst 1, 1) := by decide +kernel
theorem dX5_readNumbers_32 : decode cX5_readNumbers 32 = .ok (.isub, 1) := by decide +kernel
theorem dX5_readNumbers_33 : decode cX5_readNumbers 33 = .ok (.if_icmp .ne 8, 3) := by decide +kernel
theorem dX5_readNumbers_36 : decode cX5_readNumbers 36 = .ok (.bipush 59, 2) := by decide +kernel
theorem dX5_readNumbers_38 : decode cX5_readNumbers 38 = .ok (.goto 5, 3) := by decide +kernel
theorem dX5_readNumbers_41 : decode cX5_readNumbers 41 = .ok (.bipush 44, 2) := by decide +kernel
theorem dX5_readNumbers_43 : decode cX5_readNumbers 43 = .ok (.istore 5, 2) := by decide +kernel
theorem dX5_readNumbers_45 : decode cX5_readNumbers 45 = .ok (.aload_n 0, 1) := by decide +kernel
theorem dX5_readNumbers_46 : decode cX5_readNumbers 46 = .ok (.getfield 28, 3) := by decide +kernel
theorem dX5_readNumbers_49 : decode cX5_readNumbers 49 = .ok (.iload 4, 2) := by decide +kernel
theorem dX5_readNumbers_51 : decode cX5_readNumbers 51 = .ok (.if_icmp .eq 16, 3) := by decide +kernel
theorem dX5_readNumbers_54 : decode cX5_readNumbers 54 = .ok (.aload_n 1, 1) := by decide +kernel
theorem dX5_readNumbers_55 : decode cX5_readNumbers 55 = .ok (.aload_n 0, 1) := by decide +kernel
theorem dX5_readNumbers_56 : decode cX5_readNumbers 56 = .ok (.getfield 28, 3) := by decide +kernel
theorem dX5_readNumbers_59 : decode cX5_readNumbers 59 = .ok (.invokevirtual 44, 3) := by decide +kernel
theorem dX5_readNumbers_62 : decode cX5_readNumbers 62 = .ok (.iload 5, 2) := by decide +kernel
theorem dX5_readNumbers_64 : decode cX5_readNumbers 64 = .ok (.if_icmp .eq 5, 3) := by decide +kernel
theorem dX5_readNumbers_67 : decode cX5_readNumbers 67 = .ok (.iconst 0, 1) := by decide +kernel
theorem dX5_readNumbers_68 : decode cX5_readNumbers 68 = .ok (.ireturn, 1) := by decide +kernel
theorem dX5_readNumbers_69 : decode cX5_readNumbers 69 = .ok (.aload_n 0, 1) := by decide +kernel
theorem dX5_readNumbers_70 : decode cX5_readNumbers 70 = .ok (.dup, 1) := by decide +kernel
theorem dX5_readNumbers_71 : decode cX5_readNumbers 71 = .ok (.getfield 28, 3) := by decide +kernel
theorem dX5_readNumbers_74 : decode cX5_readNumbers 74 = .ok (.iconst 1, 1) := by decide +kernel
theorem dX5_readNumbers_75 : decode cX5_readNumbers 75 = .ok (.iadd, 1) := by decide +kernel
theorem dX5_readNumbers_76 : decode cX5_readNumbers 76 = .ok (.putfield 28, 3) := by decide +kernel
theorem dX5_readNumbers_79 : decode cX5_readNumbers 79 = .ok (.iinc 3 1, 3) := by decide +kernel
theorem dX5_readNumbers_82 : decode cX5_readNumbers 82 = .ok (.goto (-80), 3) := by decide +kernel
theorem dX5_readNumbers_85 : decode cX5_readNumbers 85 = .ok (.iconst 1, 1) := by decide +kernel
theorem dX5_readNumbers_86 : decode cX5_readNumbers 86 = .ok (.ireturn, 1) := by decide +kernel
set_option maxRecDepth 20000 in
theorem ggX5_readNumber_X1_at : GoodIn wsX5_readNumber wsX1_at := goodIn_r _ [6, 7, 8, 14, 15] (by decide +kernel) (by decide +kernel)
set_option maxRecDepth 20000 in
theorem gX5_readNumber_X1_at : GoodIn wsX5_readNumber (wsV RX5 44 RX1 yX1_at wsX1_at) := goodIn_app (goodIn_of _ (by decide +kernel)) ggX5_readNumber_X1_at
theorem dX5_readNumber_0 : decode cX5_readNumber 0 = .ok (.iconst 0, 1) := by decide +kernel
theorem dX5_readNumber_1 : decode cX5_readNumber 1 = .ok (.istore_n 2, 1) := by decide +kernel
theorem dX5_readNumber_2 : decode cX5_readNumber 2 = .ok (.iconst 0, 1) := by decide +kernel
theorem dX5_readNumber_3 : decode cX5_readNumber 3 = .ok (.istore_n 3, 1) := by decide +kernel
theorem dX5_readNumber_4 : decode cX5_readNumber 4 = .ok (.iload_n 3, 1) := by decide +kernel
theorem dX5_readNumber_5 : decode cX5_readNumber 5 = .ok (.iconst 3, 1) := by decide +kernel
theorem dX5_readNumber_6 : decode cX5_readNumber 6 = .ok (.if_icmp .ge 56, 3) := by decide +kernel
theorem dX5_readNumber_9 : decode cX5_readNumber 9 = .ok (.aload_n 1, 1) := by decide +kernel
theorem dX5_readNumber_10 : decode cX5_readNumber 10 = .ok (.aload_n 0, 1) := by decide +kernel
theorem dX5_readNumber_11 : decode cX5_readNumber 11 = .ok (.getfield 28, 3) := by decide +kernel
theorem dX5_readNumber_14 : decode cX5_readNumber 14 = .ok (.invokevirtual 44, 3) := by decide +kernel
theorem dX5_readNumber_17 : decode cX5_readNumber 17 = .ok (.istore 4, 2) := by decide +kernel
theorem dX5_readNumber_19 : decode cX5_readNumber 19 = .ok (.iload 4, 2) := by decide +kernel
theorem dX5_readNumber_21 : decode cX5_readNumber 21 = .ok (.bipush 48, 2) := by decide +kernel
theorem dX5_readNumber_23 : decode cX5_readNumber 23 = .ok (.if_icmp .lt 10, 3) := by decide +kernel
theorem dX5_readNumber_26 : decode cX5_readNumber 26 = .ok (.iload 4, 2) := by decide +kernel
theorem dX5_readNumber_28 : decode cX5_readNumber 28 = .ok (.bipush 57, 2) := by decide +kernel
theorem dX5_readNumber_30 : decode cX5_readNumber 30 = .ok (.if_icmp .le 5, 3) := by decide +kernel
theorem dX5_readNumber_33 : decode cX5_readNumber 33 = .ok (.iload_n 2, 1) := by decide +kernel
theorem dX5_readNumber_34 : decode cX5_readNumber 34 = .ok (.ireturn, 1) := by decide +kernel
theorem dX5_readNumber_35 : decode cX5_readNumber 35 = .ok (.iload_n 2, 1) := by decide +kernel
theorem dX5_readNumber_36 : decode cX5_readNumber 36 = .ok (.bipush 10, 2) := by decide +kernel
theorem dX5_readNumber_38 : decode cX5_readNumber 38 = .ok (.imul, 1) := by decide +kernel
theorem dX5_readNumber_39 : decode cX5_readNumber 39 = .ok (.iload 4, 2) := by decide +kernel
theorem dX5_readNumber_41 : decode cX5_readNumber 41 = .ok (.bipush 48, 2) := by decide +kernel
theorem dX5_readNumber_43 : decode cX5_readNumber 43 = .ok (.isub, 1) := by decide +kernel
theorem dX5_readNumber_44 : decode cX5_readNumber 44 = .ok (.iadd, 1) := by decide +kernel
theorem dX5_readNumber_45 : decode cX5_readNumber 45 = .ok (.istore_n 2, 1) := by decide +kernel
theorem dX5_readNumber_46 : decode cX5_readNumber 46 = .ok (.aload_n 0, 1) := by decide +kernel
theorem dX5_readNumber_47 : decode cX5_readNumber 47 = .ok (.dup, 1) := by decide +kernel
theorem dX5_readNumber_48 : decode cX5_readNumber 48 = .ok (.getfield 28, 3) := by decide +kernel
theorem dX5_readNumber_51 : decode cX5_readNumber 51 = .ok (.iconst 1, 1) := by decide +kernel
theorem dX5_readNumber_52 : decode cX5_readNumber 52 = .ok (.iadd, 1) := by decide +kernel
theorem dX5_readNumber_53 : decode cX5_readNumber 53 = .ok (.putfield 28, 3) := by decide +kernel
theorem dX5_readNumber_56 : decode cX5_readNumber 56 = .ok (.iinc 3 1, 3) := by decide +kernel
theorem dX5_readNumber_59 : decode cX5_readNumber 59 = .ok (.goto (-55), 3) := by decide +kernel
theorem dX5_readNumber_62 : decode cX5_readNumber 62 = .ok (.iload_n 2, 1) := by decide +kernel
theorem dX5_readNumber_63 : decode cX5_readNumber 63 = .ok (.ireturn, 1) := by decide +kernel
set_option maxRecDepth 20000 in
theorem ggX5_takeBlocks_X0_begin : GoodIn wsX5_takeBlocks wsX0_begin := goodIn_r _ [6, 7, 8, 9, 15, 16, 17, 18, 19, 20, 21] (by decide +kernel) (by decide +kernel)
set_option maxRecDepth 20000 in
theorem gX5_takeBlocks_X0_begin : GoodIn wsX5_takeBlocks (wsV RX5 22 RX0 yX0_begin wsX0_begin) := goodIn_app (goodIn_of _ (by decide +kernel)) ggX5_takeBlocks_X0_begin
theorem dX5_takeBlocks_0 : decode cX5_takeBlocks 0 = .ok (.aload_n 0, 1) := by decide +kernel
theorem dX5_takeBlocks_1 : decode cX5_takeBlocks 1 = .ok (.getfield 11, 3) := by decide +kernel
theorem dX5_takeBlocks_4 : decode cX5_takeBlocks 4 = .ok (.iconst 0, 1) := by decide +kernel
theorem dX5_takeBlocks_5 : decode cX5_takeBlocks 5 = .ok (.iaload, 1) := by decide +kernel
theorem dX5_takeBlocks_6 : decode cX5_takeBlocks 6 = .ok (.istore_n 2, 1) := by decide +kernel
theorem dX5_takeBlocks_7 : decode cX5_takeBlocks 7 = .ok (.iload_n 2, 1) := by decide +kernel
theorem dX5_takeBlocks_8 : decode cX5_takeBlocks 8 = .ok (.iconst 2, 1) := by decide +kernel
theorem dX5_takeBlocks_9 : decode cX5_takeBlocks 9 = .ok (.if_icmp .lt 9, 3) := by decide +kernel
theorem dX5_takeBlocks_12 : decode cX5_takeBlocks 12 = .ok (.iload_n 2, 1) := by decide +kernel
theorem dX5_takeBlocks_13 : decode cX5_takeBlocks 13 = .ok (.bipush 10, 2) := by decide +kernel
theorem dX5_takeBlocks_15 : decode cX5_takeBlocks 15 = .ok (.if_icmp .le 5, 3) := by decide +kernel
theorem dX5_takeBlocks_18 : decode cX5_takeBlocks 18 = .ok (.iconst 3, 1) := by decide +kernel
theorem dX5_takeBlocks_19 : decode cX5_takeBlocks 19 = .ok (.ireturn, 1) := by decide +kernel
theorem dX5_takeBlocks_20 : decode cX5_takeBlocks 20 = .ok (.aload_n 1, 1) := by decide +kernel
theorem dX5_takeBlocks_21 : decode cX5_takeBlocks 21 = .ok (.iload_n 2, 1) := by decide +kernel
theorem dX5_takeBlocks_22 : decode cX5_takeBlocks 22 = .ok (.invokevirtual 22, 3) := by decide +kernel
theorem dX5_takeBlocks_25 : decode cX5_takeBlocks 25 = .ok (.iconst 0, 1) := by decide +kernel
theorem dX5_takeBlocks_26 : decode cX5_takeBlocks 26 = .ok (.ireturn, 1) := by decide +kernel
set_option maxRecDepth 20000 in
theorem ggX5_takeEdge_X0_hasBlock : GoodIn wsX5_takeEdge wsX0_hasBlock := goodIn_r _ [6, 7, 37, 38, 39, 40, 41, 42, 43] (by decide +kernel) (by decide +kernel)
set_option maxRecDepth 20000 in
theorem gX5_takeEdge_X0_hasBlock : GoodIn wsX5_takeEdge (wsV RX5 66 RX0 yX0_hasBlock wsX0_hasBlock) := goodIn_app (goodIn_of _ (by decide +kernel)) ggX5_takeEdge_X0_hasBlock
set_option maxRecDepth 20000 in
theorem ggX5_takeEdge_X0_exit : GoodIn wsX5_takeEdge wsX0_exit := goodIn_r _ [11, 7, 37, 38, 39, 40, 41, 42, 43] (by decide +kernel) (by decide +kernel)
set_option maxRecDepth 20000 in
theorem gX5_takeEdge_X0_exit : GoodIn wsX5_takeEdge (wsV RX5 70 RX0 yX0_exit wsX0_exit) := goodIn_app (goodIn_of _ (by decide +kernel)) ggX5_takeEdge_X0_exit
set_option maxRecDepth 20000 in
theorem ggX5_takeEdge_X0_isFull : GoodIn wsX5_takeEdge wsX0_isFull := goodIn_r _ [15, 16, 37, 38, 39, 40, 41, 42, 43] (by decide +kernel) (by decide +kernel)
set_option maxRecDepth 20000 in
theorem gX5_takeEdge_X0_isFull : GoodIn wsX5_takeEdge (wsV RX5 73 RX0 yX0_isFull wsX0_isFull) := goodIn_app (goodIn_of _ (by decide +kernel)) ggX5_takeEdge_X0_isFull
set_option maxRecDepth 20000 in
theorem ggX5_takeEdge_X0_addEdge : GoodIn wsX5_takeEdge wsX0_addEdge := goodIn_r _ [20, 21, 16, 22, 23, 24, 25, 26, 27, 28, 5, 29, 30, 3, 4, 6, 7, 31, 13, 14, 15, 37, 38, 39, 40, 41, 42, 43] (by decide +kernel) (by decide +kernel)
set_option maxRecDepth 20000 in
theorem gX5_takeEdge_X0_addEdge : GoodIn wsX5_takeEdge (wsV RX5 77 RX0 yX0_addEdge wsX0_addEdge) := goodIn_app (goodIn_of _ (by decide +kernel)) ggX5_takeEdge_X0_addEdge
theorem dX5_takeEdge_0 : decode cX5_takeEdge 0 = .ok (.aload_n 0, 1) := by decide +kernel
theorem dX5_takeEdge_1 : decode cX5_takeEdge 1 = .ok (.getfield 11, 3) := by decide +kernel
theorem dX5_takeEdge_4 : decode cX5_takeEdge 4 = .ok (.iconst 0, 1) := by decide +kernel
theorem dX5_takeEdge_5 : decode cX5_takeEdge 5 = .ok (.iaload, 1) := by decide +kernel
theorem dX5_takeEdge_6 : decode cX5_takeEdge 6 = .ok (.istore_n 2, 1) := by decide +kernel
theorem dX5_takeEdge_7 : decode cX5_takeEdge 7 = .ok (.aload_n 0, 1) := by decide +kernel
theorem dX5_takeEdge_8 : decode cX5_takeEdge 8 = .ok (.getfield 11, 3) := by decide +kernel
theorem dX5_takeEdge_11 : decode cX5_takeEdge 11 = .ok (.iconst 1, 1) := by decide +kernel
theorem dX5_takeEdge_12 : decode cX5_takeEdge 12 = .ok (.iaload, 1) := by decide +kernel
theorem dX5_takeEdge_13 : decode cX5_takeEdge 13 = .ok (.istore_n 3, 1) := by decide +kernel
theorem dX5_takeEdge_14 : decode cX5_takeEdge 14 = .ok (.aload_n 1, 1) := by decide +kernel
theorem dX5_takeEdge_15 : decode cX5_takeEdge 15 = .ok (.iload_n 2, 1) := by decide +kernel
theorem dX5_takeEdge_16 : decode cX5_takeEdge 16 = .ok (.invokevirtual 66, 3) := by decide +kernel
theorem dX5_takeEdge_19 : decode cX5_takeEdge 19 = .ok (.ifCond .eq 16, 3) := by decide +kernel
theorem dX5_takeEdge_22 : decode cX5_takeEdge 22 = .ok (.aload_n 1, 1) := by decide +kernel
theorem dX5_takeEdge_23 : decode cX5_takeEdge 23 = .ok (.iload_n 3, 1) := by decide +kernel
theorem dX5_takeEdge_24 : decode cX5_takeEdge 24 = .ok (.invokevirtual 66, 3) := by decide +kernel
theorem dX5_takeEdge_27 : decode cX5_takeEdge 27 = .ok (.ifCond .eq 8, 3) := by decide +kernel
theorem dX5_takeEdge_30 : decode cX5_takeEdge 30 = .ok (.iload_n 2, 1) := by decide +kernel
theorem dX5_takeEdge_31 : decode cX5_takeEdge 31 = .ok (.iload_n 3, 1) := by decide +kernel
theorem dX5_takeEdge_32 : decode cX5_takeEdge 32 = .ok (.if_icmp .ne 5, 3) := by decide +kernel
theorem dX5_takeEdge_35 : decode cX5_takeEdge 35 = .ok (.iconst 3, 1) := by decide +kernel
theorem dX5_takeEdge_36 : decode cX5_takeEdge 36 = .ok (.ireturn, 1) := by decide +kernel
theorem dX5_takeEdge_37 : decode cX5_takeEdge 37 = .ok (.iload_n 3, 1) := by decide +kernel
theorem dX5_takeEdge_38 : decode cX5_takeEdge 38 = .ok (.ifCond .eq 11, 3) := by decide +kernel
theorem dX5_takeEdge_41 : decode cX5_takeEdge 41 = .ok (.iload_n 2, 1) := by decide +kernel
theorem dX5_takeEdge_42 : decode cX5_takeEdge 42 = .ok (.aload_n 1, 1) := by decide +kernel
theorem dX5_takeEdge_43 : decode cX5_takeEdge 43 = .ok (.invokevirtual 70, 3) := by decide +kernel
theorem dX5_takeEdge_46 : decode cX5_takeEdge 46 = .ok (.if_icmp .ne 5, 3) := by decide +kernel
theorem dX5_takeEdge_49 : decode cX5_takeEdge 49 = .ok (.iconst 3, 1) := by decide +kernel
theorem dX5_takeEdge_50 : decode cX5_takeEdge 50 = .ok (.ireturn, 1) := by decide +kernel
theorem dX5_takeEdge_51 : decode cX5_takeEdge 51 = .ok (.aload_n 1, 1) := by decide +kernel
theorem dX5_takeEdge_52 : decode cX5_takeEdge 52 = .ok (.invokevirtual 73, 3) := by decide +kernel
theorem dX5_takeEdge_55 : decode cX5_takeEdge 55 = .ok (.ifCond .eq 5, 3) := by decide +kernel
theorem dX5_takeEdge_58 : decode cX5_takeEdge 58 = .ok (.iconst 5, 1) := by decide +kernel
theorem dX5_takeEdge_59 : decode cX5_takeEdge 59 = .ok (.ireturn, 1) := by decide +kernel
theorem dX5_takeEdge_60 : decode cX5_takeEdge 60 = .ok (.aload_n 1, 1) := by decide +kernel
theorem dX5_takeEdge_61 : decode cX5_takeEdge 61 = .ok (.iload_n 2, 1) := by decide +kernel
theorem dX5_takeEdge_62 : decode cX5_takeEdge 62 = .ok (.iload_n 3, 1) := by decide +kernel
theorem dX5_takeEdge_63 : decode cX5_takeEdge 63 = .ok (.aload_n 0, 1) := by decide +kernel
theorem dX5_takeEdge_64 : decode cX5_takeEdge 64 = .ok (.getfield 11, 3) := by decide +kernel
theorem dX5_takeEdge_67 : decode cX5_takeEdge 67 = .ok (.iconst 2, 1) := by decide +kernel
theorem dX5_takeEdge_68 : decode cX5_takeEdge 68 = .ok (.iaload, 1) := by decide +kernel
theorem dX5_takeEdge_69 : decode cX5_takeEdge 69 = .ok (.invokevirtual 77, 3) := by decide +kernel
theorem dX5_takeEdge_72 : decode cX5_takeEdge 72 = .ok (.iconst 0, 1) := by decide +kernel
theorem dX5_takeEdge_73 : decode cX5_takeEdge 73 = .ok (.ireturn, 1) := by decide +kernel
set_option maxRecDepth 20000 in
theorem ggX5_takeAbort_X0_hasBlock : GoodIn wsX5_takeAbort wsX0_hasBlock := goodIn_r _ [7, 8, 41, 42, 43, 44, 45, 46, 47] (by decide +kernel) (by decide +kernel)
set_option maxRecDepth 20000 in
theorem gX5_takeAbort_X0_hasBlock : GoodIn wsX5_takeAbort (wsV RX5 66 RX0 yX0_hasBlock wsX0_hasBlock) := goodIn_app (goodIn_of _ (by decide +kernel)) ggX5_takeAbort_X0_hasBlock
set_option maxRecDepth 20000 in
theorem ggX5_takeAbort_X0_exit : GoodIn wsX5_takeAbort wsX0_exit := goodIn_r _ [12, 8, 41, 42, 43, 44, 45, 46, 47] (by decide +kernel) (by decide +kernel)
set_option maxRecDepth 20000 in
theorem gX5_takeAbort_X0_exit : GoodIn wsX5_takeAbort (wsV RX5 70 RX0 yX0_exit wsX0_exit) := goodIn_app (goodIn_of _ (by decide +kernel)) ggX5_takeAbort_X0_exit
set_option maxRecDepth 20000 in
theorem ggX5_takeAbort_X6_holds : GoodIn wsX5_takeAbort wsX6_holds := goodIn_r _ [15] (by decide +kernel) (by decide +kernel)
set_option maxRecDepth 20000 in
theorem gX5_takeAbort_X6_holds_n81 : GoodIn wsX5_takeAbort (wsX6_holds) := ggX5_takeAbort_X6_holds
set_option maxRecDepth 20000 in
theorem ggX5_takeAbort_X0_isFull : GoodIn wsX5_takeAbort wsX0_isFull := goodIn_r _ [19, 20, 41, 42, 43, 44, 45, 46, 47] (by decide +kernel) (by decide +kernel)
set_option maxRecDepth 20000 in
theorem gX5_takeAbort_X0_isFull : GoodIn wsX5_takeAbort (wsV RX5 73 RX0 yX0_isFull wsX0_isFull) := goodIn_app (goodIn_of _ (by decide +kernel)) ggX5_takeAbort_X0_isFull
set_option maxRecDepth 20000 in
theorem ggX5_takeAbort_X0_addEdge : GoodIn wsX5_takeAbort wsX0_addEdge := goodIn_r _ [24, 25, 20, 26, 27, 28, 29, 30, 31, 32, 6, 33, 34, 4, 5, 7, 8, 35, 17, 18, 19, 41, 42, 43, 44, 45, 46, 47] (by decide +kernel) (by decide +kernel)
set_option maxRecDepth 20000 in
theorem gX5_takeAbort_X0_addEdge : GoodIn wsX5_takeAbort (wsV RX5 77 RX0 yX0_addEdge wsX0_addEdge) := goodIn_app (goodIn_of _ (by decide +kernel)) ggX5_takeAbort_X0_addEdge
