theorem dX7_weightSum_0 : decode cX7_weightSum 0 = .ok (.iconst 0, 1) := by decide +kernel
theorem dX7_weightSum_1 : decode cX7_weightSum 1 = .ok (.istore_n 2, 1) := by decide +kernel
theorem dX7_weightSum_2 : decode cX7_weightSum 2 = .ok (.iconst 0, 1) := by decide +kernel
theorem dX7_weightSum_3 : decode cX7_weightSum 3 = .ok (.istore_n 3, 1) := by decide +kernel
theorem dX7_weightSum_4 : decode cX7_weightSum 4 = .ok (.iload_n 3, 1) := by decide +kernel
theorem dX7_weightSum_5 : decode cX7_weightSum 5 = .ok (.aload_n 0, 1) := by decide +kernel
theorem dX7_weightSum_6 : decode cX7_weightSum 6 = .ok (.getfield 95, 3) := by decide +kernel
theorem dX7_weightSum_9 : decode cX7_weightSum 9 = .ok (.if_icmp .ge 36, 3) := by decide +kernel
theorem dX7_weightSum_12 : decode cX7_weightSum 12 = .ok (.iload_n 2, 1) := by decide +kernel
theorem dX7_weightSum_13 : decode cX7_weightSum 13 = .ok (.iload_n 1, 1) := by decide +kernel
theorem dX7_weightSum_14 : decode cX7_weightSum 14 = .ok (.ifCond .ne 11, 3) := by decide +kernel
theorem dX7_weightSum_17 : decode cX7_weightSum 17 = .ok (.aload_n 0, 1) := by decide +kernel
theorem dX7_weightSum_18 : decode cX7_weightSum 18 = .ok (.iload_n 3, 1) := by decide +kernel
theorem dX7_weightSum_19 : decode cX7_weightSum 19 = .ok (.invokevirtual 121, 3) := by decide +kernel
theorem dX7_weightSum_22 : decode cX7_weightSum 22 = .ok (.ifCond .ne 14, 3) := by decide +kernel
theorem dX7_weightSum_25 : decode cX7_weightSum 25 = .ok (.aload_n 0, 1) := by decide +kernel
theorem dX7_weightSum_26 : decode cX7_weightSum 26 = .ok (.getfield 19, 3) := by decide +kernel
theorem dX7_weightSum_29 : decode cX7_weightSum 29 = .ok (.iconst 0, 1) := by decide +kernel
theorem dX7_weightSum_30 : decode cX7_weightSum 30 = .ok (.iload_n 3, 1) := by decide +kernel
theorem dX7_weightSum_31 : decode cX7_weightSum 31 = .ok (.iadd, 1) := by decide +kernel
theorem dX7_weightSum_32 : decode cX7_weightSum 32 = .ok (.iaload, 1) := by decide +kernel
theorem dX7_weightSum_33 : decode cX7_weightSum 33 = .ok (.goto 4, 3) := by decide +kernel
theorem dX7_weightSum_36 : decode cX7_weightSum 36 = .ok (.iconst 0, 1) := by decide +kernel
theorem dX7_weightSum_37 : decode cX7_weightSum 37 = .ok (.iadd, 1) := by decide +kernel
theorem dX7_weightSum_38 : decode cX7_weightSum 38 = .ok (.istore_n 2, 1) := by decide +kernel
theorem dX7_weightSum_39 : decode cX7_weightSum 39 = .ok (.iinc 3 1, 3) := by decide +kernel
theorem dX7_weightSum_42 : decode cX7_weightSum 42 = .ok (.goto (-38), 3) := by decide +kernel
theorem dX7_weightSum_45 : decode cX7_weightSum 45 = .ok (.iload_n 2, 1) := by decide +kernel
theorem dX7_weightSum_46 : decode cX7_weightSum 46 = .ok (.ireturn, 1) := by decide +kernel
set_option maxRecDepth 20000 in
theorem ggX7_placementCost_X7_weightSum : GoodIn wsX7_placementCost wsX7_weightSum := goodIn_r _ [5, 6, 7, 8, 9, 10, 4, 11, 12, 13, 14, 15, 16, 17, 18, 19, 20, 21, 22, 23, 24, 25, 26, 27, 28, 29, 30] (by decide +kernel) (by decide +kernel)
set_option maxRecDepth 20000 in
theorem gX7_placementCost_X7_weightSum : GoodIn wsX7_placementCost (wsV RX7 157 RX7 yX7_weightSum wsX7_weightSum) := goodIn_app (goodIn_of _ (by decide +kernel)) ggX7_placementCost_X7_weightSum
theorem dX7_placementCost_0 : decode cX7_placementCost 0 = .ok (.aload_n 0, 1) := by decide +kernel
theorem dX7_placementCost_1 : decode cX7_placementCost 1 = .ok (.iconst 0, 1) := by decide +kernel
theorem dX7_placementCost_2 : decode cX7_placementCost 2 = .ok (.invokevirtual 157, 3) := by decide +kernel
theorem dX7_placementCost_5 : decode cX7_placementCost 5 = .ok (.ireturn, 1) := by decide +kernel
set_option maxRecDepth 20000 in
theorem ggX7_costShareBits_X7_weightSum : GoodIn wsX7_costShareBits wsX7_weightSum := goodIn_r _ [5, 6, 7, 8, 9, 10, 4, 11, 24, 25, 26, 27, 28, 29, 30, 31, 32, 33, 34, 35, 36, 37, 38, 39, 40, 41, 42] (by decide +kernel) (by decide +kernel)
set_option maxRecDepth 20000 in
theorem gX7_costShareBits_X7_weightSum : GoodIn wsX7_costShareBits (wsV RX7 157 RX7 yX7_weightSum wsX7_weightSum) := goodIn_app (goodIn_of _ (by decide +kernel)) ggX7_costShareBits_X7_weightSum
set_option maxRecDepth 20000 in
theorem ggX7_costShareBits_Jxf58ca_floatToIntBits_5c35a : GoodIn wsX7_costShareBits wsJxf58ca_floatToIntBits_5c35a := goodIn_r _ [15, 16, 17, 18, 19, 20, 21, 22, 14, 23] (by decide +kernel) (by decide +kernel)
set_option maxRecDepth 20000 in
theorem gX7_costShareBits_Jxf58ca_floatToIntBits_5c35a : GoodIn wsX7_costShareBits (va_wsS RX7 161 yJxf58ca_floatToIntBits_5c35a wsJxf58ca_floatToIntBits_5c35a) := goodIn_app (goodIn_of _ (by decide +kernel)) ggX7_costShareBits_Jxf58ca_floatToIntBits_5c35a
theorem dX7_costShareBits_0 : decode cX7_costShareBits 0 = .ok (.aload_n 0, 1) := by decide +kernel
theorem dX7_costShareBits_1 : decode cX7_costShareBits 1 = .ok (.iconst 1, 1) := by decide +kernel
theorem dX7_costShareBits_2 : decode cX7_costShareBits 2 = .ok (.invokevirtual 157, 3) := by decide +kernel
theorem dX7_costShareBits_5 : decode cX7_costShareBits 5 = .ok (.istore_n 1, 1) := by decide +kernel
theorem dX7_costShareBits_6 : decode cX7_costShareBits 6 = .ok (.iload_n 1, 1) := by decide +kernel
theorem dX7_costShareBits_7 : decode cX7_costShareBits 7 = .ok (.ifCond .ne 8, 3) := by decide +kernel
theorem dX7_costShareBits_10 : decode cX7_costShareBits 10 = .ok (.bipush (-104), 2) := by decide +kernel
theorem dX7_costShareBits_12 : decode cX7_costShareBits 12 = .ok (.goto 15, 3) := by decide +kernel
theorem dX7_costShareBits_15 : decode cX7_costShareBits 15 = .ok (.aload_n 0, 1) := by decide +kernel
theorem dX7_costShareBits_16 : decode cX7_costShareBits 16 = .ok (.iconst 0, 1) := by decide +kernel
theorem dX7_costShareBits_17 : decode cX7_costShareBits 17 = .ok (.invokevirtual 157, 3) := by decide +kernel
theorem dX7_costShareBits_20 : decode cX7_costShareBits 20 = .ok (.i2f, 1) := by decide +kernel
theorem dX7_costShareBits_21 : decode cX7_costShareBits 21 = .ok (.iload_n 1, 1) := by decide +kernel
theorem dX7_costShareBits_22 : decode cX7_costShareBits 22 = .ok (.i2f, 1) := by decide +kernel
theorem dX7_costShareBits_23 : decode cX7_costShareBits 23 = .ok (.fdiv, 1) := by decide +kernel
theorem dX7_costShareBits_24 : decode cX7_costShareBits 24 = .ok (.invokestatic 161, 3) := by decide +kernel
theorem dX7_costShareBits_27 : decode cX7_costShareBits 27 = .ok (.ireturn, 1) := by decide +kernel
set_option maxRecDepth 20000 in
theorem ggX7_counter_X7_isEdge : GoodIn wsX7_counter wsX7_isEdge := goodIn_r _ [6, 7, 8, 9, 5, 10, 15, 16, 17, 18, 19, 20, 21, 22, 23, 24, 25, 26, 27, 28, 29, 30, 31, 32, 33] (by decide +kernel) (by decide +kernel)
set_option maxRecDepth 20000 in
theorem gX7_counter_X7_isEdge : GoodIn wsX7_counter (wsV RX7 115 RX7 yX7_isEdge wsX7_isEdge) := goodIn_app (goodIn_of _ (by decide +kernel)) ggX7_counter_X7_isEdge
set_option maxRecDepth 20000 in
theorem ggX7_counter_X7_isTree : GoodIn wsX7_counter wsX7_isTree := goodIn_r _ [14, 1, 15, 16, 17, 18, 19, 20, 21, 22, 23, 24, 25, 26, 27, 28, 29, 30, 31, 32, 33] (by decide +kernel) (by decide +kernel)
set_option maxRecDepth 20000 in
theorem gX7_counter_X7_isTree : GoodIn wsX7_counter (wsV RX7 121 RX7 yX7_isTree wsX7_isTree) := goodIn_app (goodIn_of _ (by decide +kernel)) ggX7_counter_X7_isTree
theorem dX7_counter_0 : decode cX7_counter 0 = .ok (.aload_n 0, 1) := by decide +kernel
theorem dX7_counter_1 : decode cX7_counter 1 = .ok (.iload_n 1, 1) := by decide +kernel
theorem dX7_counter_2 : decode cX7_counter 2 = .ok (.invokevirtual 115, 3) := by decide +kernel
theorem dX7_counter_5 : decode cX7_counter 5 = .ok (.ifCond .ne 8, 3) := by decide +kernel
theorem dX7_counter_8 : decode cX7_counter 8 = .ok (.bipush (-101), 2) := by decide +kernel
theorem dX7_counter_10 : decode cX7_counter 10 = .ok (.goto 25, 3) := by decide +kernel
theorem dX7_counter_13 : decode cX7_counter 13 = .ok (.aload_n 0, 1) := by decide +kernel
theorem dX7_counter_14 : decode cX7_counter 14 = .ok (.iload_n 1, 1) := by decide +kernel
theorem dX7_counter_15 : decode cX7_counter 15 = .ok (.invokevirtual 121, 3) := by decide +kernel
theorem dX7_counter_18 : decode cX7_counter 18 = .ok (.ifCond .eq 8, 3) := by decide +kernel
theorem dX7_counter_21 : decode cX7_counter 21 = .ok (.bipush (-104), 2) := by decide +kernel
theorem dX7_counter_23 : decode cX7_counter 23 = .ok (.goto 12, 3) := by decide +kernel
theorem dX7_counter_26 : decode cX7_counter 26 = .ok (.aload_n 0, 1) := by decide +kernel
theorem dX7_counter_27 : decode cX7_counter 27 = .ok (.getfield 19, 3) := by decide +kernel
theorem dX7_counter_30 : decode cX7_counter 30 = .ok (.bipush 40, 2) := by decide +kernel
theorem dX7_counter_32 : decode cX7_counter 32 = .ok (.iload_n 1, 1) := by decide +kernel
theorem dX7_counter_33 : decode cX7_counter 33 = .ok (.iadd, 1) := by decide +kernel
theorem dX7_counter_34 : decode cX7_counter 34 = .ok (.iaload, 1) := by decide +kernel
theorem dX7_counter_35 : decode cX7_counter 35 = .ok (.ireturn, 1) := by decide +kernel
set_option maxRecDepth 20000 in
theorem ggX7_trueCount_X7_isEdge : GoodIn wsX7_trueCount wsX7_isEdge := goodIn_r _ [6, 7, 8, 9, 5, 10, 11, 12, 13, 14, 15, 16, 17, 18, 19, 20, 21, 22, 23, 24, 25, 26, 27, 28, 29] (by decide +kernel) (by decide +kernel)
set_option maxRecDepth 20000 in
theorem gX7_trueCount_X7_isEdge : GoodIn wsX7_trueCount (wsV RX7 115 RX7 yX7_isEdge wsX7_isEdge) := goodIn_app (goodIn_of _ (by decide +kernel)) ggX7_trueCount_X7_isEdge
theorem dX7_trueCount_0 : decode cX7_trueCount 0 = .ok (.aload_n 0, 1) := by decide +kernel
theorem dX7_trueCount_1 : decode cX7_trueCount 1 = .ok (.iload_n 1, 1) := by decide +kernel
theorem dX7_trueCount_2 : decode cX7_trueCount 2 = .ok (.invokevirtual 115, 3) := by decide +kernel
theorem dX7_trueCount_5 : decode cX7_trueCount 5 = .ok (.ifCond .eq 15, 3) := by decide +kernel
theorem dX7_trueCount_8 : decode cX7_trueCount 8 = .ok (.aload_n 0, 1) := by decide +kernel
theorem dX7_trueCount_9 : decode cX7_trueCount 9 = .ok (.getfield 19, 3) := by decide +kernel
theorem dX7_trueCount_12 : decode cX7_trueCount 12 = .ok (.bipush 60, 2) := by decide +kernel
theorem dX7_trueCount_14 : decode cX7_trueCount 14 = .ok (.iload_n 1, 1) := by decide +kernel
theorem dX7_trueCount_15 : decode cX7_trueCount 15 = .ok (.iadd, 1) := by decide +kernel
theorem dX7_trueCount_16 : decode cX7_trueCount 16 = .ok (.iaload, 1) := by decide +kernel
theorem dX7_trueCount_17 : decode cX7_trueCount 17 = .ok (.goto 5, 3) := by decide +kernel
theorem dX7_trueCount_20 : decode cX7_trueCount 20 = .ok (.bipush (-101), 2) := by decide +kernel
theorem dX7_trueCount_22 : decode cX7_trueCount 22 = .ok (.ireturn, 1) := by decide +kernel
set_option maxRecDepth 20000 in
theorem ggX7_reconstruct_X7_isEdge : GoodIn wsX7_reconstruct wsX7_isEdge := goodIn_r _ [5, 6, 7, 8, 4, 9, 41, 42, 43, 44, 45, 46, 47, 48, 49, 50, 51, 52, 53, 54, 55, 56, 57, 58, 59] (by decide +kernel) (by decide +kernel)
set_option maxRecDepth 20000 in
theorem gX7_reconstruct_X7_isEdge : GoodIn wsX7_reconstruct (wsV RX7 115 RX7 yX7_isEdge wsX7_isEdge) := goodIn_app (goodIn_of _ (by decide +kernel)) ggX7_reconstruct_X7_isEdge
set_option maxRecDepth 20000 in
theorem ggX7_reconstruct_X7_isUncertain : GoodIn wsX7_reconstruct wsX7_isUncertain := goodIn_r _ [13, 6, 14, 15, 16, 4, 17, 18, 19, 20, 21, 22, 23, 24, 25, 26, 27, 28, 29, 30, 31, 32, 33, 34, 35, 36, 41, 42, 43, 44, 45, 46, 47, 48, 49, 50, 51, 52, 53, 54, 55, 56, 57, 58, 59] (by decide +kernel) (by decide +kernel)
set_option maxRecDepth 20000 in
theorem gX7_reconstruct_X7_isUncertain : GoodIn wsX7_reconstruct (wsV RX7 141 RX7 yX7_isUncertain wsX7_isUncertain) := goodIn_app (goodIn_of _ (by decide +kernel)) ggX7_reconstruct_X7_isUncertain
set_option maxRecDepth 20000 in
theorem ggX7_reconstruct_X7_countOf : GoodIn wsX7_reconstruct wsX7_countOf := goodIn_r _ [40, 18, 27, 33, 6, 28, 14, 15, 16, 4, 17, 29, 30, 31, 32, 34, 35, 36, 41, 42, 43, 44, 45, 46, 47, 48, 49, 50, 51, 52, 53, 54, 55, 56, 57, 58, 59] (by decide +kernel) (by decide +kernel)
set_option maxRecDepth 20000 in
theorem gX7_reconstruct_X7_countOf : GoodIn wsX7_reconstruct (wsV RX7 144 RX7 yX7_countOf wsX7_countOf) := goodIn_app (goodIn_of _ (by decide +kernel)) ggX7_reconstruct_X7_countOf
theorem dX7_reconstruct_0 : decode cX7_reconstruct 0 = .ok (.aload_n 0, 1) := by decide +kernel
theorem dX7_reconstruct_1 : decode cX7_reconstruct 1 = .ok (.iload_n 1, 1) := by decide +kernel
theorem dX7_reconstruct_2 : decode cX7_reconstruct 2 = .ok (.invokevirtual 115, 3) := by decide +kernel
theorem dX7_reconstruct_5 : decode cX7_reconstruct 5 = .ok (.ifCond .ne 8, 3) := by decide +kernel
theorem dX7_reconstruct_8 : decode cX7_reconstruct 8 = .ok (.bipush (-101), 2) := by decide +kernel
theorem dX7_reconstruct_10 : decode cX7_reconstruct 10 = .ok (.goto 21, 3) := by decide +kernel
theorem dX7_reconstruct_13 : decode cX7_reconstruct 13 = .ok (.aload_n 0, 1) := by decide +kernel
theorem dX7_reconstruct_14 : decode cX7_reconstruct 14 = .ok (.iload_n 1, 1) := by decide +kernel
theorem dX7_reconstruct_15 : decode cX7_reconstruct 15 = .ok (.invokevirtual 141, 3) := by decide +kernel
theorem dX7_reconstruct_18 : decode cX7_reconstruct 18 = .ok (.ifCond .eq 8, 3) := by decide +kernel
theorem dX7_reconstruct_21 : decode cX7_reconstruct 21 = .ok (.bipush (-105), 2) := by decide +kernel
theorem dX7_reconstruct_23 : decode cX7_reconstruct 23 = .ok (.goto 8, 3) := by decide +kernel
theorem dX7_reconstruct_26 : decode cX7_reconstruct 26 = .ok (.aload_n 0, 1) := by decide +kernel
theorem dX7_reconstruct_27 : decode cX7_reconstruct 27 = .ok (.iload_n 1, 1) := by decide +kernel
theorem dX7_reconstruct_28 : decode cX7_reconstruct 28 = .ok (.invokevirtual 144, 3) := by decide +kernel
theorem dX7_reconstruct_31 : decode cX7_reconstruct 31 = .ok (.ireturn, 1) := by decide +kernel
set_option maxRecDepth 20000 in
theorem ggX7_coefficient_X7_isEdge : GoodIn wsX7_coefficient wsX7_isEdge := goodIn_r _ [5, 6, 7, 8, 4, 9, 29, 30, 31, 32, 33, 34, 35, 36, 37, 38, 39, 40, 41, 42, 43, 44, 45, 46, 47] (by decide +kernel) (by decide +kernel)
set_option maxRecDepth 20000 in
theorem gX7_coefficient_X7_isEdge : GoodIn wsX7_coefficient (wsV RX7 115 RX7 yX7_isEdge wsX7_isEdge) := goodIn_app (goodIn_of _ (by decide +kernel)) ggX7_coefficient_X7_isEdge
set_option maxRecDepth 20000 in
theorem ggX7_coefficient_X7_isTree : GoodIn wsX7_coefficient wsX7_isTree := goodIn_r _ [13, 14, 29, 30, 31, 32, 33, 34, 35, 36, 37, 38, 39, 40, 41, 42, 43, 44, 45, 46, 47] (by decide +kernel) (by decide +kernel)
set_option maxRecDepth 20000 in
theorem gX7_coefficient_X7_isTree : GoodIn wsX7_coefficient (wsV RX7 121 RX7 yX7_isTree wsX7_isTree) := goodIn_app (goodIn_of _ (by decide +kernel)) ggX7_coefficient_X7_isTree
set_option maxRecDepth 20000 in
theorem ggX7_coefficient_X7_factorOf : GoodIn wsX7_coefficient wsX7_factorOf := goodIn_r _ [18, 19, 20, 21, 22, 23, 4, 24, 25, 6, 14, 26, 27, 28, 29, 30, 31, 32, 33, 34, 35, 36, 37, 38, 39, 40, 41, 42, 43, 44, 45, 46, 47] (by decide +kernel) (by decide +kernel)
set_option maxRecDepth 20000 in
theorem gX7_coefficient_X7_factorOf : GoodIn wsX7_coefficient (wsV RX7 154 RX7 yX7_factorOf wsX7_factorOf) := goodIn_app (goodIn_of _ (by decide +kernel)) ggX7_coefficient_X7_factorOf
theorem dX7_coefficient_0 : decode cX7_coefficient 0 = .ok (.aload_n 0, 1) := by decide +kernel
theorem dX7_coefficient_1 : decode cX7_coefficient 1 = .ok (.iload_n 1, 1) := by decide +kernel
theorem dX7_coefficient_2 : decode cX7_coefficient 2 = .ok (.invokevirtual 115, 3) := by decide +kernel
theorem dX7_coefficient_5 : decode cX7_coefficient 5 = .ok (.ifCond .eq 11, 3) := by decide +kernel
theorem dX7_coefficient_8 : decode cX7_coefficient 8 = .ok (.aload_n 0, 1) := by decide +kernel
theorem dX7_coefficient_9 : decode cX7_coefficient 9 = .ok (.iload_n 2, 1) := by decide +kernel
theorem dX7_coefficient_10 : decode cX7_coefficient 10 = .ok (.invokevirtual 115, 3) := by decide +kernel
theorem dX7_coefficient_13 : decode cX7_coefficient 13 = .ok (.ifCond .ne 6, 3) := by decide +kernel
theorem dX7_coefficient_16 : decode cX7_coefficient 16 = .ok (.bipush (-101), 2) := by decide +kernel
theorem dX7_coefficient_18 : decode cX7_coefficient 18 = .ok (.ireturn, 1) := by decide +kernel
theorem dX7_coefficient_19 : decode cX7_coefficient 19 = .ok (.aload_n 0, 1) := by decide +kernel
theorem dX7_coefficient_20 : decode cX7_coefficient 20 = .ok (.iload_n 1, 1) := by decide +kernel
theorem dX7_coefficient_21 : decode cX7_coefficient 21 = .ok (.invokevirtual 121, 3) := by decide +kernel
theorem dX7_coefficient_24 : decode cX7_coefficient 24 = .ok (.ifCond .eq 11, 3) := by decide +kernel
theorem dX7_coefficient_27 : decode cX7_coefficient 27 = .ok (.aload_n 0, 1) := by decide +kernel
theorem dX7_coefficient_28 : decode cX7_coefficient 28 = .ok (.iload_n 2, 1) := by decide +kernel
theorem dX7_coefficient_29 : decode cX7_coefficient 29 = .ok (.invokevirtual 121, 3) := by decide +kernel
theorem dX7_coefficient_32 : decode cX7_coefficient 32 = .ok (.ifCond .eq 8, 3) := by decide +kernel
theorem dX7_coefficient_35 : decode cX7_coefficient 35 = .ok (.bipush (-104), 2) := by decide +kernel
theorem dX7_coefficient_37 : decode cX7_coefficient 37 = .ok (.goto 9, 3) := by decide +kernel
theorem dX7_coefficient_40 : decode cX7_coefficient 40 = .ok (.aload_n 0, 1) := by decide +kernel
theorem dX7_coefficient_41 : decode cX7_coefficient 41 = .ok (.iload_n 1, 1) := by decide +kernel
theorem dX7_coefficient_42 : decode cX7_coefficient 42 = .ok (.iload_n 2, 1) := by decide +kernel
theorem dX7_coefficient_43 : decode cX7_coefficient 43 = .ok (.invokevirtual 154, 3) := by decide +kernel
theorem dX7_coefficient_46 : decode cX7_coefficient 46 = .ok (.ireturn, 1) := by decide +kernel
set_option maxRecDepth 20000 in
theorem ggX7_executions_X7_in : GoodIn wsX7_executions wsX7_in := goodIn_r _ [8] (by decide +kernel) (by decide +kernel)
set_option maxRecDepth 20000 in
theorem gX7_executions_X7_in : GoodIn wsX7_executions (va_wsS RX7 60 yX7_in wsX7_in) := goodIn_app (goodIn_of _ (by decide +kernel)) ggX7_executions_X7_in
set_option maxRecDepth 20000 in
theorem ggX7_executions_X7_isUncertain : GoodIn wsX7_executions wsX7_isUncertain := goodIn_r _ [12, 3, 13, 14, 15, 7, 16, 2, 17, 18, 19, 20, 21, 22, 23, 24, 4, 25, 26, 27, 28, 29, 1, 30, 31, 32, 37, 38, 39, 40, 41, 42, 43, 44, 45, 46, 47, 48, 49, 50, 51, 52, 53, 54, 55] (by decide +kernel) (by decide +kernel)
set_option maxRecDepth 20000 in
theorem gX7_executions_X7_isUncertain : GoodIn wsX7_executions (wsV RX7 141 RX7 yX7_isUncertain wsX7_isUncertain) := goodIn_app (goodIn_of _ (by decide +kernel)) ggX7_executions_X7_isUncertain
set_option maxRecDepth 20000 in
theorem ggX7_executions_X7_countOf : GoodIn wsX7_executions wsX7_countOf := goodIn_r _ [36, 2, 4, 1, 3, 25, 13, 14, 15, 7, 16, 26, 27, 28, 29, 30, 31, 32, 37, 38, 39, 40, 41, 42, 43, 44, 45, 46, 47, 48, 49, 50, 51, 52, 53, 54, 55] (by decide +kernel) (by decide +kernel)
set_option maxRecDepth 20000 in
theorem gX7_executions_X7_countOf : GoodIn wsX7_executions (wsV RX7 144 RX7 yX7_countOf wsX7_countOf) := goodIn_app (goodIn_of _ (by decide +kernel)) ggX7_executions_X7_countOf
theorem dX7_executions_0 : decode cX7_executions 0 = .ok (.iload_n 1, 1) := by decide +kernel
theorem dX7_executions_1 : decode cX7_executions 1 = .ok (.iconst 0, 1) := by decide +kernel
theorem dX7_executions_2 : decode cX7_executions 2 = .ok (.aload_n 0, 1) := by decide +kernel
theorem dX7_executions_3 : decode cX7_executions 3 = .ok (.getfield 92, 3) := by decide +kernel
theorem dX7_executions_6 : decode cX7_executions 6 = .ok (.iconst 1, 1) := by decide +kernel
theorem dX7_executions_7 : decode cX7_executions 7 = .ok (.isub, 1) := by decide +kernel
theorem dX7_executions_8 : decode cX7_executions 8 = .ok (.invokestatic 60, 3) := by decide +kernel
theorem dX7_executions_11 : decode cX7_executions 11 = .ok (.ifCond .ne 6, 3) := by decide +kernel
theorem dX7_executions_14 : decode cX7_executions 14 = .ok (.bipush (-101), 2) := by decide +kernel
theorem dX7_executions_16 : decode cX7_executions 16 = .ok (.ireturn, 1) := by decide +kernel
theorem dX7_executions_17 : decode cX7_executions 17 = .ok (.iload_n 1, 1) := by decide +kernel
theorem dX7_executions_18 : decode cX7_executions 18 = .ok (.ifCond .ne 27, 3) := by decide +kernel
theorem dX7_executions_21 : decode cX7_executions 21 = .ok (.aload_n 0, 1) := by decide +kernel
theorem dX7_executions_22 : decode cX7_executions 22 = .ok (.getfield 19, 3) := by decide +kernel
theorem dX7_executions_25 : decode cX7_executions 25 = .ok (.bipush 81, 2) := by decide +kernel
theorem dX7_executions_27 : decode cX7_executions 27 = .ok (.iaload, 1) := by decide +kernel
theorem dX7_executions_28 : decode cX7_executions 28 = .ok (.aload_n 0, 1) := by decide +kernel
theorem dX7_executions_29 : decode cX7_executions 29 = .ok (.getfield 19, 3) := by decide +kernel
theorem dX7_executions_32 : decode cX7_executions 32 = .ok (.bipush 82, 2) := by decide +kernel
theorem dX7_executions_34 : decode cX7_executions 34 = .ok (.iaload, 1) := by decide +kernel
theorem dX7_executions_35 : decode cX7_executions 35 = .ok (.ifCond .ne 7, 3) := by decide +kernel
theorem dX7_executions_38 : decode cX7_executions 38 = .ok (.iconst 0, 1) := by decide +kernel
theorem dX7_executions_39 : decode cX7_executions 39 = .ok (.goto 4, 3) := by decide +kernel
theorem dX7_executions_42 : decode cX7_executions 42 = .ok (.iconst 1, 1) := by decide +kernel
theorem dX7_executions_43 : decode cX7_executions 43 = .ok (.iadd, 1) := by decide +kernel
theorem dX7_executions_44 : decode cX7_executions 44 = .ok (.ireturn, 1) := by decide +kernel
theorem dX7_executions_45 : decode cX7_executions 45 = .ok (.iconst 0, 1) := by decide +kernel
theorem dX7_executions_46 : decode cX7_executions 46 = .ok (.istore_n 2, 1) := by decide +kernel
theorem dX7_executions_47 : decode cX7_executions 47 = .ok (.iconst 0, 1) := by decide +kernel
theorem dX7_executions_48 : decode cX7_executions 48 = .ok (.istore_n 3, 1) := by decide +kernel
theorem dX7_executions_49 : decode cX7_executions 49 = .ok (.iconst 0, 1) := by decide +kernel
theorem dX7_executions_50 : decode cX7_executions 50 = .ok (.istore 4, 2) := by decide +kernel
theorem dX7_executions_52 : decode cX7_executions 52 = .ok (.iload 4, 2) := by decide +kernel
theorem dX7_executions_54 : decode cX7_executions 54 = .ok (.aload_n 0, 1) := by decide +kernel
theorem dX7_executions_55 : decode cX7_executions 55 = .ok (.getfield 95, 3) := by decide +kernel
theorem dX7_executions_58 : decode cX7_executions 58 = .ok (.if_icmp .ge 48, 3) := by decide +kernel
theorem dX7_executions_61 : decode cX7_executions 61 = .ok (.aload_n 0, 1) := by decide +kernel
theorem dX7_executions_62 : decode cX7_executions 62 = .ok (.getfield 16, 3) := by decide +kernel
theorem dX7_executions_65 : decode cX7_executions 65 = .ok (.iload 4, 2) := by decide +kernel
theorem dX7_executions_67 : decode cX7_executions 67 = .ok (.iaload, 1) := by decide +kernel
theorem dX7_executions_68 : decode cX7_executions 68 = .ok (.iload_n 1, 1) := by decide +kernel
theorem dX7_executions_69 : decode cX7_executions 69 = .ok (.if_icmp .ne 31, 3) := by decide +kernel
theorem dX7_executions_72 : decode cX7_executions 72 = .ok (.iload_n 3, 1) := by decide +kernel
theorem dX7_executions_73 : decode cX7_executions 73 = .ok (.ifCond .ne 12, 3) := by decide +kernel
theorem dX7_executions_76 : decode cX7_executions 76 = .ok (.aload_n 0, 1) := by decide +kernel
theorem dX7_executions_77 : decode cX7_executions 77 = .ok (.iload 4, 2) := by decide +kernel
theorem dX7_executions_79 : decode cX7_executions 79 = .ok (.invokevirtual 141, 3) := by decide +kernel
theorem dX7_executions_82 : decode cX7_executions 82 = .ok (.ifCond .eq 7, 3) := by decide +kernel
theorem dX7_executions_85 : decode cX7_executions 85 = .ok (.iconst 1, 1) := by decide +kernel
theorem dX7_executions_86 : decode cX7_executions 86 = .ok (.goto 4, 3) := by decide +kernel
theorem dX7_executions_89 : decode cX7_executions 89 = .ok (.iconst 0, 1) := by decide +kernel
theorem dX7_executions_90 : decode cX7_executions 90 = .ok (.istore_n 3, 1) := by decide +kernel
theorem dX7_executions_91 : decode cX7_executions 91 = .ok (.iload_n 2, 1) := by decide +kernel
theorem dX7_executions_92 : decode cX7_executions 92 = .ok (.aload_n 0, 1) := by decide +kernel
theorem dX7_executions_93 : decode cX7_executions 93 = .ok (.iload 4, 2) := by decide +kernel
theorem dX7_executions_95 : decode cX7_executions 95 = .ok (.invokevirtual 144, 3) := by decide +kernel
theorem dX7_executions_98 : decode cX7_executions 98 = .ok (.iadd, 1) := by decide +kernel
theorem dX7_executions_99 : decode cX7_executions 99 = .ok (.istore_n 2, 1) := by decide +kernel
theorem dX7_executions_100 : decode cX7_executions 100 = .ok (.iinc 4 1, 3) := by decide +kernel
theorem dX7_executions_103 : decode cX7_executions 103 = .ok (.goto (-51), 3) := by decide +kernel
theorem dX7_executions_106 : decode cX7_executions 106 = .ok (.iload_n 3, 1) := by decide +kernel
theorem dX7_executions_107 : decode cX7_executions 107 = .ok (.ifCond .eq 8, 3) := by decide +kernel
theorem dX7_executions_110 : decode cX7_executions 110 = .ok (.bipush (-105), 2) := by decide +kernel
theorem dX7_executions_112 : decode cX7_executions 112 = .ok (.goto 4, 3) := by decide +kernel
theorem dX7_executions_115 : decode cX7_executions 115 = .ok (.iload_n 2, 1) := by decide +kernel
theorem dX7_executions_116 : decode cX7_executions 116 = .ok (.ireturn, 1) := by decide +kernel
set_option maxRecDepth 20000 in
theorem ggX7_dependents_X7_isEdge : GoodIn wsX7_dependents wsX7_isEdge := goodIn_r _ [6, 1, 7, 8, 5, 9, 29, 30, 31, 32, 33, 34, 35, 36, 37, 38, 39, 40, 41, 42, 43, 44, 45, 46, 47] (by decide +kernel) (by decide +kernel)
set_option maxRecDepth 20000 in
theorem gX7_dependents_X7_isEdge : GoodIn wsX7_dependents (wsV RX7 115 RX7 yX7_isEdge wsX7_isEdge) := goodIn_app (goodIn_of _ (by decide +kernel)) ggX7_dependents_X7_isEdge
set_option maxRecDepth 20000 in
theorem ggX7_dependents_X7_isTree : GoodIn wsX7_dependents wsX7_isTree := goodIn_r _ [13, 14, 29, 30, 31, 32, 33, 34, 35, 36, 37, 38, 39, 40, 41, 42, 43, 44, 45, 46, 47] (by decide +kernel) (by decide +kernel)
set_option maxRecDepth 20000 in
theorem gX7_dependents_X7_isTree : GoodIn wsX7_dependents (wsV RX7 121 RX7 yX7_isTree wsX7_isTree) := goodIn_app (goodIn_of _ (by decide +kernel)) ggX7_dependents_X7_isTree
set_option maxRecDepth 20000 in
theorem ggX7_dependents_X7_factorOf : GoodIn wsX7_dependents wsX7_factorOf := goodIn_r _ [18, 19, 20, 21, 22, 23, 5, 24, 25, 1, 14, 26, 27, 28, 29, 30, 31, 32, 33, 34, 35, 36, 37, 38, 39, 40, 41, 42, 43, 44, 45, 46, 47] (by decide +kernel) (by decide +kernel)
set_option maxRecDepth 20000 in
theorem gX7_dependents_X7_factorOf : GoodIn wsX7_dependents (wsV RX7 154 RX7 yX7_factorOf wsX7_factorOf) := goodIn_app (goodIn_of _ (by decide +kernel)) ggX7_dependents_X7_factorOf
theorem dX7_dependents_0 : decode cX7_dependents 0 = .ok (.aload_n 0, 1) := by decide +kernel
theorem dX7_dependents_1 : decode cX7_dependents 1 = .ok (.iload_n 1, 1) := by decide +kernel
theorem dX7_dependents_2 : decode cX7_dependents 2 = .ok (.invokevirtual 115, 3) := by decide +kernel
theorem dX7_dependents_5 : decode cX7_dependents 5 = .ok (.ifCond .ne 6, 3) := by decide +kernel
theorem dX7_dependents_8 : decode cX7_dependents 8 = .ok (.bipush (-101), 2) := by decide +kernel
theorem dX7_dependents_10 : decode cX7_dependents 10 = .ok (.ireturn, 1) := by decide +kernel
theorem dX7_dependents_11 : decode cX7_dependents 11 = .ok (.aload_n 0, 1) := by decide +kernel
theorem dX7_dependents_12 : decode cX7_dependents 12 = .ok (.iload_n 1, 1) := by decide +kernel
theorem dX7_dependents_13 : decode cX7_dependents 13 = .ok (.invokevirtual 121, 3) := by decide +kernel
theorem dX7_dependents_16 : decode cX7_dependents 16 = .ok (.ifCond .eq 6, 3) := by decide +kernel
theorem dX7_dependents_19 : decode cX7_dependents 19 = .ok (.bipush (-104), 2) := by decide +kernel
theorem dX7_dependents_21 : decode cX7_dependents 21 = .ok (.ireturn, 1) := by decide +kernel
theorem dX7_dependents_22 : decode cX7_dependents 22 = .ok (.iconst 1, 1) := by decide +kernel
theorem dX7_dependents_23 : decode cX7_dependents 23 = .ok (.istore_n 2, 1) := by decide +kernel
theorem dX7_dependents_24 : decode cX7_dependents 24 = .ok (.iconst 0, 1) := by decide +kernel
theorem dX7_dependents_25 : decode cX7_dependents 25 = .ok (.istore_n 3, 1) := by decide +kernel
theorem dX7_dependents_26 : decode cX7_dependents 26 = .ok (.iload_n 3, 1) := by decide +kernel
theorem dX7_dependents_27 : decode cX7_dependents 27 = .ok (.aload_n 0, 1) := by decide +kernel
theorem dX7_dependents_28 : decode cX7_dependents 28 = .ok (.getfield 95, 3) := by decide +kernel
theorem dX7_dependents_31 : decode cX7_dependents 31 = .ok (.if_icmp .ge 34, 3) := by decide +kernel
theorem dX7_dependents_34 : decode cX7_dependents 34 = .ok (.iload_n 2, 1) := by decide +kernel
theorem dX7_dependents_35 : decode cX7_dependents 35 = .ok (.aload_n 0, 1) := by decide +kernel
theorem dX7_dependents_36 : decode cX7_dependents 36 = .ok (.iload_n 3, 1) := by decide +kernel
theorem dX7_dependents_37 : decode cX7_dependents 37 = .ok (.invokevirtual 121, 3) := by decide +kernel
theorem dX7_dependents_40 : decode cX7_dependents 40 = .ok (.ifCond .eq 16, 3) := by decide +kernel
theorem dX7_dependents_43 : decode cX7_dependents 43 = .ok (.aload_n 0, 1) := by decide +kernel
theorem dX7_dependents_44 : decode cX7_dependents 44 = .ok (.iload_n 3, 1) := by decide +kernel
theorem dX7_dependents_45 : decode cX7_dependents 45 = .ok (.iload_n 1, 1) := by decide +kernel
theorem dX7_dependents_46 : decode cX7_dependents 46 = .ok (.invokevirtual 154, 3) := by decide +kernel
theorem dX7_dependents_49 : decode cX7_dependents 49 = .ok (.ifCond .eq 7, 3) := by decide +kernel
theorem dX7_dependents_52 : decode cX7_dependents 52 = .ok (.iconst 1, 1) := by decide +kernel
theorem dX7_dependents_53 : decode cX7_dependents 53 = .ok (.goto 4, 3) := by decide +kernel
theorem dX7_dependents_56 : decode cX7_dependents 56 = .ok (.iconst 0, 1) := by decide +kernel
theorem dX7_dependents_57 : decode cX7_dependents 57 = .ok (.iadd, 1) := by decide +kernel
theorem dX7_dependents_58 : decode cX7_dependents 58 = .ok (.istore_n 2, 1) := by decide +kernel
theorem dX7_dependents_59 : decode cX7_dependents 59 = .ok (.iinc 3 1, 3) := by decide +kernel
theorem dX7_dependents_62 : decode cX7_dependents 62 = .ok (.goto (-36), 3) := by decide +kernel
theorem dX7_dependents_65 : decode cX7_dependents 65 = .ok (.iload_n 2, 1) := by decide +kernel
theorem dX7_dependents_66 : decode cX7_dependents 66 = .ok (.ireturn, 1) := by decide +kernel
set_option maxRecDepth 20000 in
theorem ggX7_saturatedCount_X7_isSaturated : GoodIn wsX7_saturatedCount wsX7_isSaturated := goodIn_r _ [6, 7, 8, 9, 10, 5, 11, 12, 13, 14, 15, 16, 17, 18, 19, 20, 21, 22, 23, 24, 25, 26, 27, 28, 29, 30] (by decide +kernel) (by decide +kernel)
set_option maxRecDepth 20000 in
theorem gX7_saturatedCount_X7_isSaturated : GoodIn wsX7_saturatedCount (wsV RX7 151 RX7 yX7_isSaturated wsX7_isSaturated) := goodIn_app (goodIn_of _ (by decide +kernel)) ggX7_saturatedCount_X7_isSaturated
theorem dX7_saturatedCount_0 : decode cX7_saturatedCount 0 = .ok (.iconst 0, 1) := by decide +kernel
theorem dX7_saturatedCount_1 : decode cX7_saturatedCount 1 = .ok (.istore_n 1, 1) := by decide +kernel
theorem dX7_saturatedCount_2 : decode cX7_saturatedCount 2 = .ok (.iconst 0, 1) := by decide +kernel
theorem dX7_saturatedCount_3 : decode cX7_saturatedCount 3 = .ok (.istore_n 2, 1) := by decide +kernel
theorem dX7_saturatedCount_4 : decode cX7_saturatedCount 4 = .ok (.iload_n 2, 1) := by decide +kernel
theorem dX7_saturatedCount_5 : decode cX7_saturatedCount 5 = .ok (.aload_n 0, 1) := by decide +kernel
theorem dX7_saturatedCount_6 : decode cX7_saturatedCount 6 = .ok (.getfield 95, 3) := by decide +kernel
theorem dX7_saturatedCount_9 : decode cX7_saturatedCount 9 = .ok (.if_icmp .ge 25, 3) := by decide +kernel
theorem dX7_saturatedCount_12 : decode cX7_saturatedCount 12 = .ok (.iload_n 1, 1) := by decide +kernel
theorem dX7_saturatedCount_13 : decode cX7_saturatedCount 13 = .ok (.aload_n 0, 1) := by decide +kernel
theorem dX7_saturatedCount_14 : decode cX7_saturatedCount 14 = .ok (.iload_n 2, 1) := by decide +kernel
theorem dX7_saturatedCount_15 : decode cX7_saturatedCount 15 = .ok (.invokevirtual 151, 3) := by decide +kernel
theorem dX7_saturatedCount_18 : decode cX7_saturatedCount 18 = .ok (.ifCond .eq 7, 3) := by decide +kernel
theorem dX7_saturatedCount_21 : decode cX7_saturatedCount 21 = .ok (.iconst 1, 1) := by decide +kernel
theorem dX7_saturatedCount_22 : decode cX7_saturatedCount 22 = .ok (.goto 4, 3) := by decide +kernel
theorem dX7_saturatedCount_25 : decode cX7_saturatedCount 25 = .ok (.iconst 0, 1) := by decide +kernel
theorem dX7_saturatedCount_26 : decode cX7_saturatedCount 26 = .ok (.iadd, 1) := by decide +kernel
theorem dX7_saturatedCount_27 : decode cX7_saturatedCount 27 = .ok (.istore_n 1, 1) := by decide +kernel
theorem dX7_saturatedCount_28 : decode cX7_saturatedCount 28 = .ok (.iinc 2 1, 3) := by decide +kernel
theorem dX7_saturatedCount_31 : decode cX7_saturatedCount 31 = .ok (.goto (-27), 3) := by decide +kernel
theorem dX7_saturatedCount_34 : decode cX7_saturatedCount 34 = .ok (.iload_n 1, 1) := by decide +kernel
theorem dX7_saturatedCount_35 : decode cX7_saturatedCount 35 = .ok (.ireturn, 1) := by decide +kernel
theorem dX7_presentBlock_0 : decode cX7_presentBlock 0 = .ok (.aload_n 0, 1) := by decide +kernel
theorem dX7_presentBlock_1 : decode cX7_presentBlock 1 = .ok (.getfield 19, 3) := by decide +kernel
theorem dX7_presentBlock_4 : decode cX7_presentBlock 4 = .ok (.bipush 82, 2) := by decide +kernel
theorem dX7_presentBlock_6 : decode cX7_presentBlock 6 = .ok (.iaload, 1) := by decide +kernel
theorem dX7_presentBlock_7 : decode cX7_presentBlock 7 = .ok (.ireturn, 1) := by decide +kernel
theorem dX7_finishedRuns_0 : decode cX7_finishedRuns 0 = .ok (.aload_n 0, 1) := by decide +kernel
theorem dX7_finishedRuns_1 : decode cX7_finishedRuns 1 = .ok (.getfield 19, 3) := by decide +kernel
theorem dX7_finishedRuns_4 : decode cX7_finishedRuns 4 = .ok (.bipush 81, 2) := by decide +kernel
theorem dX7_finishedRuns_6 : decode cX7_finishedRuns 6 = .ok (.iaload, 1) := by decide +kernel
theorem dX7_finishedRuns_7 : decode cX7_finishedRuns 7 = .ok (.ireturn, 1) := by decide +kernel
theorem dJxf58ca_isNaN_12338_0 : decode cJxf58ca_isNaN_12338 0 = .ok (.fload_n 0, 1) := by decide +kernel
theorem dJxf58ca_isNaN_12338_1 : decode cJxf58ca_isNaN_12338 1 = .ok (.fload_n 0, 1) := by decide +kernel
theorem dJxf58ca_isNaN_12338_2 : decode cJxf58ca_isNaN_12338 2 = .ok (.fcmp .l, 1) := by decide +kernel
theorem dJxf58ca_isNaN_12338_3 : decode cJxf58ca_isNaN_12338 3 = .ok (.ifCond .eq 7, 3) := by decide +kernel
theorem dJxf58ca_isNaN_12338_6 : decode cJxf58ca_isNaN_12338 6 = .ok (.iconst 1, 1) := by decide +kernel
theorem dJxf58ca_isNaN_12338_7 : decode cJxf58ca_isNaN_12338 7 = .ok (.goto 4, 3) := by decide +kernel
theorem dJxf58ca_isNaN_12338_10 : decode cJxf58ca_isNaN_12338 10 = .ok (.iconst 0, 1) := by decide +kernel
theorem dJxf58ca_isNaN_12338_11 : decode cJxf58ca_isNaN_12338 11 = .ok (.ireturn, 1) := by decide +kernel
set_option maxRecDepth 20000 in
theorem ggJxf58ca_floatToIntBits_5c35a_Jxf58ca_isNaN_12338 : GoodIn wsJxf58ca_floatToIntBits_5c35a wsJxf58ca_isNaN_12338 := goodIn_r _ [9] (by decide +kernel) (by decide +kernel)
set_option maxRecDepth 20000 in
theorem gJxf58ca_floatToIntBits_5c35a_Jxf58ca_isNaN_12338 : GoodIn wsJxf58ca_floatToIntBits_5c35a (va_wsS RJxf58ca 59 yJxf58ca_isNaN_12338 wsJxf58ca_isNaN_12338) := goodIn_app (goodIn_of _ (by decide +kernel)) ggJxf58ca_floatToIntBits_5c35a_Jxf58ca_isNaN_12338
theorem dJxf58ca_floatToIntBits_5c35a_0 : decode cJxf58ca_floatToIntBits_5c35a 0 = .ok (.fload_n 0, 1) := by decide +kernel
theorem dJxf58ca_floatToIntBits_5c35a_1 : decode cJxf58ca_floatToIntBits_5c35a 1 = .ok (.invokestatic 59, 3) := by decide +kernel
theorem dJxf58ca_floatToIntBits_5c35a_4 : decode cJxf58ca_floatToIntBits_5c35a 4 = .ok (.ifCond .ne 8, 3) := by decide +kernel
theorem dJxf58ca_floatToIntBits_5c35a_7 : decode cJxf58ca_floatToIntBits_5c35a 7 = .ok (.fload_n 0, 1) := by decide +kernel
theorem dJxf58ca_floatToIntBits_5c35a_8 : decode cJxf58ca_floatToIntBits_5c35a 8 = .ok (.invokestatic 74, 3) := by decide +kernel
theorem dJxf58ca_floatToIntBits_5c35a_11 : decode cJxf58ca_floatToIntBits_5c35a 11 = .ok (.ireturn, 1) := by decide +kernel
theorem dJxf58ca_floatToIntBits_5c35a_12 : decode cJxf58ca_floatToIntBits_5c35a 12 = .ok (.ldc 77, 2) := by decide +kernel
theorem dJxf58ca_floatToIntBits_5c35a_14 : decode cJxf58ca_floatToIntBits_5c35a 14 = .ok (.ireturn, 1) := by decide +kernel
theorem dJ9_min_7cf53_0 : decode cJ9_min_7cf53 0 = .ok (.iload_n 0, 1) := by decide +kernel
theorem dJ9_min_7cf53_1 : decode cJ9_min_7cf53 1 = .ok (.iload_n 1, 1) := by decide +kernel
theorem dJ9_min_7cf53_2 : decode cJ9_min_7cf53 2 = .ok (.if_icmp .gt 7, 3) := by decide +kernel
theorem dJ9_min_7cf53_5 : decode cJ9_min_7cf53 5 = .ok (.iload_n 0, 1) := by decide +kernel
theorem dJ9_min_7cf53_6 : decode cJ9_min_7cf53 6 = .ok (.goto 4, 3) := by decide +kernel
theorem dJ9_min_7cf53_9 : decode cJ9_min_7cf53 9 = .ok (.iload_n 1, 1) := by decide +kernel
theorem dJ9_min_7cf53_10 : decode cJ9_min_7cf53 10 = .ok (.ireturn, 1) := by decide +kernel
set_option maxRecDepth 20000 in
theorem ggJ0_length_8abf5_J0_coder_7d493 : GoodIn wsJ0_length_8abf5 wsJ0_coder_7d493 := goodIn_r _ [6, 7, 8] (by decide +kernel) (by decide +kernel)
set_option maxRecDepth 20000 in
theorem gJ0_length_8abf5_J0_coder_7d493 : GoodIn wsJ0_length_8abf5 (wsV RJ0 335 RJ0 yJ0_coder_7d493 wsJ0_coder_7d493) := goodIn_app (goodIn_of _ (by decide +kernel)) ggJ0_length_8abf5_J0_coder_7d493
theorem dJ0_length_8abf5_0 : decode cJ0_length_8abf5 0 = .ok (.aload_n 0, 1) := by decide +kernel
theorem dJ0_length_8abf5_1 : decode cJ0_length_8abf5 1 = .ok (.getfield 9, 3) := by decide +kernel
theorem dJ0_length_8abf5_4 : decode cJ0_length_8abf5 4 = .ok (.arraylength, 1) := by decide +kernel
theorem dJ0_length_8abf5_5 : decode cJ0_length_8abf5 5 = .ok (.aload_n 0, 1) := by decide +kernel
theorem dJ0_length_8abf5_6 : decode cJ0_length_8abf5 6 = .ok (.invokevirtual 335, 3) := by decide +kernel
theorem dJ0_length_8abf5_9 : decode cJ0_length_8abf5 9 = .ok (.ishr, 1) := by decide +kernel
theorem dJ0_length_8abf5_10 : decode cJ0_length_8abf5 10 = .ok (.ireturn, 1) := by decide +kernel
set_option maxRecDepth 20000 in
theorem ggJ0_charAt_5068e_J0_isLatin1_aae02 : GoodIn wsJ0_charAt_5068e wsJ0_isLatin1_aae02 := goodIn_r _ [6, 7, 8] (by decide +kernel) (by decide +kernel)
set_option maxRecDepth 20000 in
theorem gJ0_charAt_5068e_J0_isLatin1_aae02 : GoodIn wsJ0_charAt_5068e (wsV RJ0 492 RJ0 yJ0_isLatin1_aae02 wsJ0_isLatin1_aae02) := goodIn_app (goodIn_of _ (by decide +kernel)) ggJ0_charAt_5068e_J0_isLatin1_aae02
set_option maxRecDepth 20000 in
theorem ggJ0_charAt_5068e_J1_charAt_3b067 : GoodIn wsJ0_charAt_5068e wsJ1_charAt_3b067 := goodIn_r _ [12, 13, 14, 5, 15, 16, 17, 18, 19, 20] (by decide +kernel) (by decide +kernel)
set_option maxRecDepth 20000 in
theorem gJ0_charAt_5068e_J1_charAt_3b067 : GoodIn wsJ0_charAt_5068e (va_wsS RJ0 495 yJ1_charAt_3b067 wsJ1_charAt_3b067) := goodIn_app (goodIn_of _ (by decide +kernel)) ggJ0_charAt_5068e_J1_charAt_3b067
set_option maxRecDepth 20000 in
theorem ggJ0_charAt_5068e_J2_charAt_3b067 : GoodIn wsJ0_charAt_5068e wsJ2_charAt_3b067 := goodIn_r _ [24, 25, 26, 23, 27, 28, 29, 30, 31, 14, 5, 15, 16, 17, 18, 19, 20, 32, 33, 34, 35, 36, 37] (by decide +kernel) (by decide +kernel)
set_option maxRecDepth 20000 in
theorem gJ0_charAt_5068e_J2_charAt_3b067 : GoodIn wsJ0_charAt_5068e (va_wsS RJ0 498 yJ2_charAt_3b067 wsJ2_charAt_3b067) := goodIn_app (goodIn_of _ (by decide +kernel)) ggJ0_charAt_5068e_J2_charAt_3b067
theorem dJ0_charAt_5068e_0 : decode cJ0_charAt_5068e 0 = .ok (.aload_n 0, 1) := by decide +kernel
theorem dJ0_charAt_5068e_1 : decode cJ0_charAt_5068e 1 = .ok (.invokevirtual 492, 3) := by decide +kernel
theorem dJ0_charAt_5068e_4 : decode cJ0_charAt_5068e 4 = .ok (.ifCond .eq 12, 3) := by decide +kernel
theorem dJ0_charAt_5068e_7 : decode cJ0_charAt_5068e 7 = .ok (.aload_n 0, 1) := by decide +kernel
theorem dJ0_charAt_5068e_8 : decode cJ0_charAt_5068e 8 = .ok (.getfield 9, 3) := by decide +kernel
theorem dJ0_charAt_5068e_11 : decode cJ0_charAt_5068e 11 = .ok (.iload_n 1, 1) := by decide +kernel
theorem dJ0_charAt_5068e_12 : decode cJ0_charAt_5068e 12 = .ok (.invokestatic 495, 3) := by decide +kernel
theorem dJ0_charAt_5068e_15 : decode cJ0_charAt_5068e 15 = .ok (.ireturn, 1) := by decide +kernel
theorem dJ0_charAt_5068e_16 : decode cJ0_charAt_5068e 16 = .ok (.aload_n 0, 1) := by decide +kernel
theorem dJ0_charAt_5068e_17 : decode cJ0_charAt_5068e 17 = .ok (.getfield 9, 3) := by decide +kernel
theorem dJ0_charAt_5068e_20 : decode cJ0_charAt_5068e 20 = .ok (.iload_n 1, 1) := by decide +kernel
theorem dJ0_charAt_5068e_21 : decode cJ0_charAt_5068e 21 = .ok (.invokestatic 498, 3) := by decide +kernel
theorem dJ0_charAt_5068e_24 : decode cJ0_charAt_5068e 24 = .ok (.ireturn, 1) := by decide +kernel
theorem dJ0_coder_7d493_0 : decode cJ0_coder_7d493 0 = .ok (.getstatic 38, 3) := by decide +kernel
theorem dJ0_coder_7d493_3 : decode cJ0_coder_7d493 3 = .ok (.ifCond .eq 10, 3) := by decide +kernel
theorem dJ0_coder_7d493_6 : decode cJ0_coder_7d493 6 = .ok (.aload_n 0, 1) := by decide +kernel
theorem dJ0_coder_7d493_7 : decode cJ0_coder_7d493 7 = .ok (.getfield 15, 3) := by decide +kernel
theorem dJ0_coder_7d493_10 : decode cJ0_coder_7d493 10 = .ok (.goto 4, 3) := by decide +kernel
theorem dJ0_coder_7d493_13 : decode cJ0_coder_7d493 13 = .ok (.iconst 1, 1) := by decide +kernel
theorem dJ0_coder_7d493_14 : decode cJ0_coder_7d493 14 = .ok (.ireturn, 1) := by decide +kernel
theorem dJ0_isLatin1_aae02_0 : decode cJ0_isLatin1_aae02 0 = .ok (.getstatic 38, 3) := by decide +kernel
theorem dJ0_isLatin1_aae02_3 : decode cJ0_isLatin1_aae02 3 = .ok (.ifCond .eq 14, 3) := by decide +kernel
theorem dJ0_isLatin1_aae02_6 : decode cJ0_isLatin1_aae02 6 = .ok (.aload_n 0, 1) := by decide +kernel
theorem dJ0_isLatin1_aae02_7 : decode cJ0_isLatin1_aae02 7 = .ok (.getfield 15, 3) := by decide +kernel
theorem dJ0_isLatin1_aae02_10 : decode cJ0_isLatin1_aae02 10 = .ok (.ifCond .ne 7, 3) := by decide +kernel
theorem dJ0_isLatin1_aae02_13 : decode cJ0_isLatin1_aae02 13 = .ok (.iconst 1, 1) := by decide +kernel
theorem dJ0_isLatin1_aae02_14 : decode cJ0_isLatin1_aae02 14 = .ok (.goto 4, 3) := by decide +kernel
theorem dJ0_isLatin1_aae02_17 : decode cJ0_isLatin1_aae02 17 = .ok (.iconst 0, 1) := by decide +kernel
theorem dJ0_isLatin1_aae02_18 : decode cJ0_isLatin1_aae02 18 = .ok (.ireturn, 1) := by decide +kernel
set_option maxRecDepth 20000 in
theorem ggJ0_checkIndex_df160_J3_checkIndex_8e157 : GoodIn wsJ0_checkIndex_df160 wsJ3_checkIndex_8e157 := goodIn_r _ [5] (by decide +kernel) (by decide +kernel)
set_option maxRecDepth 20000 in
theorem gJ0_checkIndex_df160_J3_checkIndex_8e157 : GoodIn wsJ0_checkIndex_df160 (va_wsS RJ0 1059 yJ3_checkIndex_8e157 wsJ3_checkIndex_8e157) := goodIn_app (goodIn_of _ (by decide +kernel)) ggJ0_checkIndex_df160_J3_checkIndex_8e157
theorem dJ0_checkIndex_df160_0 : decode cJ0_checkIndex_df160 0 = .ok (.iload_n 0, 1) := by decide +kernel
theorem dJ0_checkIndex_df160_1 : decode cJ0_checkIndex_df160 1 = .ok (.iload_n 1, 1) := by decide +kernel
theorem dJ0_checkIndex_df160_2 : decode cJ0_checkIndex_df160 2 = .ok (.getstatic 1053, 3) := by decide +kernel
theorem dJ0_checkIndex_df160_5 : decode cJ0_checkIndex_df160 5 = .ok (.invokestatic 1059, 3) := by decide +kernel
theorem dJ0_checkIndex_df160_8 : decode cJ0_checkIndex_df160 8 = .ok (.pop, 1) := by decide +kernel
theorem dJ0_checkIndex_df160_9 : decode cJ0_checkIndex_df160 9 = .ok (.return_, 1) := by decide +kernel
set_option maxRecDepth 20000 in
theorem ggJ1_charAt_3b067_J0_checkIndex_df160 : GoodIn wsJ1_charAt_3b067 wsJ0_checkIndex_df160 := goodIn_r _ [4, 5, 6, 7, 8, 9] (by decide +kernel) (by decide +kernel)
set_option maxRecDepth 20000 in
theorem gJ1_charAt_3b067_J0_checkIndex_df160 : GoodIn wsJ1_charAt_3b067 (va_wsS RJ1 9 yJ0_checkIndex_df160 wsJ0_checkIndex_df160) := goodIn_app (goodIn_of _ (by decide +kernel)) ggJ1_charAt_3b067_J0_checkIndex_df160
theorem dJ1_charAt_3b067_0 : decode cJ1_charAt_3b067 0 = .ok (.iload_n 1, 1) := by decide +kernel
theorem dJ1_charAt_3b067_1 : decode cJ1_charAt_3b067 1 = .ok (.aload_n 0, 1) := by decide +kernel
theorem dJ1_charAt_3b067_2 : decode cJ1_charAt_3b067 2 = .ok (.arraylength, 1) := by decide +kernel
theorem dJ1_charAt_3b067_3 : decode cJ1_charAt_3b067 3 = .ok (.invokestatic 9, 3) := by decide +kernel
theorem dJ1_charAt_3b067_6 : decode cJ1_charAt_3b067 6 = .ok (.aload_n 0, 1) := by decide +kernel
theorem dJ1_charAt_3b067_7 : decode cJ1_charAt_3b067 7 = .ok (.iload_n 1, 1) := by decide +kernel
theorem dJ1_charAt_3b067_8 : decode cJ1_charAt_3b067 8 = .ok (.baload, 1) := by decide +kernel
theorem dJ1_charAt_3b067_9 : decode cJ1_charAt_3b067 9 = .ok (.sipush 255, 3) := by decide +kernel
theorem dJ1_charAt_3b067_12 : decode cJ1_charAt_3b067 12 = .ok (.iand, 1) := by decide +kernel
theorem dJ1_charAt_3b067_13 : decode cJ1_charAt_3b067 13 = .ok (.i2c, 1) := by decide +kernel
theorem dJ1_charAt_3b067_14 : decode cJ1_charAt_3b067 14 = .ok (.ireturn, 1) := by decide +kernel
set_option maxRecDepth 20000 in
theorem ggJ2_getChar_3b067_J2_length_9d52b : GoodIn wsJ2_getChar_3b067 wsJ2_length_9d52b := goodIn_r _ [7] (by decide +kernel) (by decide +kernel)
set_option maxRecDepth 20000 in
theorem gJ2_getChar_3b067_J2_length_9d52b : GoodIn wsJ2_getChar_3b067 (va_wsS RJ2 48 yJ2_length_9d52b wsJ2_length_9d52b) := goodIn_app (goodIn_of _ (by decide +kernel)) ggJ2_getChar_3b067_J2_length_9d52b
theorem dJ2_getChar_3b067_0 : decode cJ2_getChar_3b067 0 = .ok (.getstatic 44, 3) := by decide +kernel
theorem dJ2_getChar_3b067_3 : decode cJ2_getChar_3b067 3 = .ok (.ifCond .ne 25, 3) := by decide +kernel
theorem dJ2_getChar_3b067_6 : decode cJ2_getChar_3b067 6 = .ok (.iload_n 1, 1) := by decide +kernel
theorem dJ2_getChar_3b067_7 : decode cJ2_getChar_3b067 7 = .ok (.ifCond .lt 11, 3) := by decide +kernel
theorem dJ2_getChar_3b067_10 : decode cJ2_getChar_3b067 10 = .ok (.iload_n 1, 1) := by decide +kernel
theorem dJ2_getChar_3b067_11 : decode cJ2_getChar_3b067 11 = .ok (.aload_n 0, 1) := by decide +kernel
theorem dJ2_getChar_3b067_12 : decode cJ2_getChar_3b067 12 = .ok (.invokestatic 48, 3) := by decide +kernel
theorem dJ2_getChar_3b067_15 : decode cJ2_getChar_3b067 15 = .ok (.if_icmp .lt 13, 3) := by decide +kernel
theorem dJ2_getChar_3b067_18 : decode cJ2_getChar_3b067 18 = .ok (.new 52, 3) := by decide +kernel
theorem dJ2_getChar_3b067_21 : decode cJ2_getChar_3b067 21 = .ok (.dup, 1) := by decide +kernel
theorem dJ2_getChar_3b067_22 : decode cJ2_getChar_3b067 22 = .ok (.ldc 54, 2) := by decide +kernel
theorem dJ2_getChar_3b067_24 : decode cJ2_getChar_3b067 24 = .ok (.invokespecial 56, 3) := by decide +kernel
theorem dJ2_getChar_3b067_27 : decode cJ2_getChar_3b067 27 = .ok (.athrow, 1) := by decide +kernel
theorem dJ2_getChar_3b067_28 : decode cJ2_getChar_3b067 28 = .ok (.iload_n 1, 1) := by decide +kernel
theorem dJ2_getChar_3b067_29 : decode cJ2_getChar_3b067 29 = .ok (.iconst 1, 1) := by decide +kernel
theorem dJ2_getChar_3b067_30 : decode cJ2_getChar_3b067 30 = .ok (.ishl, 1) := by decide +kernel
theorem dJ2_getChar_3b067_31 : decode cJ2_getChar_3b067 31 = .ok (.istore_n 1, 1) := by decide +kernel
theorem dJ2_getChar_3b067_32 : decode cJ2_getChar_3b067 32 = .ok (.aload_n 0, 1) := by decide +kernel
theorem dJ2_getChar_3b067_33 : decode cJ2_getChar_3b067 33 = .ok (.iload_n 1, 1) := by decide +kernel
theorem dJ2_getChar_3b067_34 : decode cJ2_getChar_3b067 34 = .ok (.iinc 1 1, 3) := by decide +kernel
theorem dJ2_getChar_3b067_37 : decode cJ2_getChar_3b067 37 = .ok (.baload, 1) := by decide +kernel
theorem dJ2_getChar_3b067_38 : decode cJ2_getChar_3b067 38 = .ok (.sipush 255, 3) := by decide +kernel
theorem dJ2_getChar_3b067_41 : decode cJ2_getChar_3b067 41 = .ok (.iand, 1) := by decide +kernel
theorem dJ2_getChar_3b067_42 : decode cJ2_getChar_3b067 42 = .ok (.getstatic 59, 3) := by decide +kernel
theorem dJ2_getChar_3b067_45 : decode cJ2_getChar_3b067 45 = .ok (.ishl, 1) := by decide +kernel
theorem dJ2_getChar_3b067_46 : decode cJ2_getChar_3b067 46 = .ok (.aload_n 0, 1) := by decide +kernel
theorem dJ2_getChar_3b067_47 : decode cJ2_getChar_3b067 47 = .ok (.iload_n 1, 1) := by decide +kernel
theorem dJ2_getChar_3b067_48 : decode cJ2_getChar_3b067 48 = .ok (.baload, 1) := by decide +kernel
theorem dJ2_getChar_3b067_49 : decode cJ2_getChar_3b067 49 = .ok (.sipush 255, 3) := by decide +kernel
theorem dJ2_getChar_3b067_52 : decode cJ2_getChar_3b067 52 = .ok (.iand, 1) := by decide +kernel
theorem dJ2_getChar_3b067_53 : decode cJ2_getChar_3b067 53 = .ok (.getstatic 63, 3) := by decide +kernel
theorem dJ2_getChar_3b067_56 : decode cJ2_getChar_3b067 56 = .ok (.ishl, 1) := by decide +kernel
theorem dJ2_getChar_3b067_57 : decode cJ2_getChar_3b067 57 = .ok (.ior, 1) := by decide +kernel
theorem dJ2_getChar_3b067_58 : decode cJ2_getChar_3b067 58 = .ok (.i2c, 1) := by decide +kernel
theorem dJ2_getChar_3b067_59 : decode cJ2_getChar_3b067 59 = .ok (.ireturn, 1) := by decide +kernel
theorem dJ2_length_9d52b_0 : decode cJ2_length_9d52b 0 = .ok (.aload_n 0, 1) := by decide +kernel
theorem dJ2_length_9d52b_1 : decode cJ2_length_9d52b 1 = .ok (.arraylength, 1) := by decide +kernel
theorem dJ2_length_9d52b_2 : decode cJ2_length_9d52b 2 = .ok (.iconst 1, 1) := by decide +kernel
theorem dJ2_length_9d52b_3 : decode cJ2_length_9d52b 3 = .ok (.ishr, 1) := by decide +kernel
theorem dJ2_length_9d52b_4 : decode cJ2_length_9d52b 4 = .ok (.ireturn, 1) := by decide +kernel
set_option maxRecDepth 20000 in
theorem ggJ2_charAt_3b067_J2_checkIndex_2214a : GoodIn wsJ2_charAt_3b067 wsJ2_checkIndex_2214a := goodIn_r _ [4, 5, 6, 3, 7, 8, 9, 10, 11, 12, 13, 14, 15, 16] (by decide +kernel) (by decide +kernel)
set_option maxRecDepth 20000 in
theorem gJ2_charAt_3b067_J2_checkIndex_2214a : GoodIn wsJ2_charAt_3b067 (va_wsS RJ2 67 yJ2_checkIndex_2214a wsJ2_checkIndex_2214a) := goodIn_app (goodIn_of _ (by decide +kernel)) ggJ2_charAt_3b067_J2_checkIndex_2214a
set_option maxRecDepth 20000 in
theorem ggJ2_charAt_3b067_J2_getChar_3b067 : GoodIn wsJ2_charAt_3b067 wsJ2_getChar_3b067 := goodIn_r _ [19, 20, 21, 22, 5, 6, 3, 7] (by decide +kernel) (by decide +kernel)
set_option maxRecDepth 20000 in
theorem gJ2_charAt_3b067_J2_getChar_3b067 : GoodIn wsJ2_charAt_3b067 (va_wsS RJ2 71 yJ2_getChar_3b067 wsJ2_getChar_3b067) := goodIn_app (goodIn_of _ (by decide +kernel)) ggJ2_charAt_3b067_J2_getChar_3b067
theorem dJ2_charAt_3b067_0 : decode cJ2_charAt_3b067 0 = .ok (.iload_n 1, 1) := by decide +kernel
theorem dJ2_charAt_3b067_1 : decode cJ2_charAt_3b067 1 = .ok (.aload_n 0, 1) := by decide +kernel
theorem dJ2_charAt_3b067_2 : decode cJ2_charAt_3b067 2 = .ok (.invokestatic 67, 3) := by decide +kernel
theorem dJ2_charAt_3b067_5 : decode cJ2_charAt_3b067 5 = .ok (.aload_n 0, 1) := by decide +kernel
theorem dJ2_charAt_3b067_6 : decode cJ2_charAt_3b067 6 = .ok (.iload_n 1, 1) := by decide +kernel
theorem dJ2_charAt_3b067_7 : decode cJ2_charAt_3b067 7 = .ok (.invokestatic 71, 3) := by decide +kernel
theorem dJ2_charAt_3b067_10 : decode cJ2_charAt_3b067 10 = .ok (.ireturn, 1) := by decide +kernel
set_option maxRecDepth 20000 in
theorem ggJ2_checkIndex_2214a_J2_length_9d52b : GoodIn wsJ2_checkIndex_2214a wsJ2_length_9d52b := goodIn_r _ [4] (by decide +kernel) (by decide +kernel)
set_option maxRecDepth 20000 in
theorem gJ2_checkIndex_2214a_J2_length_9d52b : GoodIn wsJ2_checkIndex_2214a (va_wsS RJ2 48 yJ2_length_9d52b wsJ2_length_9d52b) := goodIn_app (goodIn_of _ (by decide +kernel)) ggJ2_checkIndex_2214a_J2_length_9d52b
set_option maxRecDepth 20000 in
theorem ggJ2_checkIndex_2214a_J0_checkIndex_df160 : GoodIn wsJ2_checkIndex_2214a wsJ0_checkIndex_df160 := goodIn_r _ [8, 9, 10, 11, 12, 13] (by decide +kernel) (by decide +kernel)
set_option maxRecDepth 20000 in
theorem gJ2_checkIndex_2214a_J0_checkIndex_df160 : GoodIn wsJ2_checkIndex_2214a (va_wsS RJ2 414 yJ0_checkIndex_df160 wsJ0_checkIndex_df160) := goodIn_app (goodIn_of _ (by decide +kernel)) ggJ2_checkIndex_2214a_J0_checkIndex_df160
theorem dJ2_checkIndex_2214a_0 : decode cJ2_checkIndex_2214a 0 = .ok (.iload_n 0, 1) := by decide +kernel
theorem dJ2_checkIndex_2214a_1 : decode cJ2_checkIndex_2214a 1 = .ok (.aload_n 1, 1) := by decide +kernel
theorem dJ2_checkIndex_2214a_2 : decode cJ2_checkIndex_2214a 2 = .ok (.invokestatic 48, 3) := by decide +kernel
theorem dJ2_checkIndex_2214a_5 : decode cJ2_checkIndex_2214a 5 = .ok (.invokestatic 414, 3) := by decide +kernel
theorem dJ2_checkIndex_2214a_8 : decode cJ2_checkIndex_2214a 8 = .ok (.return_, 1) := by decide +kernel
theorem dJ3_checkIndex_8e157_0 : decode cJ3_checkIndex_8e157 0 = .ok (.iload_n 0, 1) := by decide +kernel
theorem dJ3_checkIndex_8e157_1 : decode cJ3_checkIndex_8e157 1 = .ok (.ifCond .lt 8, 3) := by decide +kernel
theorem dJ3_checkIndex_8e157_4 : decode cJ3_checkIndex_8e157 4 = .ok (.iload_n 0, 1) := by decide +kernel
theorem dJ3_checkIndex_8e157_5 : decode cJ3_checkIndex_8e157 5 = .ok (.iload_n 1, 1) := by decide +kernel
theorem dJ3_checkIndex_8e157_6 : decode cJ3_checkIndex_8e157 6 = .ok (.if_icmp .lt 10, 3) := by decide +kernel
theorem dJ3_checkIndex_8e157_9 : decode cJ3_checkIndex_8e157 9 = .ok (.aload_n 2, 1) := by decide +kernel
theorem dJ3_checkIndex_8e157_10 : decode cJ3_checkIndex_8e157 10 = .ok (.iload_n 0, 1) := by decide +kernel
theorem dJ3_checkIndex_8e157_11 : decode cJ3_checkIndex_8e157 11 = .ok (.iload_n 1, 1) := by decide +kernel
theorem dJ3_checkIndex_8e157_12 : decode cJ3_checkIndex_8e157 12 = .ok (.invokestatic 95, 3) := by decide +kernel
theorem dJ3_checkIndex_8e157_15 : decode cJ3_checkIndex_8e157 15 = .ok (.athrow, 1) := by decide +kernel
theorem dJ3_checkIndex_8e157_16 : decode cJ3_checkIndex_8e157 16 = .ok (.iload_n 0, 1) := by decide +kernel
theorem dJ3_checkIndex_8e157_17 : decode cJ3_checkIndex_8e157 17 = .ok (.ireturn, 1) := by decide +kernel
