theorem dX7_weightSum_0 : decode cX7_weightSum 0 = .ok (.iconst 0, 1) := by decide +kernel
theorem dX7_weightSum_1 : decode cX7_weightSum 1 = .ok (.istore_n 2, 1) := by decide +kernel
theorem dX7_weightSum_2 : decode cX7_weightSum 2 = .ok (.iconst 0, 1) := by decide +kernel
theorem dX7_weightSum_3 : decode cX7_weightSum 3 = .ok (.istore_n 3, 1) := by decide +kernel
theorem dX7_weightSum_4 : decode cX7_weightSum 4 = .ok (.iload_n 3, 1) := by decide +kernel
theorem dX7_weightSum_5 : decode cX7_weightSum 5 = .ok (.aload_n 0, 1) := by decide +kernel
theorem dX7_weightSum_6 : decode cX7_weightSum 6 = .ok (.getfield 95, 3) := by decide +kernel
theorem dX7_weightSum_9 : decode cX7_weightSum 9 = .ok (.if_icmp .ge 36, 3) := by decide +kernel
theorem dX7_weightSum_12 : decode cX7_weightSum 12 = .ok (.iload_n 2, 1) := by decide +kernel
theorem dX7_weightSum_13 : decode cX7_weightSum 13 = .ok (.iload_n 1, 1) := by decide +kernel
theorem dX7_weightSum_14 : decode cX7_weightSum 14 = .ok (.ifCond .ne 11, 3) := by decide +kernel
theorem dX7_weightSum_17 : decode cX7_weightSum 17 = .ok (.aload_n 0, 1) := by decide +kernel
theorem dX7_weightSum_18 : decode cX7_weightSum 18 = .ok (.iload_n 3, 1) := by decide +kernel
theorem dX7_weightSum_19 : decode cX7_weightSum 19 = .ok (.invokevirtual 121, 3) := by decide +kernel
theorem dX7_weightSum_22 : decode cX7_weightSum 22 = .ok (.ifCond .ne 14, 3) := by decide +kernel
theorem dX7_weightSum_25 : decode cX7_weightSum 25 = .ok (.aload_n 0, 1) := by decide +kernel
theorem dX7_weightSum_26 : decode cX7_weightSum 26 = .ok (.getfield 19, 3) := by decide +kernel
theorem dX7_weightSum_29 : decode cX7_weightSum 29 = .ok (.iconst 0, 1) := by decide +kernel
theorem dX7_weightSum_30 : decode cX7_weightSum 30 = .ok (.iload_n 3, 1) := by decide +kernel
theorem dX7_weightSum_31 : decode cX7_weightSum 31 = .ok (.iadd, 1) := by decide +kernel
theorem dX7_weightSum_32 : decode cX7_weightSum 32 = .ok (.iaload, 1) := by decide +kernel
theorem dX7_weightSum_33 : decode cX7_weightSum 33 = .ok (.goto 4, 3) := by decide +kernel
theorem dX7_weightSum_36 : decode cX7_weightSum 36 = .ok (.iconst 0, 1) := by decide +kernel
theorem dX7_weightSum_37 : decode cX7_weightSum 37 = .ok (.iadd, 1) := by decide +kernel
theorem dX7_weightSum_38 : decode cX7_weightSum 38 = .ok (.istore_n 2, 1) := by decide +kernel
theorem dX7_weightSum_39 : decode cX7_weightSum 39 = .ok (.iinc 3 1, 3) := by decide +kernel
theorem dX7_weightSum_42 : decode cX7_weightSum 42 = .ok (.goto (-38), 3) := by decide +kernel
theorem dX7_weightSum_45 : decode cX7_weightSum 45 = .ok (.iload_n 2, 1) := by decide +kernel
theorem dX7_weightSum_46 : decode cX7_weightSum 46 = .ok (.ireturn, 1) := by decide +kernel
set_option maxRecDepth 20000 in
theorem ggX7_placementCost_X7_weightSum : GoodIn wsX7_placementCost wsX7_weightSum := goodIn_r _ [5, 6, 7, 8, 9, 10, 4, 11, 12, 13, 14, 15, 16, 17, 18, 19, 20, 21, 22, 23, 24, 25, 26, 27, 28, 29, 30] (by decide +kernel) (by decide +kernel)
set_option maxRecDepth 20000 in
theorem gX7_placementCost_X7_weightSum : GoodIn wsX7_placementCost (wsV RX7 157 RX7 yX7_weightSum wsX7_weightSum) := goodIn_app (goodIn_of _ (by decide +kernel)) ggX7_placementCost_X7_weightSum
theorem dX7_placementCost_0 : decode cX7_placementCost 0 = .ok (.aload_n 0, 1) := by decide +kernel
theorem dX7_placementCost_1 : decode cX7_placementCost 1 = .ok (.iconst 0, 1) := by decide +kernel
theorem dX7_placementCost_2 : decode cX7_placementCost 2 = .ok (.invokevirtual 157, 3) := by decide +kernel
theorem dX7_placementCost_5 : decode cX7_placementCost 5 = .ok (.ireturn, 1) := by decide +kernel
set_option maxRecDepth 20000 in
theorem ggX7_costShareBits_X7_weightSum : GoodIn wsX7_costShareBits wsX7_weightSum := goodIn_r _ [5, 6, 7, 8, 9, 10, 4, 11, 24, 25, 26, 27, 28, 29, 30, 31, 32, 33, 34, 35, 36, 37, 38, 39, 40, 41, 42] (by decide +kernel) (by decide +kernel)
set_option maxRecDepth 20000 in
theorem gX7_costShareBits_X7_weightSum : GoodIn wsX7_costShareBits (wsV RX7 157 RX7 yX7_weightSum wsX7_weightSum) := goodIn_app (goodIn_of _ (by decide +kernel)) ggX7_costShareBits_X7_weightSum
set_option maxRecDepth 20000 in
theorem ggX7_costShareBits_Jxf58ca_floatToIntBits_5c35a : GoodIn wsX7_costShareBits wsJxf58ca_floatToIntBits_5c35a := goodIn_r _ [15, 16, 17, 18, 19, 20, 21, 22, 14, 23] (by decide +kernel) (by decide +kernel)
set_option maxRecDepth 20000 in
theorem gX7_costShareBits_Jxf58ca_floatToIntBits_5c35a : GoodIn wsX7_costShareBits (va_wsS RX7 161 yJxf58ca_floatToIntBits_5c35a wsJxf58ca_floatToIntBits_5c35a) := goodIn_app (goodIn_of _ (by decide +kernel)) ggX7_costShareBits_Jxf58ca_floatToIntBits_5c35a
theorem dX7_costShareBits_0 : decode cX7_costShareBits 0 = .ok (.aload_n 0, 1) := by decide +kernel
theorem dX7_costShareBits_1 : decode cX7_costShareBits 1 = .ok (.iconst 1, 1) := by decide +kernel
theorem dX7_costShareBits_2 : decode cX7_costShareBits 2 = .ok (.invokevirtual 157, 3) := by decide +kernel
theorem dX7_costShareBits_5 : decode cX7_costShareBits 5 = .ok (.istore_n 1, 1) := by decide +kernel
theorem dX7_costShareBits_6 : decode cX7_costShareBits 6 = .ok (.iload_n 1, 1) := by decide +kernel
theorem dX7_costShareBits_7 : decode cX7_costShareBits 7 = .ok (.ifCond .ne 8, 3) := by decide +kernel
theorem dX7_costShareBits_10 : decode cX7_costShareBits 10 = .ok (.bipush (-104), 2) := by decide +kernel
theorem dX7_costShareBits_12 : decode cX7_costShareBits 12 = .ok (.goto 15, 3) := by decide +kernel
theorem dX7_costShareBits_15 : decode cX7_costShareBits 15 = .ok (.aload_n 0, 1) := by decide +kernel
theorem dX7_costShareBits_16 : decode cX7_costShareBits 16 = .ok (.iconst 0, 1) := by decide +kernel
theorem dX7_costShareBits_17 : decode cX7_costShareBits 17 = .ok (.invokevirtual 157, 3) := by decide +kernel
theorem dX7_costShareBits_20 : decode cX7_costShareBits 20 = .ok (.i2f, 1) := by decide +kernel
theorem dX7_costShareBits_21 : decode cX7_costShareBits 21 = .ok (.iload_n 1, 1) := by decide +kernel
theorem dX7_costShareBits_22 : decode cX7_costShareBits 22 = .ok (.i2f, 1) := by decide +kernel
theorem dX7_costShareBits_23 : decode cX7_costShareBits 23 = .ok (.fdiv, 1) := by decide +kernel
theorem dX7_costShareBits_24 : decode cX7_costShareBits 24 = .ok (.invokestatic 161, 3) := by decide +kernel
theorem dX7_costShareBits_27 : decode cX7_costShareBits 27 = .ok (.ireturn, 1) := by decide +kernel
set_option maxRecDepth 20000 in
theorem ggX7_counter_X7_isEdge : GoodIn wsX7_counter wsX7_isEdge := goodIn_r _ [6, 7, 8, 9, 5, 10, 15, 16, 17, 18, 19, 20, 21, 22, 23, 24, 25, 26, 27, 28, 29, 30, 31, 32, 33] (by decide +kernel) (by decide +kernel)
set_option maxRecDepth 20000 in
theorem gX7_counter_X7_isEdge : GoodIn wsX7_counter (wsV RX7 115 RX7 yX7_isEdge wsX7_isEdge) := goodIn_app (goodIn_of _ (by decide +kernel)) ggX7_counter_X7_isEdge
set_option maxRecDepth 20000 in
theorem ggX7_counter_X7_isTree : GoodIn wsX7_counter wsX7_isTree := goodIn_r _ [14, 1, 15, 16, 17, 18, 19, 20, 21, 22, 23, 24, 25, 26, 27, 28, 29, 30, 31, 32, 33] (by decide +kernel) (by decide +kernel)
set_option maxRecDepth 20000 in
theorem gX7_counter_X7_isTree : GoodIn wsX7_counter (wsV RX7 121 RX7 yX7_isTree wsX7_isTree) := goodIn_app (goodIn_of _ (by decide +kernel)) ggX7_counter_X7_isTree
theorem dX7_counter_0 : decode cX7_counter 0 = .ok (.aload_n 0, 1) := by decide +kernel
theorem dX7_counter_1 : decode cX7_counter 1 = .ok (.iload_n 1, 1) := by decide +kernel
theorem dX7_counter_2 : decode cX7_counter 2 = .ok (.invokevirtual 115, 3) := by decide +kernel
theorem dX7_counter_5 : decode cX7_counter 5 = .ok (.ifCond .ne 8, 3) := by decide +kernel
theorem dX7_counter_8 : decode cX7_counter 8 = .ok (.bipush (-101), 2) := by decide +kernel
theorem dX7_counter_10 : decode cX7_counter 10 = .ok (.goto 25, 3) := by decide +kernel
theorem dX7_counter_13 : decode cX7_counter 13 = .ok (.aload_n 0, 1) := by decide +kernel
theorem dX7_counter_14 : decode cX7_counter 14 = .ok (.iload_n 1, 1) := by decide +kernel
theorem dX7_counter_15 : decode cX7_counter 15 = .ok (.invokevirtual 121, 3) := by decide +kernel
theorem dX7_counter_18 : decode cX7_counter 18 = .ok (.ifCond .eq 8, 3) := by decide +kernel
theorem dX7_counter_21 : decode cX7_counter 21 = .ok (.bipush (-104), 2) := by decide +kernel
theorem dX7_counter_23 : decode cX7_counter 23 = .ok (.goto 12, 3) := by decide +kernel
theorem dX7_counter_26 : decode cX7_counter 26 = .ok (.aload_n 0, 1) := by decide +kernel
theorem dX7_counter_27 : decode cX7_counter 27 = .ok (.getfield 19, 3) := by decide +kernel
theorem dX7_counter_30 : decode cX7_counter 30 = .ok (.bipush 40, 2) := by decide +kernel
theorem dX7_counter_32 : decode cX7_counter 32 = .ok (.iload_n 1, 1) := by decide +kernel
theorem dX7_counter_33 : decode cX7_counter 33 = .ok (.iadd, 1) := by decide +kernel
theorem dX7_counter_34 : decode cX7_counter 34 = .ok (.iaload, 1) := by decide +kernel
theorem dX7_counter_35 : decode cX7_counter 35 = .ok (.ireturn, 1) := by decide +kernel
set_option maxRecDepth 20000 in
theorem ggX7_trueCount_X7_isEdge : GoodIn wsX7_trueCount wsX7_isEdge := goodIn_r _ [6, 7, 8, 9, 5, 10, 11, 12, 13, 14, 15, 16, 17, 18, 19, 20, 21, 22, 23, 24, 25, 26, 27, 28, 29] (by decide +kernel) (by decide +kernel)
set_option maxRecDepth 20000 in
theorem gX7_trueCount_X7_isEdge : GoodIn wsX7_trueCount (wsV RX7 115 RX7 yX7_isEdge wsX7_isEdge) := goodIn_app (goodIn_of _ (by decide +kernel)) ggX7_trueCount_X7_isEdge
theorem dX7_trueCount_0 : decode cX7_trueCount 0 = .ok (.aload_n 0, 1) := by decide +kernel
theorem dX7_trueCount_1 : decode cX7_trueCount 1 = .ok (.iload_n 1, 1) := by decide +kernel
theorem dX7_trueCount_2 : decode cX7_trueCount 2 = .ok (.invokevirtual 115, 3) := by decide +kernel
theorem dX7_trueCount_5 : decode cX7_trueCount 5 = .ok (.ifCond .eq 15, 3) := by decide +kernel
theorem dX7_trueCount_8 : decode cX7_trueCount 8 = .ok (.aload_n 0, 1) := by decide +kernel
theorem dX7_trueCount_9 : decode cX7_trueCount 9 = .ok (.getfield 19, 3) := by decide +kernel
theorem dX7_trueCount_12 : decode cX7_trueCount 12 = .ok (.bipush 60, 2) := by decide +kernel
theorem dX7_trueCount_14 : decode cX7_trueCount 14 = .ok (.iload_n 1, 1) := by decide +kernel
theorem dX7_trueCount_15 : decode cX7_trueCount 15 = .ok (.iadd, 1) := by decide +kernel
theorem dX7_trueCount_16 : decode cX7_trueCount 16 = .ok (.iaload, 1) := by decide +kernel
theorem dX7_trueCount_17 : decode cX7_trueCount 17 = .ok (.goto 5, 3) := by decide +kernel
theorem dX7_trueCount_20 : decode cX7_trueCount 20 = .ok (.bipush (-101), 2) := by decide +kernel
theorem dX7_trueCount_22 : decode cX7_trueCount 22 = .ok (.ireturn, 1) := by decide +kernel
set_option maxRecDepth 20000 in
theorem ggX7_reconstruct_X7_isEdge : GoodIn wsX7_reconstruct wsX7_isEdge := goodIn_r _ [5, 6, 7, 8, 4, 9, 41, 42, 43, 44, 45, 46, 47, 48, 49, 50, 51, 52, 53, 54, 55, 56, 57, 58, 59] (by decide +kernel) (by decide +kernel)
set_option maxRecDepth 20000 in
theorem gX7_reconstruct_X7_isEdge : GoodIn wsX7_reconstruct (wsV RX7 115 RX7 yX7_isEdge wsX7_isEdge) := goodIn_app (goodIn_of _ (by decide +kernel)) ggX7_reconstruct_X7_isEdge
set_option maxRecDepth 20000 in
theorem ggX7_reconstruct_X7_isUncertain : GoodIn wsX7_reconstruct wsX7_isUncertain := goodIn_r _ [13, 6, 14, 15, 16, 4, 17, 18, 19, 20, 21, 22, 23, 24, 25, 26, 27, 28, 29, 30, 31, 32, 33, 34, 35, 36, 41, 42, 43, 44, 45, 46, 47, 48, 49, 50, 51, 52, 53, 54, 55, 56, 57, 58, 59] (by decide +kernel) (by decide +kernel)
set_option maxRecDepth 20000 in
theorem gX7_reconstruct_X7_isUncertain : GoodIn wsX7_reconstruct (wsV RX7 141 RX7 yX7_isUncertain wsX7_isUncertain) := goodIn_app (goodIn_of _ (by decide +kernel)) ggX7_reconstruct_X7_isUncertain
set_option maxRecDepth 20000 in
theorem ggX7_reconstruct_X7_countOf : GoodIn wsX7_reconstruct wsX7_countOf := goodIn_r _ [40, 18, 27, 33, 6, 28, 14, 15, 16, 4, 17, 29, 30, 31, 32, 34, 35, 36, 41, 42, 43, 44, 45, 46, 47, 48, 49, 50, 51, 52, 53, 54, 55, 56, 57, 58, 59] (by decide +kernel) (by decide +kernel)
set_option maxRecDepth 20000 in
theorem gX7_reconstruct_X7_countOf : GoodIn wsX7_reconstruct (wsV RX7 144 RX7 yX7_countOf wsX7_countOf) := goodIn_app (goodIn_of _ (by decide +kernel)) ggX7_reconstruct_X7_countOf
theorem dX7_reconstruct_0 : decode cX7_reconstruct 0 = .ok (.aload_n 0, 1) := by decide +kernel
theorem dX7_reconstruct_1 : decode cX7_reconstruct 1 = .ok (.iload_n 1, 1) := by decide +kernel
theorem dX7_reconstruct_2 : decode cX7_reconstruct 2 = .ok (.invokevirtual 115, 3) := by decide +kernel
theorem dX7_reconstruct_5 : decode cX7_reconstruct 5 = .ok (.ifCond .ne 8, 3) := by decide +kernel
theorem dX7_reconstruct_8 : decode cX7_reconstruct 8 = .ok (.bipush (-101), 2) := by decide +kernel
theorem dX7_reconstruct_10 : decode cX7_reconstruct 10 = .ok (.goto 21, 3) := by decide +kernel
theorem dX7_reconstruct_13 : decode cX7_reconstruct 13 = .ok (.aload_n 0, 1) := by decide +kernel
theorem dX7_reconstruct_14 : decode cX7_reconstruct 14 = .ok (.iload_n 1, 1) := by decide +kernel
theorem dX7_reconstruct_15 : decode cX7_reconstruct 15 = .ok (.invokevirtual 141, 3) := by decide +kernel
theorem dX7_reconstruct_18 : decode cX7_reconstruct 18 = .ok (.ifCond .eq 8, 3) := by decide +kernel
theorem dX7_reconstruct_21 : decode cX7_reconstruct 21 = .ok (.bipush (-105), 2) := by decide +kernel
theorem dX7_reconstruct_23 : decode cX7_reconstruct 23 = .ok (.goto 8, 3) := by decide +kernel
theorem dX7_reconstruct_26 : decode cX7_reconstruct 26 = .ok (.aload_n 0, 1) := by decide +kernel
theorem dX7_reconstruct_27 : decode cX7_reconstruct 27 = .ok (.iload_n 1, 1) := by decide +kernel
theorem dX7_reconstruct_28 : decode cX7_reconstruct 28 = .ok (.invokevirtual 144, 3) := by decide +kernel
theorem dX7_reconstruct_31 : decode cX7_reconstruct 31 = .ok (.ireturn, 1) := by decide +kernel
set_option maxRecDepth 20000 in
theorem ggX7_coefficient_X7_isEdge : GoodIn wsX7_coefficient wsX7_isEdge := goodIn_r _ [5, 6, 7, 8, 4, 9, 29, 30, 31, 32, 33, 34, 35, 36, 37, 38, 39, 40, 41, 42, 43, 44, 45, 46, 47] (by decide +kernel) (by decide +kernel)
set_option maxRecDepth 20000 in
theorem gX7_coefficient_X7_isEdge : GoodIn wsX7_coefficient (wsV RX7 115 RX7 yX7_isEdge wsX7_isEdge) := goodIn_app (goodIn_of _ (by decide +kernel)) ggX7_coefficient_X7_isEdge
set_option maxRecDepth 20000 in
theorem ggX7_coefficient_X7_isTree : GoodIn wsX7_coefficient wsX7_isTree := goodIn_r _ [13, 14, 29, 30, 31, 32, 33, 34, 35, 36, 37, 38, 39, 40, 41, 42, 43, 44, 45, 46, 47] (by decide +kernel) (by decide +kernel)
set_option maxRecDepth 20000 in
theorem gX7_coefficient_X7_isTree : GoodIn wsX7_coefficient (wsV RX7 121 RX7 yX7_isTree wsX7_isTree) := goodIn_app (goodIn_of _ (by decide +kernel)) ggX7_coefficient_X7_isTree
set_option maxRecDepth 20000 in
theorem ggX7_coefficient_X7_factorOf : GoodIn wsX7_coefficient wsX7_factorOf := goodIn_r _ [18, 19, 20, 21, 22, 23, 4, 24, 25, 6, 14, 26, 27, 28, 29, 30, 31, 32, 33, 34, 35, 36, 37, 38, 39, 40, 41, 42, 43, 44, 45, 46, 47] (by decide +kernel) (by decide +kernel)
set_option maxRecDepth 20000 in
theorem gX7_coefficient_X7_factorOf : GoodIn wsX7_coefficient (wsV RX7 154 RX7 yX7_factorOf wsX7_factorOf) := goodIn_app (goodIn_of _ (by decide +kernel)) ggX7_coefficient_X7_factorOf
theorem dX7_coefficient_0 : decode cX7_coefficient 0 = .ok (.aload_n 0, 1) := by decide +kernel
theorem dX7_coefficient_1 : decode cX7_coefficient 1 = .ok (.iload_n 1, 1) := by decide +kernel
theorem dX7_coefficient_2 : decode cX7_coefficient 2 = .ok (.invokevirtual 115, 3) := by decide +kernel
theorem dX7_coefficient_5 : decode cX7_coefficient 5 = .ok (.ifCond .eq 11, 3) := by decide +kernel
theorem dX7_coefficient_8 : decode cX7_coefficient 8 = .ok (.aload_n 0, 1) := by decide +kernel
theorem dX7_coefficient_9 : decode cX7_coefficient 9 = .ok (.iload_n 2, 1) := by decide +kernel
theorem dX7_coefficient_10 : decode cX7_coefficient 10 = .ok (.invokevirtual 115, 3) := by decide +kernel
theorem dX7_coefficient_13 : decode cX7_coefficient 13 = .ok (.ifCond .ne 6, 3) := by decide +kernel
theorem dX7_coefficient_16 : decode cX7_coefficient 16 = .ok (.bipush (-101), 2) := by decide +kernel
theorem dX7_coefficient_18 : decode cX7_coefficient 18 = .ok (.ireturn, 1) := by decide +kernel
theorem dX7_coefficient_19 : decode cX7_coefficient 19 = .ok (.aload_n 0, 1) := by decide +kernel
theorem dX7_coefficient_20 : decode cX7_coefficient 20 = .ok (.iload_n 1, 1) := by decide +kernel
theorem dX7_coefficient_21 : decode cX7_coefficient 21 = .ok (.invokevirtual 121, 3) := by decide +kernel
theorem dX7_coefficient_24 : decode cX7_coefficient 24 = .ok (.ifCond .eq 11, 3) := by decide +kernel
theorem dX7_coefficient_27 : decode cX7_coefficient 27 = .ok (.aload_n 0, 1) := by decide +kernel
theorem dX7_coefficient_28 : decode cX7_coefficient 28 = .ok (.iload_n 2, 1) := by decide +kernel
theorem dX7_coefficient_29 : decode cX7_coefficient 29 = .ok (.invokevirtual 121, 3) := by decide +kernel
theorem dX7_coefficient_32 : decode cX7_coefficient 32 = .ok (.ifCond .eq 8, 3) := by decide +kernel
theorem dX7_coefficient_35 : decode cX7_coefficient 35 = .ok (.bipush (-104), 2) := by decide +kernel
theorem dX7_coefficient_37 : decode cX7_coefficient 37 = .ok (.goto 9, 3) := by decide +kernel
theorem dX7_coefficient_40 : decode cX7_coefficient 40 = .ok (.aload_n 0, 1) := by decide +kernel
theorem dX7_coefficient_41 : decode cX7_coefficient 41 = .ok (.iload_n 1, 1) := by decide +kernel
theorem dX7_coefficient_42 : decode cX7_coefficient 42 = .ok (.iload_n 2, 1) := by decide +kernel
theorem dX7_coefficient_43 : decode cX7_coefficient 43 = .ok (.invokevirtual 154, 3) := by decide +kernel
theorem dX7_coefficient_46 : decode cX7_coefficient 46 = .ok (.ireturn, 1) := by decide +kernel
set_option maxRecDepth 20000 in
theorem ggX7_executions_X7_in : GoodIn wsX7_executions wsX7_in := goodIn_r _ [8] (by decide +kernel) (by decide +kernel)
set_option maxRecDepth 20000 in
theorem gX7_executions_X7_in : GoodIn wsX7_executions (va_wsS RX7 60 yX7_in wsX7_in) := goodIn_app (goodIn_of _ (by decide +kernel)) ggX7_executions_X7_in
set_option maxRecDepth 20000 in
theorem ggX7_executions_X7_isUncertain : GoodIn wsX7_executions wsX7_isUncertain := goodIn_r _ [12, 3, 13, 14, 15, 7, 16, 2, 17, 18, 19, 20, 21, 22, 23, 24, 4, 25, 26, 27, 28, 29, 1, 30, 31, 32, 37, 38, 39, 40, 41, 42, 43, 44, 45, 46, 47, 48, 49, 50, 51, 52, 53, 54, 55] (by decide +kernel) (by decide +kernel)
set_option maxRecDepth 20000 in
theorem gX7_executions_X7_isUncertain : GoodIn wsX7_executions (wsV RX7 141 RX7 yX7_isUncertain wsX7_isUncertain) := goodIn_app (goodIn_of _ (by decide +kernel)) ggX7_executions_X7_isUncertain
set_option maxRecDepth 20000 in
theorem ggX7_executions_X7_countOf : GoodIn wsX7_executions wsX7_countOf := goodIn_r _ [36, 2, 4, 1, 3, 25, 13, 14, 15, 7, 16, 26, 27, 28, 29, 30, 31, 32, 37, 38, 39, 40, 41, 42, 43, 44, 45, 46, 47, 48, 49, 50, 51, 52, 53, 54, 55] (by decide +kernel) (by decide +kernel)
set_option maxRecDepth 20000 in
theorem gX7_executions_X7_countOf : GoodIn wsX7_executions (wsV RX7 144 RX7 yX7_countOf wsX7_countOf) := goodIn_app (goodIn_of _ (by decide +kernel)) ggX7_executions_X7_countOf
theorem dX7_executions_0 : decode cX7_executions 0 = .ok (.iload_n 1, 1) := by decide +kernel
theorem dX7_executions_1 : decode cX7_executions 1 = .ok (.iconst 0, 1) := by decide +kernel
theorem dX7_executions_2 : decode cX7_executions 2 = .ok (.aload_n 0, 1) := by decide +kernel
theorem dX7_executions_3 : decode cX7_executions 3 = .ok (.getfield 92, 3) := by decide +kernel
theorem dX7_executions_6 : decode cX7_executions 6 = .ok (.iconst 1, 1) := by decide +kernel
theorem dX7_executions_7 : decode cX7_executions 7 = .ok (.isub, 1) := by decide +kernel
theorem dX7_executions_8 : decode cX7_executions 8 = .ok (.invokestatic 60, 3) := by decide +kernel
theorem dX7_executions_11 : decode cX7_executions 11 = .ok (.ifCond .ne 6, 3) := by decide +kernel
theorem dX7_executions_14 : decode cX7_executions 14 = .ok (.bipush (-101), 2) := by decide +kernel
theorem dX7_executions_16 : decode cX7_executions 16 = .ok (.ireturn, 1) := by decide +kernel
theorem dX7_executions_17 : decode cX7_executions 17 = .ok (.iload_n 1, 1) := by decide +kernel
theorem dX7_executions_18 : decode cX7_executions 18 = .ok (.ifCond .ne 27, 3) := by decide +kernel
theorem dX7_executions_21 : decode cX7_executions 21 = .ok (.aload_n 0, 1) := by decide +kernel
theorem dX7_executions_22 : decode cX7_executions 22 = .ok (.getfield 19, 3) := by decide +kernel
theorem dX7_executions_25 : decode cX7_executions 25 = .ok (.bipush 81, 2) := by decide +kernel
theorem dX7_executions_27 : decode cX7_executions 27 = .ok (.iaload, 1) := by decide +kernel
theorem dX7_executions_28 : decode cX7_executions 28 = .ok (.aload_n 0, 1) := by decide +kernel
theorem dX7_executions_29 : decode cX7_executions 29 = .ok (.getfield 19, 3) := by decide +kernel
theorem dX7_executions_32 : decode cX7_executions 32 = .ok (.bipush 82, 2) := by decide +kernel
theorem dX7_executions_34 : decode cX7_executions 34 = .ok (.iaload, 1) := by decide +kernel
theorem dX7_executions_35 : decode cX7_executions 35 = .ok (.ifCond .ne 7, 3) := by decide +kernel
theorem dX7_executions_38 : decode cX7_executions 38 = .ok (.iconst 0, 1) := by decide +kernel
theorem dX7_executions_39 : decode cX7_executions 39 = .ok (.goto 4, 3) := by decide +kernel
theorem dX7_executions_42 : decode cX7_executions 42 = .ok (.iconst 1, 1) := by decide +kernel
theorem dX7_executions_43 : decode cX7_executions 43 = .ok (.iadd, 1) := by decide +kernel
theorem dX7_executions_44 : decode cX7_executions 44 = .ok (.ireturn, 1) := by decide +kernel
theorem dX7_executions_45 : decode cX7_executions 45 = .ok (.iconst 0, 1) := by decide +kernel
theorem dX7_executions_46 : decode cX7_executions 46 = .ok (.istore_n 2, 1) := by decide +kernel
theorem dX7_executions_47 : decode cX7_executions 47 = .ok (.iconst 0, 1) := by decide +kernel
theorem dX7_executions_48 : decode cX7_executions 48 = .ok (.istore_n 3, 1) := by decide +kernel
theorem dX7_executions_49 : decode cX7_executions 49 = .ok (.iconst 0, 1) := by decide +kernel
theorem dX7_executions_50 : decode cX7_executions 50 = .ok (.istore 4, 2) := by decide +kernel
theorem dX7_executions_52 : decode cX7_executions 52 = .ok (.iload 4, 2) := by decide +kernel
theorem dX7_executions_54 : decode cX7_executions 54 = .ok (.aload_n 0, 1) := by decide +kernel
theorem dX7_executions_55 : decode cX7_executions 55 = .ok (.getfield 95, 3) := by decide +kernel
theorem dX7_executions_58 : decode cX7_executions 58 = .ok (.if_icmp .ge 48, 3) := by decide +kernel
theorem dX7_executions_61 : decode cX7_executions 61 = .ok (.aload_n 0, 1) := by decide +kernel
theorem dX7_executions_62 : decode cX7_executions 62 = .ok (.getfield 16, 3) := by decide +kernel
theorem dX7_executions_65 : decode cX7_executions 65 = .ok (.iload 4, 2) := by decide +kernel
theorem dX7_executions_67 : decode cX7_executions 67 = .ok (.iaload, 1) := by decide +kernel
theorem dX7_executions_68 : decode cX7_executions 68 = .ok (.iload_n 1, 1) := by decide +kernel
theorem dX7_executions_69 : decode cX7_executions 69 = .ok (.if_icmp .ne 31, 3) := by decide +kernel
theorem dX7_executions_72 : decode cX7_executions 72 = .ok (.iload_n 3, 1) := by decide +kernel
theorem dX7_executions_73 : decode cX7_executions 73 = .ok (.ifCond .ne 12, 3) := by decide +kernel
theorem dX7_executions_76 : decode cX7_executions 76 = .ok (.aload_n 0, 1) := by decide +kernel
theorem dX7_executions_77 : decode cX7_executions 77 = .ok (.iload 4, 2) := by decide +kernel
theorem dX7_executions_79 : decode cX7_executions 79 = .ok (.invokevirtual 141, 3) := by decide +kernel
theorem dX7_executions_82 : decode cX7_executions 82 = .ok (.ifCond .eq 7, 3) := by decide +kernel
theorem dX7_executions_85 : decode cX7_executions 85 = .ok (.iconst 1, 1) := by decide +kernel
theorem dX7_executions_86 : decode cX7_executions 86 = .ok (.goto 4, 3) := by decide +kernel
theorem dX7_executions_89 : decode cX7_executions 89 = .ok (.iconst 0, 1) := by decide +kernel
theorem dX7_executions_90 : decode cX7_executions 90 = .ok (.istore_n 3, 1) := by decide +kernel
theorem dX7_executions_91 : decode cX7_executions 91 = .ok (.iload_n 2, 1) := by decide +kernel
theorem dX7_executions_92 : decode cX7_executions 92 = .ok (.aload_n 0, 1) := by decide +kernel
theorem dX7_executions_93 : decode cX7_executions 93 = .ok (.iload 4, 2) := by decide +kernel
theorem dX7_executions_95 : decode cX7_executions 95 = .ok (.invokevirtual 144, 3) := by decide +kernel
theorem dX7_executions_98 : decode cX7_executions 98 = .ok (.iadd, 1) := by decide +kernel
theorem dX7_executions_99 : decode cX7_executions 99 = .ok (.istore_n 2, 1) := by decide +kernel
theorem dX7_executions_100 : decode cX7_executions 100 = .ok (.iinc 4 1, 3) := by decide +kernel
theorem dX7_executions_103 : decode cX7_executions 103 = .ok (.goto (-51), 3) := by decide +kernel
theorem dX7_executions_106 : decode cX7_executions 106 = .ok (.iload_n 3, 1) := by decide +kernel
theorem dX7_executions_107 : decode cX7_executions 107 = .ok (.ifCond .eq 8, 3) := by decide +kernel
theorem dX7_executions_110 : decode cX7_executions 110 = .ok (.bipush (-105), 2) := by decide +kernel
theorem dX7_executions_112 : decode cX7_executions 112 = .ok (.goto 4, 3) := by decide +kernel
theorem dX7_executions_115 : decode cX7_executions 115 = .ok (.iload_n 2, 1) := by decide +kernel
theorem dX7_executions_116 : decode cX7_executions 116 = .ok (.ireturn, 1) := by decide +kernel
set_option maxRecDepth 20000 in
theorem ggX7_dependents_X7_isEdge : GoodIn wsX7_dependents wsX7_isEdge := goodIn_r _ [6, 1, 7, 8, 5, 9, 29, 30, 31, 32, 33, 34, 35, 36, 37, 38, 39, 40, 41, 42, 43, 44, 45, 46, 47] (by decide +kernel) (by decide +kernel)
set_option maxRecDepth 20000 in
theorem gX7_dependents_X7_isEdge : GoodIn wsX7_dependents (wsV RX7 115 RX7 yX7_isEdge wsX7_isEdge) := goodIn_app (goodIn_of _ (by decide +kernel)) ggX7_dependents_X7_isEdge
set_option maxRecDepth 20000 in
theorem ggX7_dependents_X7_isTree : GoodIn wsX7_dependents wsX7_isTree := goodIn_r _ [13, 14, 29, 30, 31, 32, 33, 34, 35, 36, 37, 38, 39, 40, 41, 42, 43, 44, 45, 46, 47] (by decide +kernel) (by decide +kernel)
set_option maxRecDepth 20000 in
theorem gX7_dependents_X7_isTree : GoodIn wsX7_dependents (wsV RX7 121 RX7 yX7_isTree wsX7_isTree) := goodIn_app (goodIn_of _ (by decide +kernel)) ggX7_dependents_X7_isTree
set_option maxRecDepth 20000 in
theorem ggX7_dependents_X7_factorOf : GoodIn wsX7_dependents wsX7_factorOf := goodIn_r _ [18, 19, 20, 21, 22, 23, 5, 24, 25, 1, 14, 26, 27, 28, 29, 30, 31, 32, 33, 34, 35, 36, 37, 38, 39, 40, 41, 42, 43, 44, 45, 46, 47] (by decide +kernel) (by decide +kernel)
set_option maxRecDepth 20000 in
theorem gX7_dependents_X7_factorOf : GoodIn wsX7_dependents (wsV RX7 154 RX7 yX7_factorOf wsX7_factorOf) := goodIn_app (goodIn_of _ (by decide +kernel)) ggX7_dependents_X7_factorOf
theorem dX7_dependents_0 : decode cX7_dependents 0 = .ok (.aload_n 0, 1) := by decide +kernel
theorem dX7_dependents_1 : decode cX7_dependents 1 = .ok (.iload_n 1, 1) := by decide +kernel
theorem dX7_dependents_2 : decode cX7_dependents 2 = .ok (.invokevirtual 115, 3) := by decide +kernel
theorem dX7_dependents_5 : decode cX7_dependents 5 = .ok (.ifCond .ne 6, 3) := by decide +kernel
theorem dX7_dependents_8 : decode cX7_dependents 8 = .ok (.bipush (-101), 2) := by decide +kernel
theorem dX7_dependents_10 : decode cX7_dependents 10 = .ok (.ireturn, 1) := by decide +kernel
theorem dX7_dependents_11 : decode cX7_dependents 11 = .ok (.aload_n 0, 1) := by decide +kernel
theorem dX7_dependents_12 : decode cX7_dependents 12 = .ok (.iload_n 1, 1) := by decide +kernel
theorem dX7_dependents_13 : decode cX7_dependents 13 = .ok (.invokevirtual 121, 3) := by decide +kernel
theorem dX7_dependents_16 : decode cX7_dependents 16 = .ok (.ifCond .eq 6, 3) := by decide +kernel
theorem dX7_dependents_19 : decode cX7_dependents 19 = .ok (.bipush (-104), 2) := by decide +kernel
theorem dX7_dependents_21 : decode cX7_dependents 21 = .ok (.ireturn, 1) := by decide +kernel
theorem dX7_dependents_22 : decode cX7_dependents 22 = .ok (.iconst 1, 1) := by decide +kernel
theorem dX7_dependents_23 : decode cX7_dependents 23 = .ok (.istore_n 2, 1) := by decide +kernel
theorem dX7_dependents_24 : decode cX7_dependents 24 = .ok (.iconst 0, 1) := by decide +kernel
theorem dX7_dependents_25 : decode cX7_dependents 25 = .ok (.istore_n 3, 1) := by decide +kernel
theorem dX7_dependents_26 : decode cX7_dependents 26 = .ok (.iload_n 3, 1) := by decide +kernel
theorem dX7_dependents_27 : decode cX7_dependents 27 = .ok (.aload_n 0, 1) := by decide +kernel
theorem dX7_dependents_28 : decode cX7_dependents 28 = .ok (.getfield 95, 3) := by decide +kernel
theorem dX7_dependents_31 : decode cX7_dependents 31 = .ok (.if_icmp .ge 34, 3) := by decide +kernel
theorem dX7_dependents_34 : decode cX7_dependents 34 = .ok (.iload_n 2, 1) := by decide +kernel
theorem dX7_dependents_35 : decode cX7_dependents 35 = .ok (.aload_n 0, 1) := by decide +kernel
theorem dX7_dependents_36 : decode cX7_dependents 36 = .ok (.iload_n 3, 1) := by decide +kernel
theorem dX7_dependents_37 : decode cX7_dependents 37 = .ok (.invokevirtual 121, 3) := by decide +kernel
theorem dX7_dependents_40 : decode cX7_dependents 40 = .ok (.ifCond .eq 16, 3) := by decide +kernel
theorem dX7_dependents_43 : decode cX7_dependents 43 = .ok (.aload_n 0, 1) := by decide +kernel
theorem dX7_dependents_44 : decode cX7_dependents 44 = .ok (.iload_n 3, 1) := by decide +kernel
theorem dX7_dependents_45 : decode cX7_dependents 45 = .ok (.iload_n 1, 1) := by decide +kernel
theorem dX7_dependents_46 : decode cX7_dependents 46 = .ok (.invokevirtual 154, 3) := by decide +kernel
theorem dX7_dependents_49 : decode cX7_dependents 49 = .ok (.ifCond .eq 7, 3) := by decide +kernel
theorem dX7_dependents_52 : decode cX7_dependents 52 = .ok (.iconst 1, 1) := by decide +kernel
theorem dX7_dependents_53 : decode cX7_dependents 53 = .ok (.goto 4, 3) := by decide +kernel
theorem dX7_dependents_56 : decode cX7_dependents 56 = .ok (.iconst 0, 1) := by decide +kernel
theorem dX7_dependents_57 : decode cX7_dependents 57 = .ok (.iadd, 1) := by decide +kernel
theorem dX7_dependents_58 : decode cX7_dependents 58 = .ok (.istore_n 2, 1) := by decide +kernel
theorem dX7_dependents_59 : decode cX7_dependents 59 = .ok (.iinc 3 1, 3) := by decide +kernel
theorem dX7_dependents_62 : decode cX7_dependents 62 = .ok (.goto (-36), 3) := by decide +kernel
theorem dX7_dependents_65 : decode cX7_dependents 65 = .ok (.iload_n 2, 1) := by decide +kernel
theorem dX7_dependents_66 : decode cX7_dependents 66 = .ok (.ireturn, 1) := by decide +kernel
set_option maxRecDepth 20000 in
theorem ggX7_saturatedCount_X7_isSaturated : GoodIn wsX7_saturatedCount wsX7_isSaturated := goodIn_r _ [6, 7, 8, 9, 10, 5, 11, 12, 13, 14, 15, 16, 17, 18, 19, 20, 21, 22, 23, 24, 25, 26, 27, 28, 29, 30] (by decide +kernel) (by decide +kernel)
set_option maxRecDepth 20000 in
theorem gX7_saturatedCount_X7_isSaturated : GoodIn wsX7_saturatedCount (wsV RX7 151 RX7 yX7_isSaturated wsX7_isSaturated) := goodIn_app (goodIn_of _ (by decide +kernel)) ggX7_saturatedCount_X7_isSaturated
theorem dX7_saturatedCount_0 : decode cX7_saturatedCount 0 = .ok (.iconst 0, 1) := by decide +kernel
theorem dX7_saturatedCount_1 : decode cX7_saturatedCount 1 = .ok (.istore_n 1, 1) := by decide +kernel
theorem dX7_saturatedCount_2 : decode cX7_saturatedCount 2 = .ok (.iconst 0, 1) := by decide +kernel
theorem dX7_saturatedCount_3 : decode cX7_saturatedCount 3 = .ok (.istore_n 2, 1) := by decide +kernel
theorem dX7_saturatedCount_4 : decode cX7_saturatedCount 4 = .ok (.iload_n 2, 1) := by decide +kernel
theorem dX7_saturatedCount_5 : decode cX7_saturatedCount 5 = .ok (.aload_n 0, 1) := by decide +kernel
theorem dX7_saturatedCount_6 : decode cX7_saturatedCount 6 = .ok (.getfield 95, 3) := by decide +kernel
theorem dX7_saturatedCount_9 : decode cX7_saturatedCount 9 = .ok (.if_icmp .ge 25, 3) := by decide +kernel
theorem dX7_saturatedCount_12 : decode cX7_saturatedCount 12 = .ok (.iload_n 1, 1) := by decide +kernel
theorem dX7_saturatedCount_13 : decode cX7_saturatedCount 13 = .ok (.aload_n 0, 1) := by decide +kernel
theorem dX7_saturatedCount_14 : decode cX7_saturatedCount 14 = .ok (.iload_n 2, 1) := by decide +kernel
theorem dX7_saturatedCount_15 : decode cX7_saturatedCount 15 = .ok (.invokevirtual 151, 3) := by decide +kernel
theorem dX7_saturatedCount_18 : decode cX7_saturatedCount 18 = .ok (.ifCond .eq 7, 3) := by decide +kernel
theorem dX7_saturatedCount_21 : decode cX7_saturatedCount 21 = .ok (.iconst 1, 1) := by decide +kernel
theorem dX7_saturatedCount_22 : decode cX7_saturatedCount 22 = .ok (.goto 4, 3) := by decide +kernel
theorem dX7_saturatedCount_25 : decode cX7_saturatedCount 25 = .ok (.iconst 0, 1) := by decide +kernel
theorem dX7_saturatedCount_26 : decode cX7_saturatedCount 26 = .ok (.iadd, 1) := by decide +kernel
theorem dX7_saturatedCount_27 : decode cX7_saturatedCount 27 = .ok (.istore_n 1, 1) := by decide +kernel
theorem dX7_saturatedCount_28 : decode cX7_saturatedCount 28 = .ok (.iinc 2 1, 3) := by decide +kernel
theorem dX7_saturatedCount_31 : decode cX7_saturatedCount 31 = .ok (.goto (-27), 3) := by decide +kernel
theorem dX7_saturatedCount_34 : decode cX7_saturatedCount 34 = .ok (.iload_n 1, 1) := by decide +kernel
theorem dX7_saturatedCount_35 : decode cX7_saturatedCount 35 = .ok (.ireturn, 1) := by decide +kernel
theorem dX7_presentBlock_0 : decode cX7_presentBlock 0 = .ok (.aload_n 0, 1) := by decide +kernel
theorem dX7_presentBlock_1 : decode cX7_presentBlock 1 = .ok (.getfield 19, 3) := by decide +kernel
theorem dX7_presentBlock_4 : decode cX7_presentBlock 4 = .ok (.bipush 82, 2) := by decide +kernel
theorem dX7_presentBlock_6 : decode cX7_presentBlock 6 = .ok (.iaload, 1) := by decide +kernel
theorem dX7_presentBlock_7 : decode cX7_presentBlock 7 = .ok (.ireturn, 1) := by decide +kernel
theorem dX7_finishedRuns_0 : decode cX7_finishedRuns 0 = .ok (.aload_n 0, 1) := by decide +kernel
theorem dX7_finishedRuns_1 : decode cX7_finishedRuns 1 = .ok (.getfield 19, 3) := by decide +kernel
theorem dX7_finishedRuns_4 : decode cX7_finishedRuns 4 = .ok (.bipush 81, 2) := by decide +kernel
theorem dX7_finishedRuns_6 : decode cX7_finishedRuns 6 = .ok (.iaload, 1) := by decide +kernel
theorem dX7_finishedRuns_7 : decode cX7_finishedRuns 7 = .ok (.ireturn, 1) := by decide +kernel
theorem dJxf58ca_isNaN_12338_0 : decode cJxf58ca_isNaN_12338 0 = .ok (.fload_n 0, 1) := by decide +kernel
theorem dJxf58ca_isNaN_12338_1 : decode cJxf58ca_isNaN_12338 1 = .ok (.fload_n 0, 1) := by decide +kernel
theorem dJxf58ca_isNaN_12338_2 : decode cJxf58ca_isNaN_12338 2 = .ok (.fcmp .l, 1) := by decide +kernel
theorem dJxf58ca_isNaN_12338_3 : decode cJxf58ca_isNaN_12338 3 = .ok (.ifCond .eq 7, 3) := by decide +kernel
theorem dJxf58ca_isNaN_12338_6 : decode cJxf58ca_isNaN_12338 6 = .ok (.iconst 1, 1) := by decide +kernel
theorem dJxf58ca_isNaN_12338_7 : decode cJxf58ca_isNaN_12338 7 = .ok (.goto 4, 3) := by decide +kernel
theorem dJxf58ca_isNaN_12338_10 : decode cJxf58ca_isNaN_12338 10 = .ok (.iconst 0, 1) := by decide +kernel
theorem dJxf58ca_isNaN_12338_11 : decode cJxf58ca_isNaN_12338 11 = .ok (.ireturn, 1) := by decide +kernel
set_option maxRecDepth 20000 in
theorem ggJxf58ca_floatToIntBits_5c35a_Jxf58ca_isNaN_12338 : GoodIn wsJxf58ca_floatToIntBits_5c35a wsJxf58ca_isNaN_12338 := goodIn_r _ [9] (by decide +kernel) (by decide +kernel)
set_option maxRecDepth 20000 in
theorem gJxf58ca_floatToIntBits_5c35a_Jxf58ca_isNaN_12338 : GoodIn wsJxf58ca_floatToIntBits_5c35a (va_wsS RJxf58ca 59 yJxf58ca_isNaN_12338 wsJxf58ca_isNaN_12338) := goodIn_app (goodIn_of _ (by decide +kernel)) ggJxf58ca_floatToIntBits_5c35a_Jxf58ca_isNaN_12338
theorem dJxf58ca_floatToIntBits_5c35a_0 : decode cJxf58ca_floatToIntBits_5c35a 0 = .ok (.fload_n 0, 1) := by decide +kernel
theorem dJxf58ca_floatToIntBits_5c35a_1 : decode cJxf58ca_floatToIntBits_5c35a 1 = .ok (.invokestatic 59, 3) := by decide +kernel
theorem dJxf58ca_floatToIntBits_5c35a_4 : decode cJxf58ca_floatToIntBits_5c35a 4 = .ok (.ifCond .ne 8, 3) := by decide +kernel
theorem dJxf58ca_floatToIntBits_5c35a_7 : decode cJxf58ca_floatToIntBits_5c35a 7 = .ok (.fload_n 0, 1) := by decide +kernel
theorem dJxf58ca_floatToIntBits_5c35a_8 : decode cJxf58ca_floatToIntBits_5c35a 8 = .ok (.invokestatic 74, 3) := by decide +kernel
theorem dJxf58ca_floatToIntBits_5c35a_11 : decode cJxf58ca_floatToIntBits_5c35a 11 = .ok (.ireturn, 1) := by decide +kernel
theorem dJxf58ca_floatToIntBits_5c35a_12 : decode cJxf58ca_floatToIntBits_5c35a 12 = .ok (.ldc 77, 2) := by decide +kernel
theorem dJxf58ca_floatToIntBits_5c35a_14 : decode cJxf58ca_floatToIntBits_5c35a 14 = .ok (.ireturn, 1) := by decide +kernel
theorem dJ9_min_7cf53_0 : decode cJ9_min_7cf53 0 = .ok (.iload_n 0, 1) := by decide +kernel
theorem dJ9_min_7cf53_1 : decode cJ9_min_7cf53 1 = .ok (.iload_n 1, 1) := by decide +kernel
theorem dJ9_min_7cf53_2 : decode cJ9_min_7cf53 2 = .ok (.if_icmp .gt 7, 3) := by decide +kernel
theorem dJ9_min_7cf53_5 : decode cJ9_min_7cf53 5 = .ok (.iload_n 0, 1) := by decide +kernel
theorem dJ9_min_7cf53_6 : decode cJ9_min_7cf53 6 = .ok (.goto 4, 3) := by decide +kernel
theorem dJ9_min_7cf53_9 : decode cJ9_min_7cf53 9 = .ok (.iload_n 1, 1) := by decide +kernel
theorem dJ9_min_7cf53_10 : decode cJ9_min_7cf53 10 = .ok (.ireturn, 1) := by decide +kernel
set_option maxRecDepth 20000 in
theorem ggJ0_length_8abf5_J0_coder_7d493 : GoodIn wsJ0_length_8abf5 wsJ0_coder_7d493 := goodIn_r _ [6, 7, 8] (by decide +kernel) (by decide +kernel)
set_option maxRecDepth 20000 in
theorem gJ0_length_8abf5_J0_coder_7d493 : GoodIn wsJ0_length_8abf5 (wsV RJ0 335 RJ0 yJ0_coder_7d493 wsJ0_coder_7d493) := goodIn_app (goodIn_of _ (by decide +kernel)) ggJ0_length_8abf5_J0_coder_7d493
theorem dJ0_length_8abf5_0 : decode cJ0_length_8abf5 0 = .ok (.aload_n 0, 1) := by decide +kernel
theorem dJ0_length_8abf5_1 : decode cJ0_length_8abf5 1 = .ok (.getfield 9, 3) := by decide +kernel
theorem dJ0_length_8abf5_4 : decode cJ0_length_8abf5 4 = .ok (.arraylength, 1) := by decide +kernel
theorem dJ0_length_8abf5_5 : decode cJ0_length_8abf5 5 = .ok (.aload_n 0, 1) := by decide +kernel
theorem dJ0_length_8abf5_6 : decode cJ0_length_8abf5 6 = .ok (.invokevirtual 335, 3) := by decide +kernel
theorem dJ0_length_8abf5_9 : decode cJ0_length_8abf5 9 = .ok (.ishr, 1) := by decide +kernel
theorem dJ0_length_8abf5_10 : decode cJ0_length_8abf5 10 = .ok (.ireturn, 1) := by decide +kernel
set_option maxRecDepth 20000 in
theorem ggJ0_charAt_5068e_J0_isLatin1_aae02 : GoodIn wsJ0_charAt_5068e wsJ0_isLatin1_aae02 := goodIn_r _ [6, 7, 8] (by decide +kernel) (by decide +kernel)
set_option maxRecDepth 20000 in
theorem gJ0_charAt_5068e_J0_isLatin1_aae02 : GoodIn wsJ0_charAt_5068e (wsV RJ0 492 RJ0 yJ0_isLatin1_aae02 wsJ0_isLatin1_aae02) := goodIn_app (goodIn_of _ (by decide +kernel)) ggJ0_charAt_5068e_J0_isLatin1_aae02
set_option maxRecDepth 20000 in
theorem ggJ0_charAt_5068e_J1_charAt_3b067 : GoodIn wsJ0_charAt_5068e wsJ1_charAt_3b067 := goodIn_r _ [12, 13, 14, 5, 15, 16, 17, 18, 19, 20] (by decide +kernel) (by decide +kernel)
set_option maxRecDepth 20000 in
theorem gJ0_charAt_5068e_J1_charAt_3b067 : GoodIn wsJ0_charAt_5068e (va_wsS RJ0 495 yJ1_charAt_3b067 wsJ1_charAt_3b067) := goodIn_app (goodIn_of _ (by decide +kernel)) ggJ0_charAt_5068e_J1_charAt_3b067
set_option maxRecDepth 20000 in
theorem ggJ0_charAt_5068e_J2_charAt_3b067 : GoodIn wsJ0_charAt_5068e wsJ2_charAt_3b067 := goodIn_r _ [24, 25, 26, 23, 27, 28, 29, 30, 31, 14, 5, 15, 16, 17, 18, 19, 20, 32, 33, 34, 35, 36, 37] (by decide +kernel) (by decide +kernel)
set_option maxRecDepth 20000 in
theorem gJ0_charAt_5068e_J2_charAt_3b067 : GoodIn wsJ0_charAt_5068e (va_wsS RJ0 498 yJ2_charAt_3b067 wsJ2_charAt_3b067) := goodIn_app (goodIn_of _ (by decide +kernel)) ggJ0_charAt_5068e_J2_charAt_3b067
theorem dJ0_charAt_5068e_0 : decode cJ0_charAt_5068e 0 = .ok (.aload_n 0, 1) := by decide +kernel
theorem dJ0_charAt_5068e_1 : decode cJ0_charAt_5068e 1 = .ok (.invokevirtual 492, 3) := by decide +kernel
theorem dJ0_charAt_5068e_4 : decode cJ0_charAt_5068e 4 = .ok (.ifCond .eq 12, 3) := by decide +kernel
theorem dJ0_charAt_5068e_7 : decode cJ0_charAt_5068e 7 = .ok (.aload_n 0, 1) := by decide +kernel
theorem dJ0_charAt_5068e_8 : decode cJ0_charAt_5068e 8 = .ok (.getfield 9, 3) := by decide +kernel
theorem dJ0_charAt_5068e_11 : decode cJ0_charAt_5068e 11 = .ok (.iload_n 1, 1) := by decide +kernel
theorem dJ0_charAt_5068e_12 : decode cJ0_charAt_5068e 12 = .ok (.invokestatic 495, 3) := by decide +kernel
theorem dJ0_charAt_5068e_15 : decode cJ0_charAt_5068e 15 = .ok (.ireturn, 1) := by decide +kernel
theorem dJ0_charAt_5068e_16 : decode cJ0_charAt_5068e 16 = .ok (.aload_n 0, 1) := by decide +kernel
theorem dJ0_charAt_5068e_17 : decode cJ0_charAt_5068e 17 = .ok (.getfield 9, 3) := by decide +kernel
theorem dJ0_charAt_5068e_20 : decode cJ0_charAt_5068e 20 = .ok (.iload_n 1, 1) := by decide +kernel
theorem dJ0_charAt_5068e_21 : decode cJ0_charAt_5068e 21 = .ok (.invokestatic 498, 3) := by decide +kernel
theorem dJ0_charAt_5068e_24 : decode cJ0_charAt_5068e 24 = .ok (.ireturn, 1) := by decide +kernel
theorem dJ0_coder_7d493_0 : decode cJ0_coder_7d493 0 = .ok (.getstatic 38, 3) := by decide +kernel
theorem dJ0_coder_7d493_3 : decode cJ0_coder_7d493 3 = .ok (.ifCond .eq 10, 3) := by decide +kernel
theorem dJ0_coder_7d493_6 : decode cJ0_coder_7d493 6 = .ok (.aload_n 0, 1) := by decide +kernel
theorem dJ0_coder_7d493_7 : decode cJ0_coder_7d493 7 = .ok (.getfield 15, 3) := by decide +kernel
theorem dJ0_coder_7d493_10 : decode cJ0_coder_7d493 10 = .ok (.goto 4, 3) := by decide +kernel
theorem dJ0_coder_7d493_13 : decode cJ0_coder_7d493 13 = .ok (.iconst 1, 1) := by decide +kernel
theorem dJ0_coder_7d493_14 : decode cJ0_coder_7d493 14 = .ok (.ireturn, 1) := by decide +kernel
theorem dJ0_isLatin1_aae02_0 : decode cJ0_isLatin1_aae02 0 = .ok (.getstatic 38, 3) := by decide +kernel
theorem dJ0_isLatin1_aae02_3 : decode cJ0_isLatin1_aae02 3 = .ok (.ifCond .eq 14, 3) := by decide +kernel
theorem dJ0_isLatin1_aae02_6 : decode cJ0_isLatin1_aae02 6 = .ok (.aload_n 0, 1) := by decide +kernel
theorem dJ0_isLatin1_aae02_7 : decode cJ0_isLatin1_aae02 7 = .ok (.getfield 15, 3) := by decide +kernel
theorem dJ0_isLatin1_aae02_10 : decode cJ0_isLatin1_aae02 10 = .ok (.ifCond .ne 7, 3) := by decide +kernel
theorem dJ0_isLatin1_aae02_13 : decode cJ0_isLatin1_aae02 13 = .ok (.iconst 1, 1) := by decide +kernel
theorem dJ0_isLatin1_aae02_14 : decode cJ0_isLatin1_aae02 14 = .ok (.goto 4, 3) := by decide +kernel
theorem dJ0_isLatin1_aae02_17 : decode cJ0_isLatin1_aae02 17 = .ok (.iconst 0, 1) := by decide +kernel
theorem dJ0_isLatin1_aae02_18 : decode cJ0_isLatin1_aae02 18 = .ok (.ireturn, 1) := by decide +kernel
set_option maxRecDepth 20000 in
theorem ggJ0_checkIndex_df160_J3_checkIndex_8e157 : GoodIn wsJ0_checkIndex_df160 wsJ3_checkIndex_8e157 := goodIn_r _ [5] (by decide +kernel) (by decide +kernel)
set_option maxRecDepth 20000 in
theorem gJ0_checkIndex_df160_J3_checkIndex_8e157 : GoodIn wsJ0_checkIndex_df160 (va_wsS RJ0 1059 yJ3_checkIndex_8e157 wsJ3_checkIndex_8e157) := goodIn_app (goodIn_of _ (by decide +kernel)) ggJ0_checkIndex_df160_J3_checkIndex_8e157
theorem dJ0_checkIndex_df160_0 : decode cJ0_checkIndex_df160 0 = .ok (.iload_n 0, 1) := by decide +kernel
theorem dJ0_checkIndex_df160_1 : decode cJ0_checkIndex_df160 1 = .ok (.iload_n 1, 1) := by decide +kernel
theorem dJ0_checkIndex_df160_2 : decode cJ0_checkIndex_df160 2 = .ok (.getstatic 1053, 3) := by decide +kernel
theorem dJ0_checkIndex_df160_5 : decode cJ0_checkIndex_df160 5 = .ok (.invokestatic 1059, 3) := by decide +kernel
theorem dJ0_checkIndex_df160_8 : decode cJ0_checkIndex_df160 8 = .ok (.pop, 1) := by decide +kernel
theorem dJ0_checkIndex_df160_9 : decode cJ0_checkIndex_df160 9 = .ok (.return_, 1) := by decide +kernel
set_option maxRecDepth 20000 in
theorem ggJ1_charAt_3b067_J0_checkIndex_df160 : GoodIn wsJ1_charAt_3b067 wsJ0_checkIndex_df160 := goodIn_r _ [4, 5, 6, 7, 8, 9] (by decide +kernel) (by decide +kernel)
set_option maxRecDepth 20000 in
theorem gJ1_charAt_3b067_J0_checkIndex_df160 : GoodIn wsJ1_charAt_3b067 (va_wsS RJ1 9 yJ0_checkIndex_df160 wsJ0_checkIndex_df160) := goodIn_app (goodIn_of _ (by decide +kernel)) ggJ1_charAt_3b067_J0_checkIndex_df160
theorem dJ1_charAt_3b067_0 : decode cJ1_charAt_3b067 0 = .ok (.iload_n 1, 1) := by decide +kernel
theorem dJ1_charAt_3b067_1 : decode cJ1_charAt_3b067 1 = .ok (.aload_n 0, 1) := by decide +kernel
theorem dJ1_charAt_3b067_2 : decode cJ1_charAt_3b067 2 = .ok (.arraylength, 1) := by decide +kernel
theorem dJ1_charAt_3b067_3 : decode cJ1_charAt_3b067 3 = .ok (.invokestatic 9, 3) := by decide +kernel
theorem dJ1_charAt_3b067_6 : decode cJ1_charAt_3b067 6 = .ok (.aload_n 0, 1) := by decide +kernel
theorem dJ1_charAt_3b067_7 : decode cJ1_charAt_3b067 7 = .ok (.iload_n 1, 1) := by decide +kernel
theorem dJ1_charAt_3b067_8 : decode cJ1_charAt_3b067 8 = .ok (.baload, 1) := by decide +kernel
theorem dJ1_charAt_3b067_9 : decode cJ1_charAt_3b067 9 = .ok (.sipush 255, 3) := by decide +kernel
theorem dJ1_charAt_3b067_12 : decode cJ1_charAt_3b067 12 = .ok (.iand, 1) := by decide +kernel
theorem dJ1_charAt_3b067_13 : decode cJ1_charAt_3b067 13 = .ok (.i2c, 1) := by decide +kernel
theorem dJ1_charAt_3b067_14 : decode cJ1_charAt_3b067 14 = .ok (.ireturn, 1) := by decide +kernel
set_option maxRecDepth 20000 in
theorem ggJ2_getChar_3b067_J2_length_9d52b : GoodIn wsJ2_getChar_3b067 wsJ2_length_9d52b := goodIn_r _ [7] (by decide +kernel) (by decide +kernel)
set_option maxRecDepth 20000 in
theorem gJ2_getChar_3b067_J2_length_9d52b : GoodIn wsJ2_getChar_3b067 (va_wsS RJ2 48 yJ2_length_9d52b wsJ2_length_9d52b) := goodIn_app (goodIn_of _ (by decide +kernel)) ggJ2_getChar_3b067_J2_length_9d52b
theorem dJ2_getChar_3b067_0 : decode cJ2_getChar_3b067 0 = .ok (.getstatic 44, 3) := by decide +kernel
theorem dJ2_getChar_3b067_3 : decode cJ2_getChar_3b067 3 = .ok (.ifCond .ne 25, 3) := by decide +kernel
theorem dJ2_getChar_3b067_6 : decode cJ2_getChar_3b067 6 = .ok (.iload_n 1, 1) := by decide +kernel
theorem dJ2_getChar_3b067_7 : decode cJ2_getChar_3b067 7 = .ok (.ifCond .lt 11, 3) := by decide +kernel
theorem dJ2_getChar_3b067_10 : decode cJ2_getChar_3b067 10 = .ok (.iload_n 1, 1) := by decide +kernel
theorem dJ2_getChar_3b067_11 : decode cJ2_getChar_3b067 11 = .ok (.aload_n 0, 1) := by decide +kernel
theorem dJ2_getChar_3b067_12 : decode cJ2_getChar_3b067 12 = .ok (.invokestatic 48, 3) := by decide +kernel
theorem dJ2_getChar_3b067_15 : decode cJ2_getChar_3b067 15 = .ok (.if_icmp .lt 13, 3) := by decide +kernel
theorem dJ2_getChar_3b067_18 : decode cJ2_getChar_3b067 18 = .ok (.new 52, 3) := by decide +kernel
theorem dJ2_getChar_3b067_21 : decode cJ2_getChar_3b067 21 = .ok (.dup, 1) := by decide +kernel
theorem dJ2_getChar_3b067_22 : decode cJ2_getChar_3b067 22 = .ok (.ldc 54, 2) := by decide +kernel
theorem dJ2_getChar_3b067_24 : decode cJ2_getChar_3b067 24 = .ok (.invokespecial 56, 3) := by decide +kernel
theorem dJ2_getChar_3b067_27 : decode cJ2_getChar_3b067 27 = .ok (.athrow, 1) := by decide +kernel
theorem dJ2_getChar_3b067_28 : decode cJ2_getChar_3b067 28 = .ok (.iload_n 1, 1) := by decide +kernel
theorem dJ2_getChar_3b067_29 : decode cJ2_getChar_3b067 29 = .ok (.iconst 1, 1) := by decide +kernel
theorem dJ2_getChar_3b067_30 : decode cJ2_getChar_3b067 30 = .ok (.ishl, 1) := by decide +kernel
theorem dJ2_getChar_3b067_31 : decode cJ2_getChar_3b067 31 = .ok (.istore_n 1, 1) := by decide +kernel
theorem dJ2_getChar_3b067_32 : decode cJ2_getChar_3b067 32 = .ok (.aload_n 0, 1) := by decide +kernel
theorem dJ2_getChar_3b067_33 : decode cJ2_getChar_3b067 33 = .ok (.iload_n 1, 1) := by decide +kernel
theorem dJ2_getChar_3b067_34 : decode cJ2_getChar_3b067 34 = .ok (.iinc 1 1, 3) := by decide +kernel
theorem dJ2_getChar_3b067_37 : decode cJ2_getChar_3b067 37 = .ok (.baload, 1) := by decide +kernel
theorem dJ2_getChar_3b067_38 : decode cJ2_getChar_3b067 38 = .ok (.sipush 255, 3) := by decide +kernel
theorem dJ2_getChar_3b067_41 : decode cJ2_getChar_3b067 41 = .ok (.iand, 1) := by decide +kernel
theorem dJ2_getChar_3b067_42 : decode cJ2_getChar_3b067 42 = .ok (.getstatic 59, 3) := by decide +kernel
theorem dJ2_getChar_3b067_45 : decode cJ2_getChar_3b067 45 = .ok (.ishl, 1) := by decide +kernel
theorem dJ2_getChar_3b067_46 : decode cJ2_getChar_3b067 46 = .ok (.aload_n 0, 1) := by decide +kernel
theorem dJ2_getChar_3b067_47 : decode cJ2_getChar_3b067 47 = .ok (.iload_n 1, 1) := by decide +kernel
theorem dJ2_getChar_3b067_48 : decode cJ2_getChar_3b067 48 = .ok (.baload, 1) := by decide +kernel
theorem dJ2_getChar_3b067_49 : decode cJ2_getChar_3b067 49 = .ok (.sipush 255, 3) := by decide +kernel
theorem dJ2_getChar_3b067_52 : decode cJ2_getChar_3b067 52 = .ok (.iand, 1) := by decide +kernel
theorem dJ2_getChar_3b067_53 : decode cJ2_getChar_3b067 53 = .ok (.getstatic 63, 3) := by decide +kernel
theorem dJ2_getChar_3b067_56 : decode cJ2_getChar_3b067 56 = .ok (.ishl, 1) := by decide +kernel
theorem dJ2_getChar_3b067_57 : decode cJ2_getChar_3b067 57 = .ok (.ior, 1) := by decide +kernel
theorem dJ2_getChar_3b067_58 : decode cJ2_getChar_3b067 58 = .ok (.i2c, 1) := by decide +kernel
theorem dJ2_getChar_3b067_59 : decode cJ2_getChar_3b067 59 = .ok (.ireturn, 1) := by decide +kernel
theorem dJ2_length_9d52b_0 : decode cJ2_length_9d52b 0 = .ok (.aload_n 0, 1) := by decide +kernel
theorem dJ2_length_9d52b_1 : decode cJ2_length_9d52b 1 = .ok (.arraylength, 1) := by decide +kernel
theorem dJ2_length_9d52b_2 : decode cJ2_length_9d52b 2 = .ok (.iconst 1, 1) := by decide +kernel
theorem dJ2_length_9d52b_3 : decode cJ2_length_9d52b 3 = .ok (.ishr, 1) := by decide +kernel
theorem dJ2_length_9d52b_4 : decode cJ2_length_9d52b 4 = .ok (.ireturn, 1) := by decide +kernel
set_option maxRecDepth 20000 in
theorem ggJ2_charAt_3b067_J2_checkIndex_2214a : GoodIn wsJ2_charAt_3b067 wsJ2_checkIndex_2214a := goodIn_r _ [4, 5, 6, 3, 7, 8, 9, 10, 11, 12, 13, 14, 15, 16] (by decide +kernel) (by decide +kernel)
set_option maxRecDepth 20000 in
theorem gJ2_charAt_3b067_J2_checkIndex_2214a : GoodIn wsJ2_charAt_3b067 (va_wsS RJ2 67 yJ2_checkIndex_2214a wsJ2_checkIndex_2214a) := goodIn_app (goodIn_of _ (by decide +kernel)) ggJ2_charAt_3b067_J2_checkIndex_2214a
set_option maxRecDepth 20000 in
theorem ggJ2_charAt_3b067_J2_getChar_3b067 : GoodIn wsJ2_charAt_3b067 wsJ2_getChar_3b067 := goodIn_r _ [19, 20, 21, 22, 5, 6, 3, 7] (by decide +kernel) (by decide +kernel)
set_option maxRecDepth 20000 in
theorem gJ2_charAt_3b067_J2_getChar_3b067 : GoodIn wsJ2_charAt_3b067 (va_wsS RJ2 71 yJ2_getChar_3b067 wsJ2_getChar_3b067) := goodIn_app (goodIn_of _ (by decide +kernel)) ggJ2_charAt_3b067_J2_getChar_3b067
theorem dJ2_charAt_3b067_0 : decode cJ2_charAt_3b067 0 = .ok (.iload_n 1, 1) := by decide +kernel
theorem dJ2_charAt_3b067_1 : decode cJ2_charAt_3b067 1 = .ok (.aload_n 0, 1) := by decide +kernel
theorem dJ2_charAt_3b067_2 : decode cJ2_charAt_3b067 2 = .ok (.invokestatic 67, 3) := by decide +kernel
theorem dJ2_charAt_3b067_5 : decode cJ2_charAt_3b067 5 = .ok (.aload_n 0, 1) := by decide +kernel
theorem dJ2_charAt_3b067_6 : decode cJ2_charAt_3b067 6 = .ok (.iload_n 1, 1) := by decide +kernel
theorem dJ2_charAt_3b067_7 : decode cJ2_charAt_3b067 7 = .ok (.invokestatic 71, 3) := by decide +kernel
theorem dJ2_charAt_3b067_10 : decode cJ2_charAt_3b067 10 = .ok (.ireturn, 1) := by decide +kernel
set_option maxRecDepth 20000 in
theorem ggJ2_checkIndex_2214a_J2_length_9d52b : GoodIn wsJ2_checkIndex_2214a wsJ2_length_9d52b := goodIn_r _ [4] (by decide +kernel) (by decide +kernel)
set_option maxRecDepth 20000 in
theorem gJ2_checkIndex_2214a_J2_length_9d52b : GoodIn wsJ2_checkIndex_2214a (va_wsS RJ2 48 yJ2_length_9d52b wsJ2_length_9d52b) := goodIn_app (goodIn_of _ (by decide +kernel)) ggJ2_checkIndex_2214a_J2_length_9d52b
set_option maxRecDepth 20000 in
theorem ggJ2_checkIndex_2214a_J0_checkIndex_df160 : GoodIn wsJ2_checkIndex_2214a wsJ0_checkIndex_df160 := goodIn_r _ [8, 9, 10, 11, 12, 13] (by decide +kernel) (by decide +kernel)
set_option maxRecDepth 20000 in
theorem gJ2_checkIndex_2214a_J0_checkIndex_df160 : GoodIn wsJ2_checkIndex_2214a (va_wsS RJ2 414 yJ0_checkIndex_df160 wsJ0_checkIndex_df160) := goodIn_app (goodIn_of _ (by decide +kernel)) ggJ2_checkIndex_2214a_J0_checkIndex_df160
theorem dJ2_checkIndex_2214a_0 : decode cJ2_checkIndex_2214a 0 = .ok (.iload_n 0, 1) := by decide +kernel
theorem dJ2_checkIndex_2214a_1 : decode cJ2_checkIndex_2214a 1 = .ok (.aload_n 1, 1) := by decide +kernel
theorem dJ2_checkIndex_2214a_2 : decode cJ2_checkIndex_2214a 2 = .ok (.invokestatic 48, 3) := by decide +kernel
theorem dJ2_checkIndex_2214a_5 : decode cJ2_checkIndex_2214a 5 = .ok (.invokestatic 414, 3) := by decide +kernel
theorem dJ2_checkIndex_2214a_8 : decode cJ2_checkIndex_2214a 8 = .ok (.return_, 1) := by decide +kernel
theorem dJ3_checkIndex_8e157_0 : decode cJ3_checkIndex_8e157 0 = .ok (.iload_n 0, 1) := by decide +kernel
theorem dJ3_checkIndex_8e157_1 : decode cJ3_checkIndex_8e157 1 = .ok (.ifCond .lt 8, 3) := by decide +kernel
theorem dJ3_checkIndex_8e157_4 : decode cJ3_checkIndex_8e157 4 = .ok (.iload_n 0, 1) := by decide +kernel
theorem dJ3_checkIndex_8e157_5 : decode cJ3_checkIndex_8e157 5 = .ok (.iload_n 1, 1) := by decide +kernel
theorem dJ3_checkIndex_8e157_6 : decode cJ3_checkIndex_8e157 6 = .ok (.if_icmp .lt 10, 3) := by decide +kernel
theorem dJ3_checkIndex_8e157_9 : decode cJ3_checkIndex_8e157 9 = .ok (.aload_n 2, 1) := by decide +kernel
theorem dJ3_checkIndex_8e157_10 : decode cJ3_checkIndex_8e157 10 = .ok (.iload_n 0, 1) := by decide +kernel
theorem dJ3_checkIndex_8e157_11 : decode cJ3_checkIndex_8e157 11 = .ok (.iload_n 1, 1) := by decide +kernel
theorem dJ3_checkIndex_8e157_12 : decode cJ3_checkIndex_8e157 12 = .ok (.invokestatic 95, 3) := by decide +kernel
theorem dJ3_checkIndex_8e157_15 : decode cJ3_checkIndex_8e157 15 = .ok (.athrow, 1) := by decide +kernel
theorem dJ3_checkIndex_8e157_16 : decode cJ3_checkIndex_8e157 16 = .ok (.iload_n 0, 1) := by decide +kernel
theorem dJ3_checkIndex_8e157_17 : decode cJ3_checkIndex_8e157 17 = .ok (.ireturn, 1) := by decide +kernel
set_option maxRecDepth 20000 in
theorem ggL_law_X6_init : GoodIn wsL_law wsX6_init := goodIn_r _ [8, 9, 10, 11, 12, 13, 14, 15, 16, 17, 18, 19, 20, 21, 22, 23, 24, 25, 26, 27, 28, 29, 30, 31, 32, 33, 34, 35, 36, 37, 38, 39, 40, 41, 42, 43, 44, 45, 46, 47, 48, 49, 50, 51, 52, 53, 54, 55, 56, 57, 58, 59, 60, 61, 62, 63, 64, 65, 66, 67, 68, 69, 70, 71, 72, 73, 74, 75, 76, 77, 78, 79, 80, 81, 82, 83, 84, 85, 86, 87, 88, 89, 90, 91, 92, 93, 94, 95, 96, 97, 98, 99, 100, 101, 102, 103, 104, 105, 106, 107, 108, 109, 110, 111, 112, 113, 114, 115, 116, 117, 118, 119, 120, 121, 122, 123, 124, 125, 126, 127, 128, 129, 130, 131, 132, 133, 134, 2, 135, 136, 137, 138, 139, 140, 141, 142, 143, 144, 145, 146, 147, 148, 149, 150, 151, 152, 153, 154, 155, 156, 157, 158, 159, 160, 161, 162, 163, 164, 165, 166, 167, 168, 169, 170, 171, 172, 173, 174, 175, 176, 177, 178, 179, 180, 181, 182, 183, 184, 185, 186, 187, 188, 189, 190, 191, 192, 193, 194, 195, 196, 197, 198, 199, 200, 201, 202, 203, 204, 205, 206, 207, 208, 209, 210, 211, 212, 213, 214, 215, 216, 217, 218, 219, 220, 221, 222, 223, 224, 225, 226, 227, 228, 229, 230, 231, 232, 233, 234, 235, 236, 237, 238, 239, 240, 241, 242, 243, 244, 245, 246, 247, 248, 249, 250, 251, 252, 253, 254, 255, 256, 257, 258, 259, 260, 261, 262, 263, 264, 265, 266, 267, 268, 269, 270, 271, 272, 273, 274, 275, 276, 277, 278, 279, 280, 281, 282, 283, 284, 285, 286, 287, 288, 289, 290, 291, 292, 293, 294, 295, 296, 297, 818, 819, 792, 793, 794, 795, 796, 797, 798, 820, 821, 822, 823, 824, 825, 826, 827, 828, 829, 830, 831, 832, 833, 834, 835, 836, 837, 838, 839, 840, 841, 842, 843] (by decide +kernel) (by decide +kernel)
set_option maxRecDepth 20000 in
theorem gL_law_X6_init : GoodIn wsL_law (wsX6_init) := ggL_law_X6_init
set_option maxRecDepth 20000 in
theorem ggL_law_X7_init : GoodIn wsL_law wsX7_init := goodIn_r _ [300, 301, 10, 11, 45, 302, 303, 304, 305, 306, 307, 308, 309, 310, 311, 312, 313, 314, 315, 5, 316, 317, 318, 319, 320, 321, 322, 323, 324, 325, 326, 327, 328, 329, 330, 331, 332, 333, 334, 335, 336, 337, 338, 339, 340, 799, 800, 801, 802, 803, 804, 805, 806, 807, 808, 809, 810, 811, 812, 813, 814, 815, 816, 817] (by decide +kernel) (by decide +kernel)
set_option maxRecDepth 20000 in
theorem gL_law_X7_init : GoodIn wsL_law (wsX7_init) := ggL_law_X7_init
set_option maxRecDepth 20000 in
theorem ggL_law_X6_append : GoodIn wsL_law wsX6_append := goodIn_r _ [344, 15, 345, 129, 130, 14, 131, 127, 123, 124, 125, 126, 41, 128, 206, 151, 152, 153, 792, 793, 794, 795, 796, 797, 798, 818, 819] (by decide +kernel) (by decide +kernel)
set_option maxRecDepth 20000 in
theorem gL_law_X6_append : GoodIn wsL_law (wsV RL 13 RX6 yX6_append wsX6_append) := goodIn_app (goodIn_of _ (by decide +kernel)) ggL_law_X6_append
set_option maxRecDepth 20000 in
theorem ggL_law_X7_append : GoodIn wsL_law wsX7_append := goodIn_r _ [349, 350, 302, 351, 352, 5, 353, 799, 800, 801, 802, 803, 804, 805, 806, 807, 808, 809, 810, 811, 812, 813, 814, 815, 816, 817] (by decide +kernel) (by decide +kernel)
set_option maxRecDepth 20000 in
theorem gL_law_X7_append : GoodIn wsL_law (wsV RL 17 RX7 yX7_append wsX7_append) := goodIn_app (goodIn_of _ (by decide +kernel)) ggL_law_X7_append
set_option maxRecDepth 20000 in
theorem ggL_law_X6_clearText : GoodIn wsL_law wsX6_clearText := goodIn_r _ [357, 15, 206, 151, 152, 14, 153, 127, 294, 295, 296, 297, 792, 793, 794, 795, 796, 797, 798, 818, 819] (by decide +kernel) (by decide +kernel)
set_option maxRecDepth 20000 in
theorem gL_law_X6_clearText : GoodIn wsL_law (wsV RL 18 RX6 yX6_clearText wsX6_clearText) := goodIn_app (goodIn_of _ (by decide +kernel)) ggL_law_X6_clearText
set_option maxRecDepth 20000 in
theorem ggL_law_X7_clearText : GoodIn wsL_law wsX7_clearText := goodIn_r _ [361, 350, 799, 800, 801, 802, 803, 804, 805, 806, 807, 808, 809, 810, 811, 812, 813, 814, 815, 816, 817] (by decide +kernel) (by decide +kernel)
set_option maxRecDepth 20000 in
theorem gL_law_X7_clearText : GoodIn wsL_law (wsV RL 22 RX7 yX7_clearText wsX7_clearText) := goodIn_app (goodIn_of _ (by decide +kernel)) ggL_law_X7_clearText
set_option maxRecDepth 20000 in
theorem ggL_law_X6_firstError : GoodIn wsL_law wsX6_firstError := goodIn_r _ [365, 19, 15, 36, 136, 137, 138, 18, 139, 140, 141, 142, 143, 144, 145, 146, 34, 147, 148, 149, 73, 150, 151, 152, 14, 153, 127, 154, 155, 156, 157, 158, 159, 160, 161, 41, 162, 163, 164, 165, 46, 166, 167, 168, 169, 170, 171, 172, 173, 174, 175, 176, 177, 178, 179, 180, 181, 182, 183, 184, 185, 186, 187, 188, 189, 190, 191, 192, 193, 68, 69, 70, 72, 194, 195, 196, 197, 198, 199, 200, 2, 201, 202, 203, 204, 205, 366, 367, 368, 369, 792, 793, 794, 795, 796, 797, 798, 820, 821, 822, 823, 824, 837, 838, 839, 840, 841, 842, 843, 818, 819] (by decide +kernel) (by decide +kernel)
set_option maxRecDepth 20000 in
theorem gL_law_X6_firstError : GoodIn wsL_law (wsV RL 23 RX6 yX6_firstError wsX6_firstError) := goodIn_app (goodIn_of _ (by decide +kernel)) ggL_law_X6_firstError
set_option maxRecDepth 20000 in
theorem ggL_law_X7_firstError : GoodIn wsL_law wsX7_firstError := goodIn_r _ [373, 374, 375, 376, 5, 377, 312, 317, 378, 379, 380, 350, 381, 382, 383, 384, 302, 310, 385, 386, 387, 388, 389, 390, 391, 392, 351, 352, 353, 393, 394, 395, 396, 334, 335, 336, 313, 314, 315, 316, 307, 308, 309, 799, 800, 801, 802, 803, 804, 805, 806, 807, 808, 809, 810, 811, 812, 813, 814, 815, 816, 817] (by decide +kernel) (by decide +kernel)
set_option maxRecDepth 20000 in
theorem gL_law_X7_firstError : GoodIn wsL_law (wsV RL 26 RX7 yX7_firstError wsX7_firstError) := goodIn_app (goodIn_of _ (by decide +kernel)) ggL_law_X7_firstError
set_option maxRecDepth 20000 in
theorem ggL_law_X6_errorReason : GoodIn wsL_law wsX6_errorReason := goodIn_r _ [400, 19, 15, 36, 136, 137, 138, 18, 139, 140, 141, 142, 143, 144, 145, 146, 34, 147, 148, 149, 73, 150, 151, 152, 14, 153, 127, 154, 155, 156, 157, 158, 159, 160, 161, 41, 162, 163, 164, 165, 46, 166, 167, 168, 169, 170, 171, 172, 173, 174, 175, 176, 177, 178, 179, 180, 181, 182, 183, 184, 185, 186, 187, 188, 189, 190, 191, 192, 193, 68, 69, 70, 72, 194, 195, 196, 197, 198, 199, 200, 2, 201, 202, 203, 204, 205, 792, 793, 794, 795, 796, 797, 798, 820, 821, 822, 823, 824, 837, 838, 839, 840, 841, 842, 843, 818, 819] (by decide +kernel) (by decide +kernel)
set_option maxRecDepth 20000 in
theorem gL_law_X6_errorReason : GoodIn wsL_law (wsV RL 27 RX6 yX6_errorReason wsX6_errorReason) := goodIn_app (goodIn_of _ (by decide +kernel)) ggL_law_X6_errorReason
set_option maxRecDepth 20000 in
theorem ggL_law_X7_errorReason : GoodIn wsL_law wsX7_errorReason := goodIn_r _ [404, 379, 374, 375, 376, 5, 377, 312, 317, 378, 380, 350, 381, 382, 383, 384, 302, 310, 385, 386, 387, 388, 389, 390, 391, 392, 351, 352, 353, 393, 394, 395, 396, 334, 335, 336, 313, 314, 315, 316, 307, 308, 309, 799, 800, 801, 802, 803, 804, 805, 806, 807, 808, 809, 810, 811, 812, 813, 814, 815, 816, 817] (by decide +kernel) (by decide +kernel)
set_option maxRecDepth 20000 in
theorem gL_law_X7_errorReason : GoodIn wsL_law (wsV RL 30 RX7 yX7_errorReason wsX7_errorReason) := goodIn_app (goodIn_of _ (by decide +kernel)) ggL_law_X7_errorReason
set_option maxRecDepth 20000 in
theorem ggL_law_X6_configure : GoodIn wsL_law wsX6_configure := goodIn_r _ [135, 19, 15, 36, 23, 35, 27, 31, 136, 137, 138, 18, 139, 140, 141, 142, 143, 144, 145, 146, 34, 147, 148, 149, 73, 150, 151, 152, 14, 153, 127, 154, 155, 156, 157, 158, 159, 160, 161, 41, 162, 163, 164, 165, 46, 166, 167, 168, 169, 170, 171, 172, 173, 174, 175, 176, 177, 178, 179, 180, 181, 182, 183, 184, 185, 186, 187, 188, 189, 190, 191, 192, 193, 68, 69, 70, 72, 194, 195, 196, 197, 198, 199, 200, 2, 201, 202, 203, 204, 205, 206, 207, 208, 209, 210, 211, 212, 213, 214, 215, 216, 217, 218, 219, 220, 221, 222, 223, 224, 225, 226, 227, 228, 229, 230, 231, 232, 233, 234, 235, 236, 237, 238, 239, 240, 241, 242, 22, 243, 50, 244, 245, 246, 247, 248, 249, 250, 251, 252, 253, 254, 255, 256, 257, 258, 259, 260, 261, 262, 263, 264, 265, 266, 267, 268, 269, 270, 271, 51, 272, 273, 274, 275, 276, 277, 278, 26, 279, 280, 281, 282, 283, 284, 285, 55, 56, 286, 287, 288, 289, 290, 30, 291, 292, 293, 792, 793, 794, 795, 796, 797, 798, 820, 821, 822, 823, 824, 837, 838, 839, 840, 841, 842, 843, 818, 819, 825, 826, 827, 828, 829, 830, 831, 832, 833, 834, 835, 836] (by decide +kernel) (by decide +kernel)
set_option maxRecDepth 20000 in
theorem gL_law_X6_configure : GoodIn wsL_law (wsV RL 31 RX6 yX6_configure wsX6_configure) := goodIn_app (goodIn_of _ (by decide +kernel)) ggL_law_X6_configure
set_option maxRecDepth 20000 in
theorem ggL_law_X7_configure : GoodIn wsL_law wsX7_configure := goodIn_r _ [409, 350, 323, 374, 375, 376, 5, 377, 312, 317, 378, 379, 380, 381, 382, 383, 384, 302, 310, 385, 386, 387, 388, 389, 390, 391, 392, 351, 352, 353, 393, 394, 395, 396, 334, 335, 336, 313, 314, 315, 316, 307, 308, 309, 410, 411, 412, 413, 318, 319, 320, 321, 322, 303, 304, 305, 324, 325, 326, 327, 328, 329, 330, 331, 332, 333, 337, 338, 339, 340, 799, 800, 801, 802, 803, 804, 805, 806, 807, 808, 809, 810, 811, 812, 813, 814, 815, 816, 817] (by decide +kernel) (by decide +kernel)
set_option maxRecDepth 20000 in
theorem gL_law_X7_configure : GoodIn wsL_law (wsV RL 34 RX7 yX7_configure wsX7_configure) := goodIn_app (goodIn_of _ (by decide +kernel)) ggL_law_X7_configure
set_option maxRecDepth 20000 in
theorem ggL_law_X6_setWeight : GoodIn wsL_law wsX6_setWeight := goodIn_r _ [417, 35, 31, 23, 27, 418, 229, 230, 34, 231, 149, 419, 420, 421, 30, 422, 423, 62, 64, 292, 424, 425, 426, 427, 428, 429, 430, 22, 431, 50, 51, 252, 432, 433, 434, 26, 435, 55, 56, 281, 286, 287, 436, 262, 263, 264, 437, 438, 439, 440, 441, 249, 250, 251, 253, 254, 255, 256, 257, 258, 259, 260, 200, 2, 201, 261, 265, 225, 226, 227, 68, 228, 266, 217, 218, 219, 148, 211, 183, 184, 185, 220, 221, 222, 223, 224, 232, 233, 234, 235, 69, 267, 268, 269, 270, 271, 272, 273, 274, 275, 442, 283, 284, 285, 792, 793, 794, 795, 796, 797, 798, 837, 838, 839, 840, 841, 842, 843, 833, 834, 835, 836, 825, 826, 827, 828, 829, 830, 831, 832] (by decide +kernel) (by decide +kernel)
set_option maxRecDepth 20000 in
theorem gL_law_X6_setWeight : GoodIn wsL_law (wsV RL 35 RX6 yX6_setWeight wsX6_setWeight) := goodIn_app (goodIn_of _ (by decide +kernel)) ggL_law_X6_setWeight
set_option maxRecDepth 20000 in
theorem ggL_law_X7_setWeight : GoodIn wsL_law wsX7_setWeight := goodIn_r _ [446, 305, 447, 448, 449, 5, 450, 323, 351, 352, 353, 451, 452, 453, 454, 325, 306, 326, 327, 328, 329, 303, 304, 330, 331, 332, 333, 322, 334, 335, 336, 337, 338, 339, 340, 799, 800, 801, 802, 803, 804, 805, 806, 807, 808, 809, 810, 811, 812, 813, 814, 815, 816, 817] (by decide +kernel) (by decide +kernel)
set_option maxRecDepth 20000 in
theorem gL_law_X7_setWeight : GoodIn wsL_law (wsV RL 39 RX7 yX7_setWeight wsX7_setWeight) := goodIn_app (goodIn_of _ (by decide +kernel)) ggL_law_X7_setWeight
set_option maxRecDepth 20000 in
theorem ggL_law_X6_setCounterLimit : GoodIn wsL_law wsX6_setCounterLimit := goodIn_r _ [458, 459, 31, 23, 27, 419, 420, 421, 30, 422, 423, 62, 64, 292, 424, 425, 426, 427, 428, 429, 430, 22, 431, 50, 51, 252, 432, 433, 434, 26, 435, 55, 56, 281, 286, 287, 460, 461, 462, 463, 464, 465, 466, 467, 442, 283, 284, 285, 792, 793, 794, 795, 796, 797, 798, 833, 834, 835, 836, 825, 826, 827, 828, 829, 830, 831, 832] (by decide +kernel) (by decide +kernel)
set_option maxRecDepth 20000 in
theorem gL_law_X6_setCounterLimit : GoodIn wsL_law (wsV RL 40 RX6 yX6_setCounterLimit wsX6_setCounterLimit) := goodIn_app (goodIn_of _ (by decide +kernel)) ggL_law_X6_setCounterLimit
set_option maxRecDepth 20000 in
theorem ggL_law_X7_setCounterLimit : GoodIn wsL_law wsX7_setCounterLimit := goodIn_r _ [471, 324, 305, 351, 352, 5, 353, 451, 452, 453, 454, 325, 306, 337, 338, 339, 340, 799, 800, 801, 802, 803, 804, 805, 806, 807, 808, 809, 810, 811, 812, 813, 814, 815, 816, 817] (by decide +kernel) (by decide +kernel)
set_option maxRecDepth 20000 in
theorem gL_law_X7_setCounterLimit : GoodIn wsL_law (wsV RL 43 RX7 yX7_setCounterLimit wsX7_setCounterLimit) := goodIn_app (goodIn_of _ (by decide +kernel)) ggL_law_X7_setCounterLimit
set_option maxRecDepth 20000 in
theorem ggL_law_X6_follow : GoodIn wsL_law wsX6_follow := goodIn_r _ [475, 35, 27, 31, 23, 418, 229, 230, 34, 231, 149, 476, 225, 226, 227, 68, 228, 477, 478, 479, 26, 480, 286, 419, 420, 421, 30, 422, 423, 62, 64, 292, 424, 425, 426, 427, 428, 429, 430, 22, 431, 50, 51, 252, 432, 433, 434, 435, 55, 56, 281, 287, 481, 482, 483, 484, 485, 486, 273, 274, 275, 200, 2, 201, 487, 488, 489, 490, 491, 492, 493, 494, 495, 233, 234, 235, 69, 496, 183, 184, 185, 148, 792, 793, 794, 795, 796, 797, 798, 837, 838, 839, 840, 841, 842, 843, 828, 829, 830, 831, 832, 833, 834, 835, 836, 825, 826, 827] (by decide +kernel) (by decide +kernel)
set_option maxRecDepth 20000 in
theorem gL_law_X6_follow : GoodIn wsL_law (wsV RL 44 RX6 yX6_follow wsX6_follow) := goodIn_app (goodIn_of _ (by decide +kernel)) ggL_law_X6_follow
set_option maxRecDepth 20000 in
theorem ggL_law_X7_follow : GoodIn wsL_law wsX7_follow := goodIn_r _ [500, 303, 305, 447, 448, 449, 5, 450, 323, 351, 352, 353, 451, 452, 453, 454, 325, 306, 501, 502, 503, 504, 304, 322, 505, 506, 507, 508, 799, 800, 801, 802, 803, 804, 805, 806, 807, 808, 809, 810, 811, 812, 813, 814, 815, 816, 817] (by decide +kernel) (by decide +kernel)
set_option maxRecDepth 20000 in
theorem gL_law_X7_follow : GoodIn wsL_law (wsV RL 47 RX7 yX7_follow wsX7_follow) := goodIn_app (goodIn_of _ (by decide +kernel)) ggL_law_X7_follow
set_option maxRecDepth 20000 in
theorem ggL_law_X6_drive : GoodIn wsL_law wsX6_drive := goodIn_r _ [512, 31, 23, 27, 35, 419, 420, 421, 30, 422, 423, 62, 64, 292, 424, 425, 426, 427, 428, 429, 430, 22, 431, 50, 51, 252, 432, 433, 434, 26, 435, 55, 56, 281, 286, 287, 513, 514, 515, 516, 517, 518, 519, 2, 520, 521, 522, 523, 477, 478, 479, 480, 524, 213, 214, 34, 215, 73, 195, 179, 180, 181, 148, 525, 526, 527, 528, 72, 212, 481, 482, 483, 484, 485, 229, 230, 231, 149, 486, 273, 274, 275, 200, 201, 487, 488, 489, 490, 491, 492, 493, 494, 495, 233, 234, 235, 69, 228, 496, 183, 184, 185, 792, 793, 794, 795, 796, 797, 798, 833, 834, 835, 836, 825, 826, 827, 828, 829, 830, 831, 832, 837, 838, 839, 840, 841, 842, 843] (by decide +kernel) (by decide +kernel)
set_option maxRecDepth 20000 in
theorem gL_law_X6_drive : GoodIn wsL_law (wsV RL 48 RX6 yX6_drive wsX6_drive) := goodIn_app (goodIn_of _ (by decide +kernel)) ggL_law_X6_drive
set_option maxRecDepth 20000 in
theorem ggL_law_X7_drive : GoodIn wsL_law wsX7_drive := goodIn_r _ [532, 305, 533, 534, 535, 351, 352, 5, 353, 451, 452, 453, 454, 325, 306, 536, 537, 538, 539, 323, 303, 540, 541, 542, 543, 501, 502, 503, 504, 304, 322, 505, 506, 507, 508, 799, 800, 801, 802, 803, 804, 805, 806, 807, 808, 809, 810, 811, 812, 813, 814, 815, 816, 817] (by decide +kernel) (by decide +kernel)
set_option maxRecDepth 20000 in
theorem gL_law_X7_drive : GoodIn wsL_law (wsV RL 51 RX7 yX7_drive wsX7_drive) := goodIn_app (goodIn_of _ (by decide +kernel)) ggL_law_X7_drive
set_option maxRecDepth 20000 in
theorem ggL_law_X6_adoptCounts : GoodIn wsL_law wsX6_adoptCounts := goodIn_r _ [547, 31, 23, 27, 35, 548, 425, 426, 427, 549, 550, 551, 2, 552, 293, 254, 255, 34, 256, 149, 553, 554, 555, 556, 557, 273, 274, 22, 275, 252, 200, 201, 558, 559, 560, 561, 562, 488, 489, 26, 490, 281, 491, 492, 493, 494, 55, 563, 564, 565, 566, 476, 225, 226, 227, 68, 228, 229, 230, 231, 567, 233, 234, 235, 69, 568, 569, 570, 571, 51, 419, 420, 421, 30, 422, 423, 62, 64, 292, 424, 428, 429, 430, 431, 50, 432, 433, 434, 435, 56, 286, 287, 572, 573, 574, 575, 576, 577, 578, 579, 580, 477, 478, 479, 480, 581, 183, 184, 185, 148, 436, 262, 263, 264, 437, 438, 439, 440, 441, 249, 250, 251, 253, 257, 258, 259, 260, 261, 265, 266, 217, 218, 219, 211, 220, 221, 222, 223, 224, 232, 267, 268, 269, 270, 271, 272, 442, 283, 284, 285, 792, 793, 794, 795, 796, 797, 798, 837, 838, 839, 840, 841, 842, 843, 825, 826, 827, 828, 829, 830, 831, 832, 833, 834, 835, 836] (by decide +kernel) (by decide +kernel)
set_option maxRecDepth 20000 in
theorem gL_law_X6_adoptCounts : GoodIn wsL_law (wsV RL 52 RX6 yX6_adoptCounts wsX6_adoptCounts) := goodIn_app (goodIn_of _ (by decide +kernel)) ggL_law_X6_adoptCounts
set_option maxRecDepth 20000 in
theorem ggL_law_X7_adoptCounts : GoodIn wsL_law wsX7_adoptCounts := goodIn_r _ [585, 323, 311, 305, 586, 587, 588, 5, 589, 505, 506, 507, 508, 590, 591, 592, 593, 594, 595, 596, 597, 304, 303, 330, 331, 332, 333, 322, 598, 599, 600, 451, 452, 453, 454, 325, 306, 601, 602, 603, 604, 326, 327, 328, 329, 334, 335, 336, 337, 338, 339, 340, 799, 800, 801, 802, 803, 804, 805, 806, 807, 808, 809, 810, 811, 812, 813, 814, 815, 816, 817] (by decide +kernel) (by decide +kernel)
set_option maxRecDepth 20000 in
theorem gL_law_X7_adoptCounts : GoodIn wsL_law (wsV RL 55 RX7 yX7_adoptCounts wsX7_adoptCounts) := goodIn_app (goodIn_of _ (by decide +kernel)) ggL_law_X7_adoptCounts
set_option maxRecDepth 20000 in
theorem ggL_law_X6_undo : GoodIn wsL_law wsX6_undo := goodIn_r _ [608, 31, 23, 27, 609, 610, 611, 30, 612, 292, 613, 614, 615, 616, 62, 423, 64, 617, 428, 429, 430, 22, 431, 50, 51, 252, 432, 433, 434, 26, 435, 55, 56, 281, 286, 287, 618, 619, 620, 621, 792, 793, 794, 795, 796, 797, 798, 833, 834, 835, 836, 825, 826, 827, 828, 829, 830, 831, 832] (by decide +kernel) (by decide +kernel)
set_option maxRecDepth 20000 in
theorem gL_law_X6_undo : GoodIn wsL_law (wsV RL 56 RX6 yX6_undo wsX6_undo) := goodIn_app (goodIn_of _ (by decide +kernel)) ggL_law_X6_undo
set_option maxRecDepth 20000 in
theorem ggL_law_X7_undo : GoodIn wsL_law wsX7_undo := goodIn_r _ [625, 325, 305, 306, 799, 800, 801, 802, 803, 804, 805, 806, 807, 808, 809, 810, 811, 812, 813, 814, 815, 816, 817] (by decide +kernel) (by decide +kernel)
set_option maxRecDepth 20000 in
theorem gL_law_X7_undo : GoodIn wsL_law (wsV RL 59 RX7 yX7_undo wsX7_undo) := goodIn_app (goodIn_of _ (by decide +kernel)) ggL_law_X7_undo
set_option maxRecDepth 20000 in
theorem ggL_law_X6_blockCount : GoodIn wsL_law wsX6_blockCount := goodIn_r _ [629, 35, 630, 631, 632, 34, 633, 148, 792, 793, 794, 795, 796, 797, 798, 837, 838, 839, 840, 841, 842, 843] (by decide +kernel) (by decide +kernel)
set_option maxRecDepth 20000 in
theorem gL_law_X6_blockCount : GoodIn wsL_law (wsV RL 60 RX6 yX6_blockCount wsX6_blockCount) := goodIn_app (goodIn_of _ (by decide +kernel)) ggL_law_X6_blockCount
set_option maxRecDepth 20000 in
theorem ggL_law_X7_blockCount : GoodIn wsL_law wsX7_blockCount := goodIn_r _ [637, 322, 799, 800, 801, 802, 803, 804, 805, 806, 807, 808, 809, 810, 811, 812, 813, 814, 815, 816, 817] (by decide +kernel) (by decide +kernel)
set_option maxRecDepth 20000 in
theorem gL_law_X7_blockCount : GoodIn wsL_law (wsV RL 63 RX7 yX7_blockCount wsX7_blockCount) := goodIn_app (goodIn_of _ (by decide +kernel)) ggL_law_X7_blockCount
set_option maxRecDepth 20000 in
theorem ggL_law_X6_sourceOf : GoodIn wsL_law wsX6_sourceOf := goodIn_r _ [641, 35, 418, 229, 230, 34, 231, 149, 476, 225, 226, 227, 68, 228, 792, 793, 794, 795, 796, 797, 798, 837, 838, 839, 840, 841, 842, 843] (by decide +kernel) (by decide +kernel)
set_option maxRecDepth 20000 in
theorem gL_law_X6_sourceOf : GoodIn wsL_law (wsV RL 64 RX6 yX6_sourceOf wsX6_sourceOf) := goodIn_app (goodIn_of _ (by decide +kernel)) ggL_law_X6_sourceOf
set_option maxRecDepth 20000 in
theorem ggL_law_X7_sourceOf : GoodIn wsL_law wsX7_sourceOf := goodIn_r _ [645, 303, 447, 448, 449, 5, 450, 323, 351, 352, 353, 799, 800, 801, 802, 803, 804, 805, 806, 807, 808, 809, 810, 811, 812, 813, 814, 815, 816, 817] (by decide +kernel) (by decide +kernel)
set_option maxRecDepth 20000 in
theorem gL_law_X7_sourceOf : GoodIn wsL_law (wsV RL 67 RX7 yX7_sourceOf wsX7_sourceOf) := goodIn_app (goodIn_of _ (by decide +kernel)) ggL_law_X7_sourceOf
set_option maxRecDepth 20000 in
theorem ggL_law_X6_targetOf : GoodIn wsL_law wsX6_targetOf := goodIn_r _ [649, 35, 418, 229, 230, 34, 231, 149, 567, 233, 234, 235, 69, 228, 792, 793, 794, 795, 796, 797, 798, 837, 838, 839, 840, 841, 842, 843] (by decide +kernel) (by decide +kernel)
set_option maxRecDepth 20000 in
theorem gL_law_X6_targetOf : GoodIn wsL_law (wsV RL 68 RX6 yX6_targetOf wsX6_targetOf) := goodIn_app (goodIn_of _ (by decide +kernel)) ggL_law_X6_targetOf
set_option maxRecDepth 20000 in
theorem ggL_law_X7_targetOf : GoodIn wsL_law wsX7_targetOf := goodIn_r _ [653, 304, 447, 448, 449, 5, 450, 323, 351, 352, 353, 799, 800, 801, 802, 803, 804, 805, 806, 807, 808, 809, 810, 811, 812, 813, 814, 815, 816, 817] (by decide +kernel) (by decide +kernel)
set_option maxRecDepth 20000 in
theorem gL_law_X7_targetOf : GoodIn wsL_law (wsV RL 71 RX7 yX7_targetOf wsX7_targetOf) := goodIn_app (goodIn_of _ (by decide +kernel)) ggL_law_X7_targetOf
set_option maxRecDepth 20000 in
theorem ggL_law_X6_weightOf : GoodIn wsL_law wsX6_weightOf := goodIn_r _ [657, 35, 23, 418, 229, 230, 34, 231, 149, 436, 262, 263, 22, 264, 50, 792, 793, 794, 795, 796, 797, 798, 837, 838, 839, 840, 841, 842, 843, 825, 826, 827] (by decide +kernel) (by decide +kernel)
set_option maxRecDepth 20000 in
theorem gL_law_X6_weightOf : GoodIn wsL_law (wsV RL 72 RX6 yX6_weightOf wsX6_weightOf) := goodIn_app (goodIn_of _ (by decide +kernel)) ggL_law_X6_weightOf
set_option maxRecDepth 20000 in
theorem ggL_law_X7_weightOf : GoodIn wsL_law wsX7_weightOf := goodIn_r _ [661, 305, 447, 448, 449, 5, 450, 323, 351, 352, 353, 799, 800, 801, 802, 803, 804, 805, 806, 807, 808, 809, 810, 811, 812, 813, 814, 815, 816, 817] (by decide +kernel) (by decide +kernel)
set_option maxRecDepth 20000 in
theorem gL_law_X7_weightOf : GoodIn wsL_law (wsV RL 75 RX7 yX7_weightOf wsX7_weightOf) := goodIn_app (goodIn_of _ (by decide +kernel)) ggL_law_X7_weightOf
set_option maxRecDepth 20000 in
theorem ggL_law_X6_hasCounter : GoodIn wsL_law wsX6_hasCounter := goodIn_r _ [665, 35, 23, 418, 229, 230, 34, 231, 149, 557, 273, 274, 22, 275, 252, 200, 2, 201, 792, 793, 794, 795, 796, 797, 798, 837, 838, 839, 840, 841, 842, 843, 825, 826, 827] (by decide +kernel) (by decide +kernel)
set_option maxRecDepth 20000 in
theorem gL_law_X6_hasCounter : GoodIn wsL_law (wsV RL 76 RX6 yX6_hasCounter wsX6_hasCounter) := goodIn_app (goodIn_of _ (by decide +kernel)) ggL_law_X6_hasCounter
set_option maxRecDepth 20000 in
theorem ggL_law_X7_hasCounter : GoodIn wsL_law wsX7_hasCounter := goodIn_r _ [669, 447, 448, 449, 5, 450, 323, 351, 352, 353, 505, 506, 507, 508, 305, 799, 800, 801, 802, 803, 804, 805, 806, 807, 808, 809, 810, 811, 812, 813, 814, 815, 816, 817] (by decide +kernel) (by decide +kernel)
set_option maxRecDepth 20000 in
theorem gL_law_X7_hasCounter : GoodIn wsL_law (wsV RL 79 RX7 yX7_hasCounter wsX7_hasCounter) := goodIn_app (goodIn_of _ (by decide +kernel)) ggL_law_X7_hasCounter
set_option maxRecDepth 20000 in
theorem ggL_law_X6_counterCount : GoodIn wsL_law wsX6_counterCount := goodIn_r _ [673, 35, 23, 293, 254, 255, 34, 256, 149, 557, 273, 274, 22, 275, 252, 200, 2, 201, 792, 793, 794, 795, 796, 797, 798, 837, 838, 839, 840, 841, 842, 843, 825, 826, 827] (by decide +kernel) (by decide +kernel)
set_option maxRecDepth 20000 in
theorem gL_law_X6_counterCount : GoodIn wsL_law (wsV RL 80 RX6 yX6_counterCount wsX6_counterCount) := goodIn_app (goodIn_of _ (by decide +kernel)) ggL_law_X6_counterCount
set_option maxRecDepth 20000 in
theorem ggL_law_X7_counterCount : GoodIn wsL_law wsX7_counterCount := goodIn_r _ [677, 323, 505, 506, 507, 5, 508, 305, 799, 800, 801, 802, 803, 804, 805, 806, 807, 808, 809, 810, 811, 812, 813, 814, 815, 816, 817] (by decide +kernel) (by decide +kernel)
set_option maxRecDepth 20000 in
theorem gL_law_X7_counterCount : GoodIn wsL_law (wsV RL 83 RX7 yX7_counterCount wsX7_counterCount) := goodIn_app (goodIn_of _ (by decide +kernel)) ggL_law_X7_counterCount
set_option maxRecDepth 20000 in
theorem ggL_law_X6_placementCost : GoodIn wsL_law wsX6_placementCost := goodIn_r _ [681, 35, 23, 293, 254, 255, 34, 256, 149, 557, 273, 274, 22, 275, 252, 200, 2, 201, 436, 262, 263, 264, 50, 792, 793, 794, 795, 796, 797, 798, 837, 838, 839, 840, 841, 842, 843, 825, 826, 827] (by decide +kernel) (by decide +kernel)
set_option maxRecDepth 20000 in
theorem gL_law_X6_placementCost : GoodIn wsL_law (wsV RL 84 RX6 yX6_placementCost wsX6_placementCost) := goodIn_app (goodIn_of _ (by decide +kernel)) ggL_law_X6_placementCost
set_option maxRecDepth 20000 in
theorem ggL_law_X7_placementCost : GoodIn wsL_law wsX7_placementCost := goodIn_r _ [685, 686, 687, 688, 5, 689, 323, 305, 505, 506, 507, 508, 799, 800, 801, 802, 803, 804, 805, 806, 807, 808, 809, 810, 811, 812, 813, 814, 815, 816, 817] (by decide +kernel) (by decide +kernel)
set_option maxRecDepth 20000 in
theorem gL_law_X7_placementCost : GoodIn wsL_law (wsV RL 87 RX7 yX7_placementCost wsX7_placementCost) := goodIn_app (goodIn_of _ (by decide +kernel)) ggL_law_X7_placementCost
set_option maxRecDepth 20000 in
theorem ggL_law_X6_costShareBits : GoodIn wsL_law wsX6_costShareBits := goodIn_r _ [693, 35, 23, 293, 254, 255, 34, 256, 149, 436, 262, 263, 22, 264, 50, 694, 679, 680, 2, 681, 557, 273, 274, 275, 252, 200, 201, 695, 696, 697, 698, 792, 793, 794, 795, 796, 797, 798, 837, 838, 839, 840, 841, 842, 843, 825, 826, 827] (by decide +kernel) (by decide +kernel)
set_option maxRecDepth 20000 in
theorem gL_law_X6_costShareBits : GoodIn wsL_law (wsV RL 88 RX6 yX6_costShareBits wsX6_costShareBits) := goodIn_app (goodIn_of _ (by decide +kernel)) ggL_law_X6_costShareBits
set_option maxRecDepth 20000 in
theorem ggL_law_X7_costShareBits : GoodIn wsL_law wsX7_costShareBits := goodIn_r _ [702, 686, 687, 688, 5, 689, 323, 305, 505, 506, 507, 508, 703, 704, 705, 706, 707, 708, 709, 710, 711, 712, 713, 714, 799, 800, 801, 802, 803, 804, 805, 806, 807, 808, 809, 810, 811, 812, 813, 814, 815, 816, 817] (by decide +kernel) (by decide +kernel)
set_option maxRecDepth 20000 in
theorem gL_law_X7_costShareBits : GoodIn wsL_law (wsV RL 91 RX7 yX7_costShareBits wsX7_costShareBits) := goodIn_app (goodIn_of _ (by decide +kernel)) ggL_law_X7_costShareBits
set_option maxRecDepth 20000 in
theorem ggL_law_X6_counter : GoodIn wsL_law wsX6_counter := goodIn_r _ [718, 35, 23, 27, 418, 229, 230, 34, 231, 149, 557, 273, 274, 22, 275, 252, 200, 2, 201, 576, 492, 493, 26, 494, 55, 792, 793, 794, 795, 796, 797, 798, 837, 838, 839, 840, 841, 842, 843, 825, 826, 827, 828, 829, 830, 831, 832] (by decide +kernel) (by decide +kernel)
set_option maxRecDepth 20000 in
theorem gL_law_X6_counter : GoodIn wsL_law (wsV RL 92 RX6 yX6_counter wsX6_counter) := goodIn_app (goodIn_of _ (by decide +kernel)) ggL_law_X6_counter
set_option maxRecDepth 20000 in
theorem ggL_law_X7_counter : GoodIn wsL_law wsX7_counter := goodIn_r _ [722, 305, 447, 448, 449, 5, 450, 323, 351, 352, 353, 505, 506, 507, 508, 799, 800, 801, 802, 803, 804, 805, 806, 807, 808, 809, 810, 811, 812, 813, 814, 815, 816, 817] (by decide +kernel) (by decide +kernel)
set_option maxRecDepth 20000 in
theorem gL_law_X7_counter : GoodIn wsL_law (wsV RL 95 RX7 yX7_counter wsX7_counter) := goodIn_app (goodIn_of _ (by decide +kernel)) ggL_law_X7_counter
set_option maxRecDepth 20000 in
theorem ggL_law_X6_trueCount : GoodIn wsL_law wsX6_trueCount := goodIn_r _ [726, 35, 27, 418, 229, 230, 34, 231, 149, 727, 728, 729, 26, 730, 56, 792, 793, 794, 795, 796, 797, 798, 837, 838, 839, 840, 841, 842, 843, 828, 829, 830, 831, 832] (by decide +kernel) (by decide +kernel)
set_option maxRecDepth 20000 in
theorem gL_law_X6_trueCount : GoodIn wsL_law (wsV RL 96 RX6 yX6_trueCount wsX6_trueCount) := goodIn_app (goodIn_of _ (by decide +kernel)) ggL_law_X6_trueCount
set_option maxRecDepth 20000 in
theorem ggL_law_X7_trueCount : GoodIn wsL_law wsX7_trueCount := goodIn_r _ [734, 305, 447, 448, 449, 5, 450, 323, 351, 352, 353, 799, 800, 801, 802, 803, 804, 805, 806, 807, 808, 809, 810, 811, 812, 813, 814, 815, 816, 817] (by decide +kernel) (by decide +kernel)
set_option maxRecDepth 20000 in
theorem gL_law_X7_trueCount : GoodIn wsL_law (wsV RL 99 RX7 yX7_trueCount wsX7_trueCount) := goodIn_app (goodIn_of _ (by decide +kernel)) ggL_law_X7_trueCount
set_option maxRecDepth 20000 in
theorem ggL_law_X6_reconstruct : GoodIn wsL_law wsX6_reconstruct := goodIn_r _ [738, 35, 418, 229, 230, 34, 231, 149, 553, 554, 555, 2, 556, 23, 557, 273, 274, 22, 275, 252, 200, 201, 558, 559, 560, 561, 27, 562, 488, 489, 26, 490, 281, 491, 492, 493, 494, 55, 293, 254, 255, 256, 563, 564, 565, 566, 476, 225, 226, 227, 68, 228, 567, 233, 234, 235, 69, 568, 569, 570, 571, 51, 572, 573, 574, 575, 576, 577, 578, 579, 580, 477, 478, 479, 480, 286, 581, 183, 184, 185, 148, 792, 793, 794, 795, 796, 797, 798, 837, 838, 839, 840, 841, 842, 843, 825, 826, 827, 828, 829, 830, 831, 832] (by decide +kernel) (by decide +kernel)
set_option maxRecDepth 20000 in
theorem gL_law_X6_reconstruct : GoodIn wsL_law (wsV RL 100 RX6 yX6_reconstruct wsX6_reconstruct) := goodIn_app (goodIn_of _ (by decide +kernel)) ggL_law_X6_reconstruct
set_option maxRecDepth 20000 in
theorem ggL_law_X7_reconstruct : GoodIn wsL_law wsX7_reconstruct := goodIn_r _ [742, 447, 448, 449, 5, 450, 323, 351, 352, 353, 586, 587, 588, 589, 505, 506, 507, 508, 305, 590, 591, 592, 593, 594, 595, 596, 597, 304, 303, 330, 331, 332, 333, 322, 598, 599, 600, 601, 602, 603, 604, 799, 800, 801, 802, 803, 804, 805, 806, 807, 808, 809, 810, 811, 812, 813, 814, 815, 816, 817] (by decide +kernel) (by decide +kernel)
set_option maxRecDepth 20000 in
theorem gL_law_X7_reconstruct : GoodIn wsL_law (wsV RL 103 RX7 yX7_reconstruct wsX7_reconstruct) := goodIn_app (goodIn_of _ (by decide +kernel)) ggL_law_X7_reconstruct
set_option maxRecDepth 20000 in
theorem ggL_law_X6_coefficient : GoodIn wsL_law wsX6_coefficient := goodIn_r _ [746, 35, 23, 418, 229, 230, 34, 231, 149, 557, 273, 274, 22, 275, 252, 200, 2, 201, 563, 564, 565, 566, 476, 225, 226, 227, 68, 228, 567, 233, 234, 235, 69, 568, 569, 570, 571, 51, 792, 793, 794, 795, 796, 797, 798, 837, 838, 839, 840, 841, 842, 843, 825, 826, 827] (by decide +kernel) (by decide +kernel)
set_option maxRecDepth 20000 in
theorem gL_law_X6_coefficient : GoodIn wsL_law (wsV RL 104 RX6 yX6_coefficient wsX6_coefficient) := goodIn_app (goodIn_of _ (by decide +kernel)) ggL_law_X6_coefficient
set_option maxRecDepth 20000 in
theorem ggL_law_X7_coefficient : GoodIn wsL_law wsX7_coefficient := goodIn_r _ [750, 447, 448, 449, 5, 450, 323, 351, 352, 353, 505, 506, 507, 508, 305, 594, 595, 596, 597, 304, 303, 330, 331, 332, 333, 322, 598, 599, 600, 799, 800, 801, 802, 803, 804, 805, 806, 807, 808, 809, 810, 811, 812, 813, 814, 815, 816, 817] (by decide +kernel) (by decide +kernel)
set_option maxRecDepth 20000 in
theorem gL_law_X7_coefficient : GoodIn wsL_law (wsV RL 107 RX7 yX7_coefficient wsX7_coefficient) := goodIn_app (goodIn_of _ (by decide +kernel)) ggL_law_X7_coefficient
set_option maxRecDepth 20000 in
theorem ggL_law_X6_executions : GoodIn wsL_law wsX6_executions := goodIn_r _ [754, 35, 27, 755, 179, 180, 34, 181, 148, 513, 514, 515, 26, 516, 287, 477, 478, 479, 480, 286, 293, 254, 255, 256, 149, 567, 233, 234, 235, 69, 228, 229, 230, 231, 553, 554, 555, 2, 556, 23, 557, 273, 274, 22, 275, 252, 200, 201, 558, 559, 560, 561, 562, 488, 489, 490, 281, 491, 492, 493, 494, 55, 563, 564, 565, 566, 476, 225, 226, 227, 68, 568, 569, 570, 571, 51, 572, 573, 574, 575, 576, 577, 578, 579, 580, 581, 183, 184, 185, 792, 793, 794, 795, 796, 797, 798, 837, 838, 839, 840, 841, 842, 843, 828, 829, 830, 831, 832, 825, 826, 827] (by decide +kernel) (by decide +kernel)
set_option maxRecDepth 20000 in
theorem gL_law_X6_executions : GoodIn wsL_law (wsV RL 108 RX6 yX6_executions wsX6_executions) := goodIn_app (goodIn_of _ (by decide +kernel)) ggL_law_X6_executions
set_option maxRecDepth 20000 in
theorem ggL_law_X7_executions : GoodIn wsL_law wsX7_executions := goodIn_r _ [759, 322, 305, 323, 304, 351, 352, 5, 353, 586, 587, 588, 589, 505, 506, 507, 508, 590, 591, 592, 593, 594, 595, 596, 597, 303, 330, 331, 332, 333, 598, 599, 600, 601, 602, 603, 604, 799, 800, 801, 802, 803, 804, 805, 806, 807, 808, 809, 810, 811, 812, 813, 814, 815, 816, 817] (by decide +kernel) (by decide +kernel)
set_option maxRecDepth 20000 in
theorem gL_law_X7_executions : GoodIn wsL_law (wsV RL 111 RX7 yX7_executions wsX7_executions) := goodIn_app (goodIn_of _ (by decide +kernel)) ggL_law_X7_executions
set_option maxRecDepth 20000 in
theorem ggL_law_X6_dependents : GoodIn wsL_law wsX6_dependents := goodIn_r _ [763, 35, 23, 418, 229, 230, 34, 231, 149, 557, 273, 274, 22, 275, 252, 200, 2, 201, 293, 254, 255, 256, 563, 564, 565, 566, 476, 225, 226, 227, 68, 228, 567, 233, 234, 235, 69, 568, 569, 570, 571, 51, 792, 793, 794, 795, 796, 797, 798, 837, 838, 839, 840, 841, 842, 843, 825, 826, 827] (by decide +kernel) (by decide +kernel)
set_option maxRecDepth 20000 in
theorem gL_law_X6_dependents : GoodIn wsL_law (wsV RL 112 RX6 yX6_dependents wsX6_dependents) := goodIn_app (goodIn_of _ (by decide +kernel)) ggL_law_X6_dependents
set_option maxRecDepth 20000 in
theorem ggL_law_X7_dependents : GoodIn wsL_law wsX7_dependents := goodIn_r _ [767, 323, 447, 448, 449, 5, 450, 351, 352, 353, 505, 506, 507, 508, 305, 594, 595, 596, 597, 304, 303, 330, 331, 332, 333, 322, 598, 599, 600, 799, 800, 801, 802, 803, 804, 805, 806, 807, 808, 809, 810, 811, 812, 813, 814, 815, 816, 817] (by decide +kernel) (by decide +kernel)
set_option maxRecDepth 20000 in
theorem gL_law_X7_dependents : GoodIn wsL_law (wsV RL 115 RX7 yX7_dependents wsX7_dependents) := goodIn_app (goodIn_of _ (by decide +kernel)) ggL_law_X7_dependents
set_option maxRecDepth 20000 in
theorem ggL_law_X6_saturatedCount : GoodIn wsL_law wsX6_saturatedCount := goodIn_r _ [771, 35, 293, 254, 255, 34, 256, 149, 558, 559, 560, 2, 561, 23, 27, 557, 273, 274, 22, 275, 252, 200, 201, 562, 488, 489, 26, 490, 281, 491, 492, 493, 494, 55, 792, 793, 794, 795, 796, 797, 798, 837, 838, 839, 840, 841, 842, 843, 825, 826, 827, 828, 829, 830, 831, 832] (by decide +kernel) (by decide +kernel)
set_option maxRecDepth 20000 in
theorem gL_law_X6_saturatedCount : GoodIn wsL_law (wsV RL 116 RX6 yX6_saturatedCount wsX6_saturatedCount) := goodIn_app (goodIn_of _ (by decide +kernel)) ggL_law_X6_saturatedCount
set_option maxRecDepth 20000 in
theorem ggL_law_X7_saturatedCount : GoodIn wsL_law wsX7_saturatedCount := goodIn_r _ [775, 323, 590, 591, 592, 5, 593, 305, 505, 506, 507, 508, 799, 800, 801, 802, 803, 804, 805, 806, 807, 808, 809, 810, 811, 812, 813, 814, 815, 816, 817] (by decide +kernel) (by decide +kernel)
set_option maxRecDepth 20000 in
theorem gL_law_X7_saturatedCount : GoodIn wsL_law (wsV RL 119 RX7 yX7_saturatedCount wsX7_saturatedCount) := goodIn_app (goodIn_of _ (by decide +kernel)) ggL_law_X7_saturatedCount
set_option maxRecDepth 20000 in
theorem ggL_law_X6_presentBlock : GoodIn wsL_law wsX6_presentBlock := goodIn_r _ [779, 27, 477, 478, 479, 26, 480, 286, 792, 793, 794, 795, 796, 797, 798, 828, 829, 830, 831, 832] (by decide +kernel) (by decide +kernel)
set_option maxRecDepth 20000 in
theorem gL_law_X6_presentBlock : GoodIn wsL_law (wsV RL 120 RX6 yX6_presentBlock wsX6_presentBlock) := goodIn_app (goodIn_of _ (by decide +kernel)) ggL_law_X6_presentBlock
set_option maxRecDepth 20000 in
theorem ggL_law_X7_presentBlock : GoodIn wsL_law wsX7_presentBlock := goodIn_r _ [783, 305, 799, 800, 801, 802, 803, 804, 805, 806, 807, 808, 809, 810, 811, 812, 813, 814, 815, 816, 817] (by decide +kernel) (by decide +kernel)
set_option maxRecDepth 20000 in
theorem gL_law_X7_presentBlock : GoodIn wsL_law (wsV RL 123 RX7 yX7_presentBlock wsX7_presentBlock) := goodIn_app (goodIn_of _ (by decide +kernel)) ggL_law_X7_presentBlock
set_option maxRecDepth 20000 in
theorem ggL_law_X6_finishedRuns : GoodIn wsL_law wsX6_finishedRuns := goodIn_r _ [787, 27, 513, 514, 515, 26, 516, 287, 792, 793, 794, 795, 796, 797, 798, 828, 829, 830, 831, 832] (by decide +kernel) (by decide +kernel)
set_option maxRecDepth 20000 in
theorem gL_law_X6_finishedRuns : GoodIn wsL_law (wsV RL 124 RX6 yX6_finishedRuns wsX6_finishedRuns) := goodIn_app (goodIn_of _ (by decide +kernel)) ggL_law_X6_finishedRuns
set_option maxRecDepth 20000 in
theorem ggL_law_X7_finishedRuns : GoodIn wsL_law wsX7_finishedRuns := goodIn_r _ [791, 305, 799, 800, 801, 802, 803, 804, 805, 806, 807, 808, 809, 810, 811, 812, 813, 814, 815, 816, 817] (by decide +kernel) (by decide +kernel)
set_option maxRecDepth 20000 in
theorem gL_law_X7_finishedRuns : GoodIn wsL_law (wsV RL 127 RX7 yX7_finishedRuns wsX7_finishedRuns) := goodIn_app (goodIn_of _ (by decide +kernel)) ggL_law_X7_finishedRuns
