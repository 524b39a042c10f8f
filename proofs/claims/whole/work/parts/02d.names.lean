theorem dX5_takeAbort_0 : decode cX5_takeAbort 0 = .ok (.aload_n 0, 1) := by decide +kernel
theorem dX5_takeAbort_1 : decode cX5_takeAbort 1 = .ok (.getfield 11, 3) := by decide +kernel
theorem dX5_takeAbort_4 : decode cX5_takeAbort 4 = .ok (.iconst 0, 1) := by decide +kernel
theorem dX5_takeAbort_5 : decode cX5_takeAbort 5 = .ok (.iaload, 1) := by decide +kernel
theorem dX5_takeAbort_6 : decode cX5_takeAbort 6 = .ok (.istore_n 2, 1) := by decide +kernel
theorem dX5_takeAbort_7 : decode cX5_takeAbort 7 = .ok (.aload_n 1, 1) := by decide +kernel
theorem dX5_takeAbort_8 : decode cX5_takeAbort 8 = .ok (.iload_n 2, 1) := by decide +kernel
theorem dX5_takeAbort_9 : decode cX5_takeAbort 9 = .ok (.invokevirtual 66, 3) := by decide +kernel
theorem dX5_takeAbort_12 : decode cX5_takeAbort 12 = .ok (.ifCond .eq 11, 3) := by decide +kernel
theorem dX5_takeAbort_15 : decode cX5_takeAbort 15 = .ok (.iload_n 2, 1) := by decide +kernel
theorem dX5_takeAbort_16 : decode cX5_takeAbort 16 = .ok (.aload_n 1, 1) := by decide +kernel
theorem dX5_takeAbort_17 : decode cX5_takeAbort 17 = .ok (.invokevirtual 70, 3) := by decide +kernel
theorem dX5_takeAbort_20 : decode cX5_takeAbort 20 = .ok (.if_icmp .ne 5, 3) := by decide +kernel
theorem dX5_takeAbort_23 : decode cX5_takeAbort 23 = .ok (.iconst 3, 1) := by decide +kernel
theorem dX5_takeAbort_24 : decode cX5_takeAbort 24 = .ok (.ireturn, 1) := by decide +kernel
theorem dX5_takeAbort_25 : decode cX5_takeAbort 25 = .ok (.aload_n 0, 1) := by decide +kernel
theorem dX5_takeAbort_26 : decode cX5_takeAbort 26 = .ok (.getfield 31, 3) := by decide +kernel
theorem dX5_takeAbort_29 : decode cX5_takeAbort 29 = .ok (.iload_n 2, 1) := by decide +kernel
theorem dX5_takeAbort_30 : decode cX5_takeAbort 30 = .ok (.invokestatic 81, 3) := by decide +kernel
theorem dX5_takeAbort_33 : decode cX5_takeAbort 33 = .ok (.ifCond .eq 5, 3) := by decide +kernel
theorem dX5_takeAbort_36 : decode cX5_takeAbort 36 = .ok (.iconst 4, 1) := by decide +kernel
theorem dX5_takeAbort_37 : decode cX5_takeAbort 37 = .ok (.ireturn, 1) := by decide +kernel
theorem dX5_takeAbort_38 : decode cX5_takeAbort 38 = .ok (.aload_n 1, 1) := by decide +kernel
theorem dX5_takeAbort_39 : decode cX5_takeAbort 39 = .ok (.invokevirtual 73, 3) := by decide +kernel
theorem dX5_takeAbort_42 : decode cX5_takeAbort 42 = .ok (.ifCond .eq 5, 3) := by decide +kernel
theorem dX5_takeAbort_45 : decode cX5_takeAbort 45 = .ok (.iconst 5, 1) := by decide +kernel
theorem dX5_takeAbort_46 : decode cX5_takeAbort 46 = .ok (.ireturn, 1) := by decide +kernel
theorem dX5_takeAbort_47 : decode cX5_takeAbort 47 = .ok (.aload_n 0, 1) := by decide +kernel
theorem dX5_takeAbort_48 : decode cX5_takeAbort 48 = .ok (.dup, 1) := by decide +kernel
theorem dX5_takeAbort_49 : decode cX5_takeAbort 49 = .ok (.getfield 31, 3) := by decide +kernel
theorem dX5_takeAbort_52 : decode cX5_takeAbort 52 = .ok (.iconst 1, 1) := by decide +kernel
theorem dX5_takeAbort_53 : decode cX5_takeAbort 53 = .ok (.iload_n 2, 1) := by decide +kernel
theorem dX5_takeAbort_54 : decode cX5_takeAbort 54 = .ok (.ishl, 1) := by decide +kernel
theorem dX5_takeAbort_55 : decode cX5_takeAbort 55 = .ok (.ior, 1) := by decide +kernel
theorem dX5_takeAbort_56 : decode cX5_takeAbort 56 = .ok (.putfield 31, 3) := by decide +kernel
theorem dX5_takeAbort_59 : decode cX5_takeAbort 59 = .ok (.aload_n 1, 1) := by decide +kernel
theorem dX5_takeAbort_60 : decode cX5_takeAbort 60 = .ok (.iload_n 2, 1) := by decide +kernel
theorem dX5_takeAbort_61 : decode cX5_takeAbort 61 = .ok (.aload_n 1, 1) := by decide +kernel
theorem dX5_takeAbort_62 : decode cX5_takeAbort 62 = .ok (.invokevirtual 70, 3) := by decide +kernel
theorem dX5_takeAbort_65 : decode cX5_takeAbort 65 = .ok (.iconst 0, 1) := by decide +kernel
theorem dX5_takeAbort_66 : decode cX5_takeAbort 66 = .ok (.invokevirtual 77, 3) := by decide +kernel
theorem dX5_takeAbort_69 : decode cX5_takeAbort 69 = .ok (.iconst 0, 1) := by decide +kernel
theorem dX5_takeAbort_70 : decode cX5_takeAbort 70 = .ok (.ireturn, 1) := by decide +kernel
set_option maxRecDepth 20000 in
theorem ggX6_init_X1_init : GoodIn wsX6_init wsX1_init := goodIn_r _ [30, 31, 2, 3, 32, 33, 291, 292] (by decide +kernel) (by decide +kernel)
set_option maxRecDepth 20000 in
theorem gX6_init_X1_init_n9 : GoodIn wsX6_init (wsX1_init) := ggX6_init_X1_init
set_option maxRecDepth 20000 in
theorem ggX6_init_X5_init : GoodIn wsX6_init wsX5_init := goodIn_r _ [35, 36, 2, 3, 37, 38, 300, 301, 302, 303, 304] (by decide +kernel) (by decide +kernel)
set_option maxRecDepth 20000 in
theorem gX6_init_X5_init_n18 : GoodIn wsX6_init (wsX5_init) := ggX6_init_X5_init
set_option maxRecDepth 20000 in
theorem ggX6_init_X3_init : GoodIn wsX6_init wsX3_init := goodIn_r _ [40, 41, 2, 3, 37, 42, 43, 305, 306, 307] (by decide +kernel) (by decide +kernel)
set_option maxRecDepth 20000 in
theorem gX6_init_X3_init_n25 : GoodIn wsX6_init (wsX3_init) := ggX6_init_X3_init
set_option maxRecDepth 20000 in
theorem ggX6_init_X4_init : GoodIn wsX6_init wsX4_init := goodIn_r _ [45, 46, 2, 3, 37, 47, 48, 308, 309, 310, 311, 312] (by decide +kernel) (by decide +kernel)
set_option maxRecDepth 20000 in
theorem gX6_init_X4_init_n32 : GoodIn wsX6_init (wsX4_init) := ggX6_init_X4_init
set_option maxRecDepth 20000 in
theorem ggX6_init_X2_init : GoodIn wsX6_init wsX2_init := goodIn_r _ [51, 52, 2, 3, 53, 54, 55, 56, 13, 14, 17, 18, 39, 40, 41, 37, 42, 43, 44, 45, 46, 47, 48, 313, 314, 315, 316, 305, 306, 307, 308, 309, 310, 311, 312] (by decide +kernel) (by decide +kernel)
set_option maxRecDepth 20000 in
theorem gX6_init_X2_init : GoodIn wsX6_init (wsX2_init) := ggX6_init_X2_init
set_option maxRecDepth 20000 in
theorem ggX6_init_X0_init : GoodIn wsX6_init wsX0_init := goodIn_r _ [58, 59, 2, 3, 37, 60, 61, 62, 63, 64, 65, 317, 318, 319, 320, 321, 322, 323] (by decide +kernel) (by decide +kernel)
set_option maxRecDepth 20000 in
theorem gX6_init_X0_init_n46 : GoodIn wsX6_init (wsX0_init) := ggX6_init_X0_init
set_option maxRecDepth 20000 in
theorem ggX6_init_J0_length_8abf5 : GoodIn wsX6_init wsJ0_length_8abf5 := goodIn_r _ [70, 71, 72, 73, 74, 69, 75, 76, 77] (by decide +kernel) (by decide +kernel)
set_option maxRecDepth 20000 in
theorem gX6_init_J0_length_8abf5 : GoodIn wsX6_init (wsV RX6 56 RJ0 yJ0_length_8abf5 wsJ0_length_8abf5) := goodIn_app (goodIn_of _ (by decide +kernel)) ggX6_init_J0_length_8abf5
set_option maxRecDepth 20000 in
theorem ggX6_init_J0_charAt_5068e : GoodIn wsX6_init wsJ0_charAt_5068e := goodIn_r _ [81, 71, 82, 83, 84, 69, 85, 76, 77, 86, 87, 88, 89, 90, 91, 92, 93, 94, 95, 96, 97, 98, 99, 100, 101, 102, 103, 104, 105, 106, 107, 108, 109, 110, 111, 112, 113, 114] (by decide +kernel) (by decide +kernel)
set_option maxRecDepth 20000 in
theorem gX6_init_J0_charAt_5068e : GoodIn wsX6_init (wsV RX6 62 RJ0 yJ0_charAt_5068e wsJ0_charAt_5068e) := goodIn_app (goodIn_of _ (by decide +kernel)) ggX6_init_J0_charAt_5068e
set_option maxRecDepth 20000 in
theorem ggX6_init_X1_add : GoodIn wsX6_init wsX1_add := goodIn_r _ [118, 33, 119, 120, 121, 122, 6, 123, 291, 292] (by decide +kernel) (by decide +kernel)
set_option maxRecDepth 20000 in
theorem gX6_init_X1_add : GoodIn wsX6_init (wsV RX6 66 RX1 yX1_add wsX1_add) := goodIn_app (goodIn_of _ (by decide +kernel)) ggX6_init_X1_add
set_option maxRecDepth 20000 in
theorem ggX6_init_X6_configure : GoodIn wsX6_init wsX6_configure := goodIn_r _ [128, 11, 7, 28, 15, 27, 19, 23, 129, 130, 131, 10, 132, 133, 134, 135, 136, 137, 138, 139, 26, 140, 141, 142, 65, 143, 144, 145, 6, 146, 119, 147, 148, 149, 150, 151, 152, 153, 154, 33, 155, 156, 157, 158, 38, 159, 160, 161, 162, 163, 164, 165, 166, 167, 168, 169, 170, 171, 172, 173, 174, 175, 176, 177, 178, 179, 180, 181, 182, 183, 184, 185, 186, 60, 61, 62, 64, 187, 188, 189, 190, 191, 192, 193, 194, 195, 196, 197, 127, 198, 199, 200, 201, 202, 203, 204, 205, 206, 207, 208, 209, 210, 211, 212, 213, 214, 215, 216, 217, 218, 219, 220, 221, 222, 223, 224, 225, 226, 227, 228, 229, 230, 231, 232, 233, 234, 235, 14, 236, 42, 237, 238, 239, 240, 241, 242, 243, 244, 245, 246, 247, 248, 249, 250, 251, 252, 253, 254, 255, 256, 257, 258, 259, 260, 261, 262, 263, 264, 43, 265, 266, 267, 268, 269, 270, 271, 18, 272, 273, 274, 275, 276, 277, 278, 47, 48, 279, 280, 281, 282, 283, 22, 284, 285, 286, 293, 294, 295, 296, 297, 298, 299, 300, 301, 302, 303, 304, 317, 318, 319, 320, 321, 322, 323, 291, 292, 305, 306, 307, 308, 309, 310, 311, 312, 313, 314, 315, 316] (by decide +kernel) (by decide +kernel)
set_option maxRecDepth 20000 in
theorem gX6_init_X6_configure : GoodIn wsX6_init (wsV RX6 70 RX6 yX6_configure wsX6_configure) := goodIn_app (goodIn_of _ (by decide +kernel)) ggX6_init_X6_configure
set_option maxRecDepth 20000 in
theorem ggX6_init_X1_clear : GoodIn wsX6_init wsX1_clear := goodIn_r _ [290, 119, 291, 292] (by decide +kernel) (by decide +kernel)
set_option maxRecDepth 20000 in
theorem gX6_init_X1_clear : GoodIn wsX6_init (wsV RX6 73 RX1 yX1_clear wsX1_clear) := goodIn_app (goodIn_of _ (by decide +kernel)) ggX6_init_X1_clear
theorem dX6_init_0 : decode cX6_init 0 = .ok (.aload_n 0, 1) := by decide +kernel
theorem dX6_init_1 : decode cX6_init 1 = .ok (.invokespecial 1, 3) := by decide +kernel
theorem dX6_init_4 : decode cX6_init 4 = .ok (.aload_n 0, 1) := by decide +kernel
theorem dX6_init_5 : decode cX6_init 5 = .ok (.new 7, 3) := by decide +kernel
theorem dX6_init_8 : decode cX6_init 8 = .ok (.dup, 1) := by decide +kernel
theorem dX6_init_9 : decode cX6_init 9 = .ok (.invokespecial 9, 3) := by decide +kernel
theorem dX6_init_12 : decode cX6_init 12 = .ok (.putfield 10, 3) := by decide +kernel
theorem dX6_init_15 : decode cX6_init 15 = .ok (.aload_n 0, 1) := by decide +kernel
theorem dX6_init_16 : decode cX6_init 16 = .ok (.new 16, 3) := by decide +kernel
theorem dX6_init_19 : decode cX6_init 19 = .ok (.dup, 1) := by decide +kernel
theorem dX6_init_20 : decode cX6_init 20 = .ok (.invokespecial 18, 3) := by decide +kernel
theorem dX6_init_23 : decode cX6_init 23 = .ok (.putfield 19, 3) := by decide +kernel
theorem dX6_init_26 : decode cX6_init 26 = .ok (.aload_n 0, 1) := by decide +kernel
theorem dX6_init_27 : decode cX6_init 27 = .ok (.new 23, 3) := by decide +kernel
theorem dX6_init_30 : decode cX6_init 30 = .ok (.dup, 1) := by decide +kernel
theorem dX6_init_31 : decode cX6_init 31 = .ok (.invokespecial 25, 3) := by decide +kernel
theorem dX6_init_34 : decode cX6_init 34 = .ok (.putfield 26, 3) := by decide +kernel
theorem dX6_init_37 : decode cX6_init 37 = .ok (.aload_n 0, 1) := by decide +kernel
theorem dX6_init_38 : decode cX6_init 38 = .ok (.new 30, 3) := by decide +kernel
theorem dX6_init_41 : decode cX6_init 41 = .ok (.dup, 1) := by decide +kernel
theorem dX6_init_42 : decode cX6_init 42 = .ok (.invokespecial 32, 3) := by decide +kernel
theorem dX6_init_45 : decode cX6_init 45 = .ok (.putfield 33, 3) := by decide +kernel
theorem dX6_init_48 : decode cX6_init 48 = .ok (.aload_n 0, 1) := by decide +kernel
theorem dX6_init_49 : decode cX6_init 49 = .ok (.new 37, 3) := by decide +kernel
theorem dX6_init_52 : decode cX6_init 52 = .ok (.dup, 1) := by decide +kernel
theorem dX6_init_53 : decode cX6_init 53 = .ok (.invokespecial 39, 3) := by decide +kernel
theorem dX6_init_56 : decode cX6_init 56 = .ok (.putfield 40, 3) := by decide +kernel
theorem dX6_init_59 : decode cX6_init 59 = .ok (.aload_n 0, 1) := by decide +kernel
theorem dX6_init_60 : decode cX6_init 60 = .ok (.new 44, 3) := by decide +kernel
theorem dX6_init_63 : decode cX6_init 63 = .ok (.dup, 1) := by decide +kernel
theorem dX6_init_64 : decode cX6_init 64 = .ok (.invokespecial 46, 3) := by decide +kernel
theorem dX6_init_67 : decode cX6_init 67 = .ok (.putfield 47, 3) := by decide +kernel
theorem dX6_init_70 : decode cX6_init 70 = .ok (.aload_n 0, 1) := by decide +kernel
theorem dX6_init_71 : decode cX6_init 71 = .ok (.new 44, 3) := by decide +kernel
theorem dX6_init_74 : decode cX6_init 74 = .ok (.dup, 1) := by decide +kernel
theorem dX6_init_75 : decode cX6_init 75 = .ok (.invokespecial 46, 3) := by decide +kernel
theorem dX6_init_78 : decode cX6_init 78 = .ok (.putfield 51, 3) := by decide +kernel
theorem dX6_init_81 : decode cX6_init 81 = .ok (.iconst 0, 1) := by decide +kernel
theorem dX6_init_82 : decode cX6_init 82 = .ok (.istore_n 1, 1) := by decide +kernel
theorem dX6_init_83 : decode cX6_init 83 = .ok (.iload_n 1, 1) := by decide +kernel
theorem dX6_init_84 : decode cX6_init 84 = .ok (.ldc 54, 2) := by decide +kernel
theorem dX6_init_86 : decode cX6_init 86 = .ok (.invokevirtual 56, 3) := by decide +kernel
theorem dX6_init_89 : decode cX6_init 89 = .ok (.if_icmp .ge 22, 3) := by decide +kernel
theorem dX6_init_92 : decode cX6_init 92 = .ok (.aload_n 0, 1) := by decide +kernel
theorem dX6_init_93 : decode cX6_init 93 = .ok (.getfield 10, 3) := by decide +kernel
theorem dX6_init_96 : decode cX6_init 96 = .ok (.ldc 54, 2) := by decide +kernel
theorem dX6_init_98 : decode cX6_init 98 = .ok (.iload_n 1, 1) := by decide +kernel
theorem dX6_init_99 : decode cX6_init 99 = .ok (.invokevirtual 62, 3) := by decide +kernel
theorem dX6_init_102 : decode cX6_init 102 = .ok (.invokevirtual 66, 3) := by decide +kernel
theorem dX6_init_105 : decode cX6_init 105 = .ok (.iinc 1 1, 3) := by decide +kernel
theorem dX6_init_108 : decode cX6_init 108 = .ok (.goto (-25), 3) := by decide +kernel
theorem dX6_init_111 : decode cX6_init 111 = .ok (.aload_n 0, 1) := by decide +kernel
theorem dX6_init_112 : decode cX6_init 112 = .ok (.invokevirtual 70, 3) := by decide +kernel
theorem dX6_init_115 : decode cX6_init 115 = .ok (.pop, 1) := by decide +kernel
theorem dX6_init_116 : decode cX6_init 116 = .ok (.aload_n 0, 1) := by decide +kernel
theorem dX6_init_117 : decode cX6_init 117 = .ok (.getfield 10, 3) := by decide +kernel
theorem dX6_init_120 : decode cX6_init 120 = .ok (.invokevirtual 73, 3) := by decide +kernel
theorem dX6_init_123 : decode cX6_init 123 = .ok (.return_, 1) := by decide +kernel
set_option maxRecDepth 20000 in
theorem ggX6_append_X1_isFull : GoodIn wsX6_append wsX1_isFull := goodIn_r _ [6, 7, 25, 26] (by decide +kernel) (by decide +kernel)
set_option maxRecDepth 20000 in
theorem gX6_append_X1_isFull : GoodIn wsX6_append (wsV RX6 76 RX1 yX1_isFull wsX1_isFull) := goodIn_app (goodIn_of _ (by decide +kernel)) ggX6_append_X1_isFull
set_option maxRecDepth 20000 in
theorem ggX6_append_X1_add : GoodIn wsX6_append wsX1_add := goodIn_r _ [11, 12, 7, 13, 3, 4, 5, 6, 25, 26] (by decide +kernel) (by decide +kernel)
set_option maxRecDepth 20000 in
theorem gX6_append_X1_add : GoodIn wsX6_append (wsV RX6 66 RX1 yX1_add wsX1_add) := goodIn_app (goodIn_of _ (by decide +kernel)) ggX6_append_X1_add
set_option maxRecDepth 20000 in
theorem ggX6_append_X1_length : GoodIn wsX6_append wsX1_length := goodIn_r _ [17, 7, 25, 26] (by decide +kernel) (by decide +kernel)
set_option maxRecDepth 20000 in
theorem gX6_append_X1_length : GoodIn wsX6_append (wsV RX6 80 RX1 yX1_length wsX1_length) := goodIn_app (goodIn_of _ (by decide +kernel)) ggX6_append_X1_length
theorem dX6_append_0 : decode cX6_append 0 = .ok (.iload_n 1, 1) := by decide +kernel
theorem dX6_append_1 : decode cX6_append 1 = .ok (.bipush 32, 2) := by decide +kernel
theorem dX6_append_3 : decode cX6_append 3 = .ok (.if_icmp .lt 9, 3) := by decide +kernel
theorem dX6_append_6 : decode cX6_append 6 = .ok (.iload_n 1, 1) := by decide +kernel
theorem dX6_append_7 : decode cX6_append 7 = .ok (.bipush 126, 2) := by decide +kernel
theorem dX6_append_9 : decode cX6_append 9 = .ok (.if_icmp .le 6, 3) := by decide +kernel
theorem dX6_append_12 : decode cX6_append 12 = .ok (.bipush (-101), 2) := by decide +kernel
theorem dX6_append_14 : decode cX6_append 14 = .ok (.ireturn, 1) := by decide +kernel
theorem dX6_append_15 : decode cX6_append 15 = .ok (.aload_n 0, 1) := by decide +kernel
theorem dX6_append_16 : decode cX6_append 16 = .ok (.getfield 10, 3) := by decide +kernel
theorem dX6_append_19 : decode cX6_append 19 = .ok (.invokevirtual 76, 3) := by decide +kernel
theorem dX6_append_22 : decode cX6_append 22 = .ok (.ifCond .eq 6, 3) := by decide +kernel
theorem dX6_append_25 : decode cX6_append 25 = .ok (.bipush (-103), 2) := by decide +kernel
theorem dX6_append_27 : decode cX6_append 27 = .ok (.ireturn, 1) := by decide +kernel
theorem dX6_append_28 : decode cX6_append 28 = .ok (.aload_n 0, 1) := by decide +kernel
theorem dX6_append_29 : decode cX6_append 29 = .ok (.getfield 10, 3) := by decide +kernel
theorem dX6_append_32 : decode cX6_append 32 = .ok (.iload_n 1, 1) := by decide +kernel
theorem dX6_append_33 : decode cX6_append 33 = .ok (.i2c, 1) := by decide +kernel
theorem dX6_append_34 : decode cX6_append 34 = .ok (.invokevirtual 66, 3) := by decide +kernel
theorem dX6_append_37 : decode cX6_append 37 = .ok (.aload_n 0, 1) := by decide +kernel
theorem dX6_append_38 : decode cX6_append 38 = .ok (.getfield 10, 3) := by decide +kernel
theorem dX6_append_41 : decode cX6_append 41 = .ok (.invokevirtual 80, 3) := by decide +kernel
theorem dX6_append_44 : decode cX6_append 44 = .ok (.ireturn, 1) := by decide +kernel
set_option maxRecDepth 20000 in
theorem ggX6_clearText_X1_length : GoodIn wsX6_clearText wsX1_length := goodIn_r _ [6, 7, 19, 20] (by decide +kernel) (by decide +kernel)
set_option maxRecDepth 20000 in
theorem gX6_clearText_X1_length : GoodIn wsX6_clearText (wsV RX6 80 RX1 yX1_length wsX1_length) := goodIn_app (goodIn_of _ (by decide +kernel)) ggX6_clearText_X1_length
set_option maxRecDepth 20000 in
theorem ggX6_clearText_X1_clear : GoodIn wsX6_clearText wsX1_clear := goodIn_r _ [11, 7, 19, 20] (by decide +kernel) (by decide +kernel)
set_option maxRecDepth 20000 in
theorem gX6_clearText_X1_clear : GoodIn wsX6_clearText (wsV RX6 73 RX1 yX1_clear wsX1_clear) := goodIn_app (goodIn_of _ (by decide +kernel)) ggX6_clearText_X1_clear
theorem dX6_clearText_0 : decode cX6_clearText 0 = .ok (.aload_n 0, 1) := by decide +kernel
theorem dX6_clearText_1 : decode cX6_clearText 1 = .ok (.getfield 10, 3) := by decide +kernel
theorem dX6_clearText_4 : decode cX6_clearText 4 = .ok (.invokevirtual 80, 3) := by decide +kernel
theorem dX6_clearText_7 : decode cX6_clearText 7 = .ok (.istore_n 1, 1) := by decide +kernel
theorem dX6_clearText_8 : decode cX6_clearText 8 = .ok (.aload_n 0, 1) := by decide +kernel
theorem dX6_clearText_9 : decode cX6_clearText 9 = .ok (.getfield 10, 3) := by decide +kernel
theorem dX6_clearText_12 : decode cX6_clearText 12 = .ok (.invokevirtual 73, 3) := by decide +kernel
theorem dX6_clearText_15 : decode cX6_clearText 15 = .ok (.iload_n 1, 1) := by decide +kernel
theorem dX6_clearText_16 : decode cX6_clearText 16 = .ok (.ireturn, 1) := by decide +kernel
set_option maxRecDepth 20000 in
theorem ggX6_firstError_X5_read : GoodIn wsX6_firstError wsX5_read := goodIn_r _ [8, 9, 10, 11, 12, 13, 14, 15, 16, 17, 18, 19, 20, 21, 22, 23, 24, 25, 26, 27, 28, 29, 7, 30, 31, 32, 33, 34, 35, 36, 37, 38, 39, 40, 41, 42, 43, 44, 45, 46, 47, 48, 49, 50, 51, 52, 53, 54, 55, 56, 57, 58, 59, 60, 61, 62, 63, 64, 65, 66, 67, 68, 69, 70, 71, 72, 73, 74, 75, 76, 77, 78, 79, 80, 81, 82, 83, 84, 85, 101, 102, 103, 104, 105, 106, 107, 108, 109, 110, 111, 112, 113, 114] (by decide +kernel) (by decide +kernel)
set_option maxRecDepth 20000 in
theorem gX6_firstError_X5_read : GoodIn wsX6_firstError (wsV RX6 81 RX5 yX5_read wsX5_read) := goodIn_app (goodIn_of _ (by decide +kernel)) ggX6_firstError_X5_read
set_option maxRecDepth 20000 in
theorem ggX6_firstError_X5_reason : GoodIn wsX6_firstError wsX5_reason := goodIn_r _ [89, 11, 101, 102, 103, 104, 105] (by decide +kernel) (by decide +kernel)
set_option maxRecDepth 20000 in
theorem gX6_firstError_X5_reason : GoodIn wsX6_firstError (wsV RX6 85 RX5 yX5_reason wsX5_reason) := goodIn_app (goodIn_of _ (by decide +kernel)) ggX6_firstError_X5_reason
set_option maxRecDepth 20000 in
theorem ggX6_firstError_X5_errorPlace : GoodIn wsX6_firstError wsX5_errorPlace := goodIn_r _ [93, 12, 101, 102, 103, 104, 105] (by decide +kernel) (by decide +kernel)
set_option maxRecDepth 20000 in
theorem gX6_firstError_X5_errorPlace : GoodIn wsX6_firstError (wsV RX6 88 RX5 yX5_errorPlace wsX5_errorPlace) := goodIn_app (goodIn_of _ (by decide +kernel)) ggX6_firstError_X5_errorPlace
theorem dX6_firstError_0 : decode cX6_firstError 0 = .ok (.aload_n 0, 1) := by decide +kernel
theorem dX6_firstError_1 : decode cX6_firstError 1 = .ok (.getfield 19, 3) := by decide +kernel
theorem dX6_firstError_4 : decode cX6_firstError 4 = .ok (.aload_n 0, 1) := by decide +kernel
theorem dX6_firstError_5 : decode cX6_firstError 5 = .ok (.getfield 10, 3) := by decide +kernel
theorem dX6_firstError_8 : decode cX6_firstError 8 = .ok (.aload_n 0, 1) := by decide +kernel
theorem dX6_firstError_9 : decode cX6_firstError 9 = .ok (.getfield 51, 3) := by decide +kernel
theorem dX6_firstError_12 : decode cX6_firstError 12 = .ok (.invokevirtual 81, 3) := by decide +kernel
theorem dX6_firstError_15 : decode cX6_firstError 15 = .ok (.aload_n 0, 1) := by decide +kernel
theorem dX6_firstError_16 : decode cX6_firstError 16 = .ok (.getfield 19, 3) := by decide +kernel
theorem dX6_firstError_19 : decode cX6_firstError 19 = .ok (.invokevirtual 85, 3) := by decide +kernel
theorem dX6_firstError_22 : decode cX6_firstError 22 = .ok (.ifCond .ne 8, 3) := by decide +kernel
theorem dX6_firstError_25 : decode cX6_firstError 25 = .ok (.bipush (-104), 2) := by decide +kernel
theorem dX6_firstError_27 : decode cX6_firstError 27 = .ok (.goto 10, 3) := by decide +kernel
theorem dX6_firstError_30 : decode cX6_firstError 30 = .ok (.aload_n 0, 1) := by decide +kernel
theorem dX6_firstError_31 : decode cX6_firstError 31 = .ok (.getfield 19, 3) := by decide +kernel
theorem dX6_firstError_34 : decode cX6_firstError 34 = .ok (.invokevirtual 88, 3) := by decide +kernel
theorem dX6_firstError_37 : decode cX6_firstError 37 = .ok (.ireturn, 1) := by decide +kernel
set_option maxRecDepth 20000 in
theorem ggX6_errorReason_X5_read : GoodIn wsX6_errorReason wsX5_read := goodIn_r _ [8, 9, 10, 11, 12, 13, 14, 15, 16, 17, 18, 19, 20, 21, 22, 23, 24, 25, 26, 27, 28, 29, 7, 30, 31, 32, 33, 34, 35, 36, 37, 38, 39, 40, 41, 42, 43, 44, 45, 46, 47, 48, 49, 50, 51, 52, 53, 54, 55, 56, 57, 58, 59, 60, 61, 62, 63, 64, 65, 66, 67, 68, 69, 70, 71, 72, 73, 74, 75, 76, 77, 78, 79, 80, 81, 82, 83, 84, 85, 97, 98, 99, 100, 101, 102, 103, 104, 105, 106, 107, 108, 109, 110] (by decide +kernel) (by decide +kernel)
set_option maxRecDepth 20000 in
theorem gX6_errorReason_X5_read : GoodIn wsX6_errorReason (wsV RX6 81 RX5 yX5_read wsX5_read) := goodIn_app (goodIn_of _ (by decide +kernel)) ggX6_errorReason_X5_read
set_option maxRecDepth 20000 in
theorem ggX6_errorReason_X5_reason : GoodIn wsX6_errorReason wsX5_reason := goodIn_r _ [89, 11, 97, 98, 99, 100, 101] (by decide +kernel) (by decide +kernel)
set_option maxRecDepth 20000 in
theorem gX6_errorReason_X5_reason : GoodIn wsX6_errorReason (wsV RX6 85 RX5 yX5_reason wsX5_reason) := goodIn_app (goodIn_of _ (by decide +kernel)) ggX6_errorReason_X5_reason
theorem dX6_errorReason_0 : decode cX6_errorReason 0 = .ok (.aload_n 0, 1) := by decide +kernel
theorem dX6_errorReason_1 : decode cX6_errorReason 1 = .ok (.getfield 19, 3) := by decide +kernel
theorem dX6_errorReason_4 : decode cX6_errorReason 4 = .ok (.aload_n 0, 1) := by decide +kernel
theorem dX6_errorReason_5 : decode cX6_errorReason 5 = .ok (.getfield 10, 3) := by decide +kernel
theorem dX6_errorReason_8 : decode cX6_errorReason 8 = .ok (.aload_n 0, 1) := by decide +kernel
theorem dX6_errorReason_9 : decode cX6_errorReason 9 = .ok (.getfield 51, 3) := by decide +kernel
theorem dX6_errorReason_12 : decode cX6_errorReason 12 = .ok (.invokevirtual 81, 3) := by decide +kernel
theorem dX6_errorReason_15 : decode cX6_errorReason 15 = .ok (.aload_n 0, 1) := by decide +kernel
theorem dX6_errorReason_16 : decode cX6_errorReason 16 = .ok (.getfield 19, 3) := by decide +kernel
theorem dX6_errorReason_19 : decode cX6_errorReason 19 = .ok (.invokevirtual 85, 3) := by decide +kernel
theorem dX6_errorReason_22 : decode cX6_errorReason 22 = .ok (.ifCond .ne 8, 3) := by decide +kernel
theorem dX6_errorReason_25 : decode cX6_errorReason 25 = .ok (.bipush (-104), 2) := by decide +kernel
theorem dX6_errorReason_27 : decode cX6_errorReason 27 = .ok (.goto 10, 3) := by decide +kernel
theorem dX6_errorReason_30 : decode cX6_errorReason 30 = .ok (.aload_n 0, 1) := by decide +kernel
theorem dX6_errorReason_31 : decode cX6_errorReason 31 = .ok (.getfield 19, 3) := by decide +kernel
theorem dX6_errorReason_34 : decode cX6_errorReason 34 = .ok (.invokevirtual 85, 3) := by decide +kernel
theorem dX6_errorReason_37 : decode cX6_errorReason 37 = .ok (.ireturn, 1) := by decide +kernel
set_option maxRecDepth 20000 in
theorem ggX6_configure_X5_read : GoodIn wsX6_configure wsX5_read := goodIn_r _ [12, 13, 14, 15, 16, 17, 18, 19, 20, 21, 22, 23, 24, 25, 26, 27, 28, 29, 30, 31, 32, 33, 11, 34, 35, 36, 37, 38, 39, 40, 41, 42, 43, 44, 45, 46, 47, 48, 49, 50, 51, 52, 53, 54, 55, 56, 57, 58, 59, 60, 61, 62, 63, 64, 65, 66, 67, 68, 69, 70, 71, 72, 73, 74, 75, 76, 77, 78, 79, 80, 81, 82, 83, 84, 85, 86, 87, 88, 89, 192, 193, 194, 195, 196, 197, 198, 199, 200, 201, 202, 203, 204, 205] (by decide +kernel) (by decide +kernel)
set_option maxRecDepth 20000 in
theorem gX6_configure_X5_read : GoodIn wsX6_configure (wsV RX6 81 RX5 yX5_read wsX5_read) := goodIn_app (goodIn_of _ (by decide +kernel)) ggX6_configure_X5_read
set_option maxRecDepth 20000 in
theorem ggX6_configure_X5_reason : GoodIn wsX6_configure wsX5_reason := goodIn_r _ [93, 15, 192, 193, 194, 195, 196] (by decide +kernel) (by decide +kernel)
set_option maxRecDepth 20000 in
theorem gX6_configure_X5_reason : GoodIn wsX6_configure (wsV RX6 85 RX5 yX5_reason wsX5_reason) := goodIn_app (goodIn_of _ (by decide +kernel)) ggX6_configure_X5_reason
set_option maxRecDepth 20000 in
theorem ggX6_configure_X1_length : GoodIn wsX6_configure wsX1_length := goodIn_r _ [29, 30, 204, 205] (by decide +kernel) (by decide +kernel)
set_option maxRecDepth 20000 in
theorem gX6_configure_X1_length : GoodIn wsX6_configure (wsV RX6 80 RX1 yX1_length wsX1_length) := goodIn_app (goodIn_of _ (by decide +kernel)) ggX6_configure_X1_length
set_option maxRecDepth 20000 in
theorem ggX6_configure_X0_isComplete : GoodIn wsX6_configure wsX0_isComplete := goodIn_r _ [98, 22, 23, 99, 62, 63, 20, 64, 77, 78, 79, 80, 24, 81, 58, 59, 60, 100, 101, 102, 103, 104, 105, 106, 107, 87, 88, 89, 108, 109, 110, 111, 73, 112, 113, 114, 115, 116, 117, 118, 119, 74, 197, 198, 199, 200, 201, 202, 203] (by decide +kernel) (by decide +kernel)
set_option maxRecDepth 20000 in
theorem gX6_configure_X0_isComplete : GoodIn wsX6_configure (wsV RX6 91 RX0 yX0_isComplete wsX0_isComplete) := goodIn_app (goodIn_of _ (by decide +kernel)) ggX6_configure_X0_isComplete
set_option maxRecDepth 20000 in
theorem ggX6_configure_X6_takeDraft : GoodIn wsX6_configure wsX6_takeDraft := goodIn_r _ [123, 3, 5, 185, 186, 187, 188, 189, 190, 191] (by decide +kernel) (by decide +kernel)
set_option maxRecDepth 20000 in
theorem gX6_configure_X6_takeDraft : GoodIn wsX6_configure (wsV RX6 94 RX6 yX6_takeDraft wsX6_takeDraft) := goodIn_app (goodIn_of _ (by decide +kernel)) ggX6_configure_X6_takeDraft
set_option maxRecDepth 20000 in
theorem ggX6_configure_X3_begin : GoodIn wsX6_configure wsX3_begin := goodIn_r _ [128, 129, 130, 131, 132, 20, 133, 75, 112, 113, 114, 115, 23, 134, 135, 136, 127, 137, 138, 139, 140, 141, 142, 143, 144, 145, 146, 87, 88, 89, 147, 148, 149, 150, 151, 109, 110, 111, 73, 152, 101, 102, 103, 22, 99, 62, 63, 64, 104, 105, 106, 107, 108, 116, 117, 118, 119, 74, 153, 154, 155, 156, 157, 158, 159, 160, 161, 162, 206, 207, 208, 197, 198, 199, 200, 201, 202, 203] (by decide +kernel) (by decide +kernel)
set_option maxRecDepth 20000 in
theorem gX6_configure_X3_begin : GoodIn wsX6_configure (wsV RX6 97 RX3 yX3_begin wsX3_begin) := goodIn_app (goodIn_of _ (by decide +kernel)) ggX6_configure_X3_begin
set_option maxRecDepth 20000 in
theorem ggX6_configure_X4_begin : GoodIn wsX6_configure wsX4_begin := goodIn_r _ [167, 168, 169, 170, 171, 172, 166, 173, 174, 175, 176, 177, 209, 210, 211, 212, 213] (by decide +kernel) (by decide +kernel)
set_option maxRecDepth 20000 in
theorem gX6_configure_X4_begin : GoodIn wsX6_configure (wsV RX6 101 RX4 yX4_begin wsX4_begin) := goodIn_app (goodIn_of _ (by decide +kernel)) ggX6_configure_X4_begin
set_option maxRecDepth 20000 in
theorem ggX6_configure_X2_forget : GoodIn wsX6_configure wsX2_forget := goodIn_r _ [182, 183, 214, 215, 216, 217] (by decide +kernel) (by decide +kernel)
set_option maxRecDepth 20000 in
theorem gX6_configure_X2_forget : GoodIn wsX6_configure (wsV RX6 103 RX2 yX2_forget wsX2_forget) := goodIn_app (goodIn_of _ (by decide +kernel)) ggX6_configure_X2_forget
set_option maxRecDepth 20000 in
theorem ggX6_configure_X0_edges : GoodIn wsX6_configure wsX0_edges := goodIn_r _ [142, 23, 197, 198, 199, 200, 201, 202, 203] (by decide +kernel) (by decide +kernel)
set_option maxRecDepth 20000 in
theorem gX6_configure_X0_edges : GoodIn wsX6_configure (wsV RX6 106 RX0 yX0_edges wsX0_edges) := goodIn_app (goodIn_of _ (by decide +kernel)) ggX6_configure_X0_edges
theorem dX6_configure_0 : decode cX6_configure 0 = .ok (.aload_n 0, 1) := by decide +kernel
theorem dX6_configure_1 : decode cX6_configure 1 = .ok (.getfield 19, 3) := by decide +kernel
theorem dX6_configure_4 : decode cX6_configure 4 = .ok (.aload_n 0, 1) := by decide +kernel
theorem dX6_configure_5 : decode cX6_configure 5 = .ok (.getfield 10, 3) := by decide +kernel
theorem dX6_configure_8 : decode cX6_configure 8 = .ok (.aload_n 0, 1) := by decide +kernel
theorem dX6_configure_9 : decode cX6_configure 9 = .ok (.getfield 51, 3) := by decide +kernel
theorem dX6_configure_12 : decode cX6_configure 12 = .ok (.invokevirtual 81, 3) := by decide +kernel
theorem dX6_configure_15 : decode cX6_configure 15 = .ok (.aload_n 0, 1) := by decide +kernel
theorem dX6_configure_16 : decode cX6_configure 16 = .ok (.getfield 19, 3) := by decide +kernel
theorem dX6_configure_19 : decode cX6_configure 19 = .ok (.invokevirtual 85, 3) := by decide +kernel
theorem dX6_configure_22 : decode cX6_configure 22 = .ok (.ifCond .ne 23, 3) := by decide +kernel
theorem dX6_configure_25 : decode cX6_configure 25 = .ok (.aload_n 0, 1) := by decide +kernel
theorem dX6_configure_26 : decode cX6_configure 26 = .ok (.getfield 10, 3) := by decide +kernel
theorem dX6_configure_29 : decode cX6_configure 29 = .ok (.invokevirtual 80, 3) := by decide +kernel
theorem dX6_configure_32 : decode cX6_configure 32 = .ok (.ifCond .eq 13, 3) := by decide +kernel
theorem dX6_configure_35 : decode cX6_configure 35 = .ok (.aload_n 0, 1) := by decide +kernel
theorem dX6_configure_36 : decode cX6_configure 36 = .ok (.getfield 51, 3) := by decide +kernel
theorem dX6_configure_39 : decode cX6_configure 39 = .ok (.invokevirtual 91, 3) := by decide +kernel
theorem dX6_configure_42 : decode cX6_configure 42 = .ok (.ifCond .ne 6, 3) := by decide +kernel
theorem dX6_configure_45 : decode cX6_configure 45 = .ok (.bipush (-102), 2) := by decide +kernel
theorem dX6_configure_47 : decode cX6_configure 47 = .ok (.ireturn, 1) := by decide +kernel
theorem dX6_configure_48 : decode cX6_configure 48 = .ok (.aload_n 0, 1) := by decide +kernel
theorem dX6_configure_49 : decode cX6_configure 49 = .ok (.invokevirtual 94, 3) := by decide +kernel
theorem dX6_configure_52 : decode cX6_configure 52 = .ok (.aload_n 0, 1) := by decide +kernel
theorem dX6_configure_53 : decode cX6_configure 53 = .ok (.getfield 26, 3) := by decide +kernel
theorem dX6_configure_56 : decode cX6_configure 56 = .ok (.aload_n 0, 1) := by decide +kernel
theorem dX6_configure_57 : decode cX6_configure 57 = .ok (.getfield 47, 3) := by decide +kernel
theorem dX6_configure_60 : decode cX6_configure 60 = .ok (.invokevirtual 97, 3) := by decide +kernel
theorem dX6_configure_63 : decode cX6_configure 63 = .ok (.aload_n 0, 1) := by decide +kernel
theorem dX6_configure_64 : decode cX6_configure 64 = .ok (.getfield 33, 3) := by decide +kernel
theorem dX6_configure_67 : decode cX6_configure 67 = .ok (.invokevirtual 101, 3) := by decide +kernel
theorem dX6_configure_70 : decode cX6_configure 70 = .ok (.aload_n 0, 1) := by decide +kernel
theorem dX6_configure_71 : decode cX6_configure 71 = .ok (.getfield 40, 3) := by decide +kernel
theorem dX6_configure_74 : decode cX6_configure 74 = .ok (.invokevirtual 103, 3) := by decide +kernel
theorem dX6_configure_77 : decode cX6_configure 77 = .ok (.aload_n 0, 1) := by decide +kernel
theorem dX6_configure_78 : decode cX6_configure 78 = .ok (.getfield 47, 3) := by decide +kernel
theorem dX6_configure_81 : decode cX6_configure 81 = .ok (.invokevirtual 106, 3) := by decide +kernel
theorem dX6_configure_84 : decode cX6_configure 84 = .ok (.ireturn, 1) := by decide +kernel
set_option maxRecDepth 20000 in
theorem ggX6_setWeight_X0_hasEdge : GoodIn wsX6_setWeight wsX0_hasEdge := goodIn_r _ [9, 10, 111, 112, 113, 114, 115, 116, 117] (by decide +kernel) (by decide +kernel)
set_option maxRecDepth 20000 in
theorem gX6_setWeight_X0_hasEdge : GoodIn wsX6_setWeight (wsV RX6 109 RX0 yX0_hasEdge wsX0_hasEdge) := goodIn_app (goodIn_of _ (by decide +kernel)) ggX6_setWeight_X0_hasEdge
set_option maxRecDepth 20000 in
theorem ggX6_setWeight_X2_remember : GoodIn wsX6_setWeight wsX2_remember := goodIn_r _ [15, 16, 17, 18, 19, 20, 21, 22, 23, 24, 25, 26, 27, 28, 29, 30, 31, 32, 33, 34, 35, 36, 37, 38, 39, 40, 41, 118, 119, 120, 121, 122, 123, 124, 125, 126, 127, 128, 129] (by decide +kernel) (by decide +kernel)
set_option maxRecDepth 20000 in
theorem gX6_setWeight_X2_remember : GoodIn wsX6_setWeight (wsV RX6 113 RX2 yX2_remember wsX2_remember) := goodIn_app (goodIn_of _ (by decide +kernel)) ggX6_setWeight_X2_remember
set_option maxRecDepth 20000 in
theorem ggX6_setWeight_X3_weight : GoodIn wsX6_setWeight wsX3_weight := goodIn_r _ [45, 29, 122, 123, 124] (by decide +kernel) (by decide +kernel)
set_option maxRecDepth 20000 in
theorem gX6_setWeight_X3_weight : GoodIn wsX6_setWeight (wsV RX6 117 RX3 yX3_weight wsX3_weight) := goodIn_app (goodIn_of _ (by decide +kernel)) ggX6_setWeight_X3_weight
set_option maxRecDepth 20000 in
theorem ggX6_setWeight_X3_putWeight : GoodIn wsX6_setWeight wsX3_putWeight := goodIn_r _ [49, 29, 122, 123, 124] (by decide +kernel) (by decide +kernel)
set_option maxRecDepth 20000 in
theorem gX6_setWeight_X3_putWeight : GoodIn wsX6_setWeight (wsV RX6 121 RX3 yX3_putWeight wsX3_putWeight) := goodIn_app (goodIn_of _ (by decide +kernel)) ggX6_setWeight_X3_putWeight
set_option maxRecDepth 20000 in
theorem ggX6_setWeight_X3_findTree : GoodIn wsX6_setWeight wsX3_findTree := goodIn_r _ [53, 31, 54, 55, 56, 8, 57, 10, 58, 59, 60, 27, 61, 62, 63, 64, 65, 43, 44, 45, 29, 66, 67, 68, 69, 70, 71, 6, 7, 9, 72, 73, 74, 75, 76, 77, 78, 79, 80, 81, 82, 83, 84, 85, 86, 87, 88, 89, 90, 91, 92, 93, 94, 95, 30, 96, 97, 98, 99, 122, 123, 124, 111, 112, 113, 114, 115, 116, 117] (by decide +kernel) (by decide +kernel)
set_option maxRecDepth 20000 in
theorem gX6_setWeight_X3_findTree : GoodIn wsX6_setWeight (wsV RX6 125 RX3 yX3_findTree wsX3_findTree) := goodIn_app (goodIn_of _ (by decide +kernel)) ggX6_setWeight_X3_findTree
set_option maxRecDepth 20000 in
theorem ggX6_setWeight_X4_restart : GoodIn wsX6_setWeight wsX4_restart := goodIn_r _ [103, 37, 38, 40, 41, 125, 126, 127, 128, 129] (by decide +kernel) (by decide +kernel)
set_option maxRecDepth 20000 in
theorem gX6_setWeight_X4_restart : GoodIn wsX6_setWeight (wsV RX6 128 RX4 yX4_restart wsX4_restart) := goodIn_app (goodIn_of _ (by decide +kernel)) ggX6_setWeight_X4_restart
theorem dX6_setWeight_0 : decode cX6_setWeight 0 = .ok (.aload_n 0, 1) := by decide +kernel
theorem dX6_setWeight_1 : decode cX6_setWeight 1 = .ok (.getfield 47, 3) := by decide +kernel
theorem dX6_setWeight_4 : decode cX6_setWeight 4 = .ok (.iload_n 1, 1) := by decide +kernel
theorem dX6_setWeight_5 : decode cX6_setWeight 5 = .ok (.invokevirtual 109, 3) := by decide +kernel
theorem dX6_setWeight_8 : decode cX6_setWeight 8 = .ok (.ifCond .eq 14, 3) := by decide +kernel
theorem dX6_setWeight_11 : decode cX6_setWeight 11 = .ok (.iload_n 2, 1) := by decide +kernel
theorem dX6_setWeight_12 : decode cX6_setWeight 12 = .ok (.ifCond .lt 10, 3) := by decide +kernel
theorem dX6_setWeight_15 : decode cX6_setWeight 15 = .ok (.iload_n 2, 1) := by decide +kernel
theorem dX6_setWeight_16 : decode cX6_setWeight 16 = .ok (.sipush 999, 3) := by decide +kernel
theorem dX6_setWeight_19 : decode cX6_setWeight 19 = .ok (.if_icmp .le 6, 3) := by decide +kernel
theorem dX6_setWeight_22 : decode cX6_setWeight 22 = .ok (.bipush (-101), 2) := by decide +kernel
theorem dX6_setWeight_24 : decode cX6_setWeight 24 = .ok (.ireturn, 1) := by decide +kernel
theorem dX6_setWeight_25 : decode cX6_setWeight 25 = .ok (.aload_n 0, 1) := by decide +kernel
theorem dX6_setWeight_26 : decode cX6_setWeight 26 = .ok (.getfield 40, 3) := by decide +kernel
theorem dX6_setWeight_29 : decode cX6_setWeight 29 = .ok (.aload_n 0, 1) := by decide +kernel
theorem dX6_setWeight_30 : decode cX6_setWeight 30 = .ok (.getfield 26, 3) := by decide +kernel
theorem dX6_setWeight_33 : decode cX6_setWeight 33 = .ok (.aload_n 0, 1) := by decide +kernel
theorem dX6_setWeight_34 : decode cX6_setWeight 34 = .ok (.getfield 33, 3) := by decide +kernel
theorem dX6_setWeight_37 : decode cX6_setWeight 37 = .ok (.invokevirtual 113, 3) := by decide +kernel
theorem dX6_setWeight_40 : decode cX6_setWeight 40 = .ok (.aload_n 0, 1) := by decide +kernel
theorem dX6_setWeight_41 : decode cX6_setWeight 41 = .ok (.getfield 26, 3) := by decide +kernel
theorem dX6_setWeight_44 : decode cX6_setWeight 44 = .ok (.iload_n 1, 1) := by decide +kernel
theorem dX6_setWeight_45 : decode cX6_setWeight 45 = .ok (.invokevirtual 117, 3) := by decide +kernel
theorem dX6_setWeight_48 : decode cX6_setWeight 48 = .ok (.istore_n 3, 1) := by decide +kernel
theorem dX6_setWeight_49 : decode cX6_setWeight 49 = .ok (.aload_n 0, 1) := by decide +kernel
theorem dX6_setWeight_50 : decode cX6_setWeight 50 = .ok (.getfield 26, 3) := by decide +kernel
theorem dX6_setWeight_53 : decode cX6_setWeight 53 = .ok (.iload_n 1, 1) := by decide +kernel
theorem dX6_setWeight_54 : decode cX6_setWeight 54 = .ok (.iload_n 2, 1) := by decide +kernel
theorem dX6_setWeight_55 : decode cX6_setWeight 55 = .ok (.invokevirtual 121, 3) := by decide +kernel
theorem dX6_setWeight_58 : decode cX6_setWeight 58 = .ok (.aload_n 0, 1) := by decide +kernel
theorem dX6_setWeight_59 : decode cX6_setWeight 59 = .ok (.getfield 26, 3) := by decide +kernel
theorem dX6_setWeight_62 : decode cX6_setWeight 62 = .ok (.aload_n 0, 1) := by decide +kernel
theorem dX6_setWeight_63 : decode cX6_setWeight 63 = .ok (.getfield 47, 3) := by decide +kernel
theorem dX6_setWeight_66 : decode cX6_setWeight 66 = .ok (.invokevirtual 125, 3) := by decide +kernel
theorem dX6_setWeight_69 : decode cX6_setWeight 69 = .ok (.aload_n 0, 1) := by decide +kernel
theorem dX6_setWeight_70 : decode cX6_setWeight 70 = .ok (.getfield 33, 3) := by decide +kernel
theorem dX6_setWeight_73 : decode cX6_setWeight 73 = .ok (.invokevirtual 128, 3) := by decide +kernel
theorem dX6_setWeight_76 : decode cX6_setWeight 76 = .ok (.iload_n 3, 1) := by decide +kernel
theorem dX6_setWeight_77 : decode cX6_setWeight 77 = .ok (.ireturn, 1) := by decide +kernel
set_option maxRecDepth 20000 in
theorem ggX6_setCounterLimit_X2_remember : GoodIn wsX6_setCounterLimit wsX2_remember := goodIn_r _ [9, 10, 11, 12, 13, 14, 15, 16, 17, 18, 19, 20, 21, 22, 23, 24, 25, 26, 27, 28, 29, 30, 31, 32, 33, 34, 35, 55, 56, 57, 58, 59, 60, 61, 62, 63, 64, 65, 66] (by decide +kernel) (by decide +kernel)
set_option maxRecDepth 20000 in
theorem gX6_setCounterLimit_X2_remember : GoodIn wsX6_setCounterLimit (wsV RX6 113 RX2 yX2_remember wsX2_remember) := goodIn_app (goodIn_of _ (by decide +kernel)) ggX6_setCounterLimit_X2_remember
set_option maxRecDepth 20000 in
theorem ggX6_setCounterLimit_X4_limit : GoodIn wsX6_setCounterLimit wsX4_limit := goodIn_r _ [39, 33, 62, 63, 64, 65, 66] (by decide +kernel) (by decide +kernel)
set_option maxRecDepth 20000 in
theorem gX6_setCounterLimit_X4_limit : GoodIn wsX6_setCounterLimit (wsV RX6 132 RX4 yX4_limit wsX4_limit) := goodIn_app (goodIn_of _ (by decide +kernel)) ggX6_setCounterLimit_X4_limit
set_option maxRecDepth 20000 in
theorem ggX6_setCounterLimit_X4_putLimit : GoodIn wsX6_setCounterLimit wsX4_putLimit := goodIn_r _ [43, 33, 62, 63, 64, 65, 66] (by decide +kernel) (by decide +kernel)
set_option maxRecDepth 20000 in
theorem gX6_setCounterLimit_X4_putLimit : GoodIn wsX6_setCounterLimit (wsV RX6 135 RX4 yX4_putLimit wsX4_putLimit) := goodIn_app (goodIn_of _ (by decide +kernel)) ggX6_setCounterLimit_X4_putLimit
set_option maxRecDepth 20000 in
theorem ggX6_setCounterLimit_X4_restart : GoodIn wsX6_setCounterLimit wsX4_restart := goodIn_r _ [47, 31, 32, 34, 35, 62, 63, 64, 65, 66] (by decide +kernel) (by decide +kernel)
set_option maxRecDepth 20000 in
theorem gX6_setCounterLimit_X4_restart : GoodIn wsX6_setCounterLimit (wsV RX6 128 RX4 yX4_restart wsX4_restart) := goodIn_app (goodIn_of _ (by decide +kernel)) ggX6_setCounterLimit_X4_restart
theorem dX6_setCounterLimit_0 : decode cX6_setCounterLimit 0 = .ok (.iload_n 1, 1) := by decide +kernel
theorem dX6_setCounterLimit_1 : decode cX6_setCounterLimit 1 = .ok (.iconst 1, 1) := by decide +kernel
theorem dX6_setCounterLimit_2 : decode cX6_setCounterLimit 2 = .ok (.if_icmp .lt 9, 3) := by decide +kernel
theorem dX6_setCounterLimit_5 : decode cX6_setCounterLimit 5 = .ok (.iload_n 1, 1) := by decide +kernel
theorem dX6_setCounterLimit_6 : decode cX6_setCounterLimit 6 = .ok (.ldc 131, 2) := by decide +kernel
theorem dX6_setCounterLimit_8 : decode cX6_setCounterLimit 8 = .ok (.if_icmp .le 6, 3) := by decide +kernel
theorem dX6_setCounterLimit_11 : decode cX6_setCounterLimit 11 = .ok (.bipush (-101), 2) := by decide +kernel
theorem dX6_setCounterLimit_13 : decode cX6_setCounterLimit 13 = .ok (.ireturn, 1) := by decide +kernel
theorem dX6_setCounterLimit_14 : decode cX6_setCounterLimit 14 = .ok (.aload_n 0, 1) := by decide +kernel
theorem dX6_setCounterLimit_15 : decode cX6_setCounterLimit 15 = .ok (.getfield 40, 3) := by decide +kernel
theorem dX6_setCounterLimit_18 : decode cX6_setCounterLimit 18 = .ok (.aload_n 0, 1) := by decide +kernel
theorem dX6_setCounterLimit_19 : decode cX6_setCounterLimit 19 = .ok (.getfield 26, 3) := by decide +kernel
theorem dX6_setCounterLimit_22 : decode cX6_setCounterLimit 22 = .ok (.aload_n 0, 1) := by decide +kernel
theorem dX6_setCounterLimit_23 : decode cX6_setCounterLimit 23 = .ok (.getfield 33, 3) := by decide +kernel
theorem dX6_setCounterLimit_26 : decode cX6_setCounterLimit 26 = .ok (.invokevirtual 113, 3) := by decide +kernel
theorem dX6_setCounterLimit_29 : decode cX6_setCounterLimit 29 = .ok (.aload_n 0, 1) := by decide +kernel
theorem dX6_setCounterLimit_30 : decode cX6_setCounterLimit 30 = .ok (.getfield 33, 3) := by decide +kernel
theorem dX6_setCounterLimit_33 : decode cX6_setCounterLimit 33 = .ok (.invokevirtual 132, 3) := by decide +kernel
theorem dX6_setCounterLimit_36 : decode cX6_setCounterLimit 36 = .ok (.istore_n 2, 1) := by decide +kernel
theorem dX6_setCounterLimit_37 : decode cX6_setCounterLimit 37 = .ok (.aload_n 0, 1) := by decide +kernel
theorem dX6_setCounterLimit_38 : decode cX6_setCounterLimit 38 = .ok (.getfield 33, 3) := by decide +kernel
theorem dX6_setCounterLimit_41 : decode cX6_setCounterLimit 41 = .ok (.iload_n 1, 1) := by decide +kernel
theorem dX6_setCounterLimit_42 : decode cX6_setCounterLimit 42 = .ok (.invokevirtual 135, 3) := by decide +kernel
theorem dX6_setCounterLimit_45 : decode cX6_setCounterLimit 45 = .ok (.aload_n 0, 1) := by decide +kernel
theorem dX6_setCounterLimit_46 : decode cX6_setCounterLimit 46 = .ok (.getfield 33, 3) := by decide +kernel
theorem dX6_setCounterLimit_49 : decode cX6_setCounterLimit 49 = .ok (.invokevirtual 128, 3) := by decide +kernel
theorem dX6_setCounterLimit_52 : decode cX6_setCounterLimit 52 = .ok (.iload_n 2, 1) := by decide +kernel
theorem dX6_setCounterLimit_53 : decode cX6_setCounterLimit 53 = .ok (.ireturn, 1) := by decide +kernel
set_option maxRecDepth 20000 in
theorem ggX6_follow_X0_hasEdge : GoodIn wsX6_follow wsX0_hasEdge := goodIn_r _ [9, 10, 89, 90, 91, 92, 93, 94, 95] (by decide +kernel) (by decide +kernel)
set_option maxRecDepth 20000 in
theorem gX6_follow_X0_hasEdge : GoodIn wsX6_follow (wsV RX6 109 RX0 yX0_hasEdge wsX0_hasEdge) := goodIn_app (goodIn_of _ (by decide +kernel)) ggX6_follow_X0_hasEdge
set_option maxRecDepth 20000 in
theorem ggX6_follow_X0_source : GoodIn wsX6_follow wsX0_source := goodIn_r _ [14, 15, 16, 6, 7, 8, 9, 10, 89, 90, 91, 92, 93, 94, 95] (by decide +kernel) (by decide +kernel)
set_option maxRecDepth 20000 in
theorem gX6_follow_X0_source : GoodIn wsX6_follow (wsV RX6 139 RX0 yX0_source wsX0_source) := goodIn_app (goodIn_of _ (by decide +kernel)) ggX6_follow_X0_source
set_option maxRecDepth 20000 in
theorem ggX6_follow_X4_present : GoodIn wsX6_follow wsX4_present := goodIn_r _ [21, 22, 96, 97, 98, 99, 100] (by decide +kernel) (by decide +kernel)
set_option maxRecDepth 20000 in
theorem gX6_follow_X4_present : GoodIn wsX6_follow (wsV RX6 142 RX4 yX4_present wsX4_present) := goodIn_app (goodIn_of _ (by decide +kernel)) ggX6_follow_X4_present
set_option maxRecDepth 20000 in
theorem ggX6_follow_X2_remember : GoodIn wsX6_follow wsX2_remember := goodIn_r _ [27, 28, 29, 30, 31, 32, 33, 34, 35, 36, 37, 38, 39, 40, 41, 42, 43, 44, 45, 46, 20, 47, 48, 49, 50, 22, 51, 101, 102, 103, 104, 105, 106, 107, 96, 97, 98, 99, 100] (by decide +kernel) (by decide +kernel)
set_option maxRecDepth 20000 in
theorem gX6_follow_X2_remember : GoodIn wsX6_follow (wsV RX6 113 RX2 yX2_remember wsX2_remember) := goodIn_app (goodIn_of _ (by decide +kernel)) ggX6_follow_X2_remember
set_option maxRecDepth 20000 in
theorem ggX6_follow_X4_pass : GoodIn wsX6_follow wsX4_pass := goodIn_r _ [55, 49, 48, 51, 22, 56, 6, 7, 8, 9, 10, 57, 58, 59, 39, 60, 43, 61, 62, 63, 64, 65, 66, 20, 67, 50, 68, 69, 70, 71, 72, 73, 74, 75, 76, 16, 77, 78, 79, 80, 81, 96, 97, 98, 99, 100, 89, 90, 91, 92, 93, 94, 95, 105, 106, 107] (by decide +kernel) (by decide +kernel)
set_option maxRecDepth 20000 in
theorem gX6_follow_X4_pass : GoodIn wsX6_follow (wsV RX6 145 RX4 yX4_pass wsX4_pass) := goodIn_app (goodIn_of _ (by decide +kernel)) ggX6_follow_X4_pass
theorem dX6_follow_0 : decode cX6_follow 0 = .ok (.aload_n 0, 1) := by decide +kernel
theorem dX6_follow_1 : decode cX6_follow 1 = .ok (.getfield 47, 3) := by decide +kernel
theorem dX6_follow_4 : decode cX6_follow 4 = .ok (.iload_n 1, 1) := by decide +kernel
theorem dX6_follow_5 : decode cX6_follow 5 = .ok (.invokevirtual 109, 3) := by decide +kernel
theorem dX6_follow_8 : decode cX6_follow 8 = .ok (.ifCond .ne 6, 3) := by decide +kernel
theorem dX6_follow_11 : decode cX6_follow 11 = .ok (.bipush (-101), 2) := by decide +kernel
theorem dX6_follow_13 : decode cX6_follow 13 = .ok (.ireturn, 1) := by decide +kernel
theorem dX6_follow_14 : decode cX6_follow 14 = .ok (.aload_n 0, 1) := by decide +kernel
theorem dX6_follow_15 : decode cX6_follow 15 = .ok (.getfield 47, 3) := by decide +kernel
theorem dX6_follow_18 : decode cX6_follow 18 = .ok (.iload_n 1, 1) := by decide +kernel
theorem dX6_follow_19 : decode cX6_follow 19 = .ok (.invokevirtual 139, 3) := by decide +kernel
theorem dX6_follow_22 : decode cX6_follow 22 = .ok (.aload_n 0, 1) := by decide +kernel
theorem dX6_follow_23 : decode cX6_follow 23 = .ok (.getfield 33, 3) := by decide +kernel
theorem dX6_follow_26 : decode cX6_follow 26 = .ok (.invokevirtual 142, 3) := by decide +kernel
theorem dX6_follow_29 : decode cX6_follow 29 = .ok (.if_icmp .eq 6, 3) := by decide +kernel
theorem dX6_follow_32 : decode cX6_follow 32 = .ok (.bipush (-102), 2) := by decide +kernel
theorem dX6_follow_34 : decode cX6_follow 34 = .ok (.ireturn, 1) := by decide +kernel
theorem dX6_follow_35 : decode cX6_follow 35 = .ok (.aload_n 0, 1) := by decide +kernel
theorem dX6_follow_36 : decode cX6_follow 36 = .ok (.getfield 40, 3) := by decide +kernel
theorem dX6_follow_39 : decode cX6_follow 39 = .ok (.aload_n 0, 1) := by decide +kernel
theorem dX6_follow_40 : decode cX6_follow 40 = .ok (.getfield 26, 3) := by decide +kernel
theorem dX6_follow_43 : decode cX6_follow 43 = .ok (.aload_n 0, 1) := by decide +kernel
theorem dX6_follow_44 : decode cX6_follow 44 = .ok (.getfield 33, 3) := by decide +kernel
theorem dX6_follow_47 : decode cX6_follow 47 = .ok (.invokevirtual 113, 3) := by decide +kernel
theorem dX6_follow_50 : decode cX6_follow 50 = .ok (.aload_n 0, 1) := by decide +kernel
theorem dX6_follow_51 : decode cX6_follow 51 = .ok (.getfield 33, 3) := by decide +kernel
theorem dX6_follow_54 : decode cX6_follow 54 = .ok (.iload_n 1, 1) := by decide +kernel
theorem dX6_follow_55 : decode cX6_follow 55 = .ok (.aload_n 0, 1) := by decide +kernel
theorem dX6_follow_56 : decode cX6_follow 56 = .ok (.getfield 47, 3) := by decide +kernel
theorem dX6_follow_59 : decode cX6_follow 59 = .ok (.aload_n 0, 1) := by decide +kernel
theorem dX6_follow_60 : decode cX6_follow 60 = .ok (.getfield 26, 3) := by decide +kernel
theorem dX6_follow_63 : decode cX6_follow 63 = .ok (.invokevirtual 145, 3) := by decide +kernel
theorem dX6_follow_66 : decode cX6_follow 66 = .ok (.aload_n 0, 1) := by decide +kernel
theorem dX6_follow_67 : decode cX6_follow 67 = .ok (.getfield 33, 3) := by decide +kernel
theorem dX6_follow_70 : decode cX6_follow 70 = .ok (.invokevirtual 142, 3) := by decide +kernel
theorem dX6_follow_73 : decode cX6_follow 73 = .ok (.ireturn, 1) := by decide +kernel
set_option maxRecDepth 20000 in
theorem ggX6_drive_X2_remember : GoodIn wsX6_drive wsX2_remember := goodIn_r _ [9, 10, 11, 12, 13, 14, 15, 16, 17, 18, 19, 20, 21, 22, 23, 24, 25, 26, 27, 28, 29, 30, 31, 32, 33, 34, 35, 109, 110, 111, 112, 113, 114, 115, 116, 117, 118, 119, 120] (by decide +kernel) (by decide +kernel)
set_option maxRecDepth 20000 in
theorem gX6_drive_X2_remember : GoodIn wsX6_drive (wsV RX6 113 RX2 yX2_remember wsX2_remember) := goodIn_app (goodIn_of _ (by decide +kernel)) ggX6_drive_X2_remember
set_option maxRecDepth 20000 in
theorem ggX6_drive_X4_finished : GoodIn wsX6_drive wsX4_finished := goodIn_r _ [39, 35, 116, 117, 118, 119, 120] (by decide +kernel) (by decide +kernel)
set_option maxRecDepth 20000 in
theorem gX6_drive_X4_finished : GoodIn wsX6_drive (wsV RX6 149 RX4 yX4_finished wsX4_finished) := goodIn_app (goodIn_of _ (by decide +kernel)) ggX6_drive_X4_finished
set_option maxRecDepth 20000 in
theorem ggX6_drive_X6_chosenEdge : GoodIn wsX6_drive wsX6_chosenEdge := goodIn_r _ [44, 45, 46, 47, 4, 3, 48, 49, 50, 29, 51, 34, 52, 53, 54, 55, 56, 57, 58, 59, 60, 61, 62, 63, 64, 65, 66, 67, 68, 102, 103, 104, 105, 106, 107, 108, 116, 117, 118, 119, 120, 121, 122, 123, 124, 125, 126, 127] (by decide +kernel) (by decide +kernel)
set_option maxRecDepth 20000 in
theorem gX6_drive_X6_chosenEdge : GoodIn wsX6_drive (wsV RX6 152 RX6 yX6_chosenEdge wsX6_chosenEdge) := goodIn_app (goodIn_of _ (by decide +kernel)) ggX6_drive_X6_chosenEdge
set_option maxRecDepth 20000 in
theorem ggX6_drive_X4_pass : GoodIn wsX6_drive wsX4_pass := goodIn_r _ [72, 32, 31, 35, 34, 73, 74, 75, 55, 76, 77, 78, 79, 80, 21, 81, 25, 82, 43, 83, 84, 85, 86, 29, 87, 33, 88, 89, 90, 91, 92, 93, 94, 95, 96, 97, 98, 99, 100, 101, 62, 116, 117, 118, 119, 120, 121, 122, 123, 124, 125, 126, 127, 113, 114, 115] (by decide +kernel) (by decide +kernel)
set_option maxRecDepth 20000 in
theorem gX6_drive_X4_pass : GoodIn wsX6_drive (wsV RX6 145 RX4 yX4_pass wsX4_pass) := goodIn_app (goodIn_of _ (by decide +kernel)) ggX6_drive_X4_pass
