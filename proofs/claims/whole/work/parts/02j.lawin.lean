/-! the law's words are among the tables' words, a chunk at a time -/
theorem wsLr1 : ∀ w ∈ wsL_law_r1, w ∈ lw_tbl := fun w h => (goodIn_p wsL_law_r1 [58, 61] (by decide +kernel) (by decide +kernel) w h).1
theorem wsLr2 : ∀ w ∈ wsL_law_r2, w ∈ lw_tbl := fun w h => (goodIn_p wsL_law_r2 [66, 80] (by decide +kernel) (by decide +kernel) w h).1
theorem wsLr3 : ∀ w ∈ wsL_law_r3, w ∈ lw_tbl := fun w h => (goodIn_p wsL_law_r3 [103, 119, 141, 166] (by decide +kernel) (by decide +kernel) w h).1
theorem wsLr4 : ∀ w ∈ wsL_law_r4, w ∈ lw_tbl := fun w h => (goodIn_p wsL_law_r4 [196, 200, 206, 210] (by decide +kernel) (by decide +kernel) w h).1
theorem wsLr5 : ∀ w ∈ wsL_law_r5, w ∈ lw_tbl := fun w h => (goodIn_p wsL_law_r5 [213, 216, 221, 224, 227, 230, 234] (by decide +kernel) (by decide +kernel) w h).1
theorem wsLr6 : ∀ w ∈ wsL_law_r6, w ∈ lw_tbl := fun w h => (goodIn_p wsL_law_r6 [244, 248, 252, 256] (by decide +kernel) (by decide +kernel) w h).1
theorem wsLr7 : ∀ w ∈ wsL_law_r7, w ∈ lw_tbl := fun w h => (goodIn_p wsL_law_r7 [260, 264, 268, 272, 276] (by decide +kernel) (by decide +kernel) w h).1
theorem wsLr8 : ∀ w ∈ wsL_law_r8, w ∈ lw_tbl := fun w h => (goodIn_p wsL_law_r8 [280, 284, 288, 292, 296, 300] (by decide +kernel) (by decide +kernel) w h).1
theorem wsLr9 : ∀ w ∈ wsL_law_r9, w ∈ lw_tbl := fun w h => (goodIn_p wsL_law_r9 [304, 308, 314, 317, 321, 326] (by decide +kernel) (by decide +kernel) w h).1
theorem wsLr10 : ∀ w ∈ wsL_law_r10, w ∈ lw_tbl := fun w h => (goodIn_p wsL_law_r10 [331, 335, 340, 344, 348, 352] (by decide +kernel) (by decide +kernel) w h).1
theorem wsLr11 : ∀ w ∈ wsL_law_r11, w ∈ lw_tbl := fun w h => (goodIn_p wsL_law_r11 [356, 360, 364, 368, 372] (by decide +kernel) (by decide +kernel) w h).1
theorem wsLr12 : ∀ w ∈ wsL_law_r12, w ∈ lw_tbl := fun w h => (goodIn_p wsL_law_r12 [377, 384, 388, 392, 397] (by decide +kernel) (by decide +kernel) w h).1
theorem wsLr13 : ∀ w ∈ wsL_law_r13, w ∈ lw_tbl := fun w h => (goodIn_p wsL_law_r13 [401, 406, 678] (by decide +kernel) (by decide +kernel) w h).1
theorem wsLr14 : ∀ w ∈ wsL_law_r14, w ∈ lw_tbl := fun w h => (goodIn_p wsL_law_r14 [683, 687, 692, 696] (by decide +kernel) (by decide +kernel) w h).1
theorem wsLr15 : ∀ w ∈ wsL_law_r15, w ∈ lw_tbl := fun w h => (goodIn_p wsL_law_r15 [699, 703, 433, 765, 768, 438] (by decide +kernel) (by decide +kernel) w h).1
theorem wsLr16 : ∀ w ∈ wsL_law_r16, w ∈ lw_tbl := fun w h => (goodIn_p wsL_law_r16 [772, 442, 446, 776, 780] (by decide +kernel) (by decide +kernel) w h).1
theorem wsLr17 : ∀ w ∈ wsL_law_r17, w ∈ lw_tbl := fun w h => (goodIn_p wsL_law_r17 [784, 788, 792, 796, 450, 800] (by decide +kernel) (by decide +kernel) w h).1
theorem wsLr18 : ∀ w ∈ wsL_law_r18, w ∈ lw_tbl := fun w h => (goodIn_p wsL_law_r18 [804, 808, 455, 460, 471, 464] (by decide +kernel) (by decide +kernel) w h).1
theorem wsLr19 : ∀ w ∈ wsL_law_r19, w ∈ lw_tbl := fun w h => (goodIn_p wsL_law_r19 [468, 476, 816, 820, 824] (by decide +kernel) (by decide +kernel) w h).1
theorem wsLr20 : ∀ w ∈ wsL_law_r20, w ∈ lw_tbl := fun w h => (goodIn_p wsL_law_r20 [482, 487, 491, 828, 495] (by decide +kernel) (by decide +kernel) w h).1
theorem wsLr21 : ∀ w ∈ wsL_law_r21, w ∈ lw_tbl := fun w h => (goodIn_p wsL_law_r21 [500, 504, 510, 514, 832] (by decide +kernel) (by decide +kernel) w h).1
theorem wsLr22 : ∀ w ∈ wsL_law_r22, w ∈ lw_tbl := fun w h => (goodIn_p wsL_law_r22 [836, 840, 520, 524, 528] (by decide +kernel) (by decide +kernel) w h).1
theorem wsLr23 : ∀ w ∈ wsL_law_r23, w ∈ lw_tbl := fun w h => (goodIn_p wsL_law_r23 [536, 844, 851, 855, 540] (by decide +kernel) (by decide +kernel) w h).1
theorem wsLr24 : ∀ w ∈ wsL_law_r24, w ∈ lw_tbl := fun w h => (goodIn_p wsL_law_r24 [544, 548, 553, 558, 563, 567] (by decide +kernel) (by decide +kernel) w h).1
theorem wsLr25 : ∀ w ∈ wsL_law_r25, w ∈ lw_tbl := fun w h => (goodIn_p wsL_law_r25 [572, 859, 863, 867, 871] (by decide +kernel) (by decide +kernel) w h).1
theorem wsLr26 : ∀ w ∈ wsL_law_r26, w ∈ lw_tbl := fun w h => (goodIn_p wsL_law_r26 [874, 878, 578, 582, 586, 591] (by decide +kernel) (by decide +kernel) w h).1
theorem wsLr27 : ∀ w ∈ wsL_law_r27, w ∈ lw_tbl := fun w h => (goodIn_p wsL_law_r27 [812, 595, 599, 882, 603, 886] (by decide +kernel) (by decide +kernel) w h).1
theorem wsLr28 : ∀ w ∈ wsL_law_r28, w ∈ lw_tbl := fun w h => (goodIn_p wsL_law_r28 [607, 890, 611, 894, 615, 898] (by decide +kernel) (by decide +kernel) w h).1
theorem wsLr29 : ∀ w ∈ wsL_law_r29, w ∈ lw_tbl := fun w h => (goodIn_p wsL_law_r29 [619, 902, 623, 906, 910, 627] (by decide +kernel) (by decide +kernel) w h).1
theorem wsLr30 : ∀ w ∈ wsL_law_r30, w ∈ lw_tbl := fun w h => (goodIn_p wsL_law_r30 [631, 914, 917, 920, 636] (by decide +kernel) (by decide +kernel) w h).1
theorem wsLr31 : ∀ w ∈ wsL_law_r31, w ∈ lw_tbl := fun w h => (goodIn_p wsL_law_r31 [928, 640, 644, 932, 648, 936] (by decide +kernel) (by decide +kernel) w h).1
theorem wsLr32 : ∀ w ∈ wsL_law_r32, w ∈ lw_tbl := fun w h => (goodIn_p wsL_law_r32 [652, 940, 656, 944, 661, 948] (by decide +kernel) (by decide +kernel) w h).1
theorem wsLr33 : ∀ w ∈ wsL_law_r33, w ∈ lw_tbl := fun w h => (goodIn_p wsL_law_r33 [665, 952, 669, 956, 673, 960] (by decide +kernel) (by decide +kernel) w h).1
theorem wsLx6 : ∀ w ∈ wsX60, w ∈ lw_tbl := fun w h => (goodIn_p wsX60 [] (by decide +kernel) (by decide +kernel) w h).1
theorem wsLx7 : ∀ w ∈ wsX70, w ∈ lw_tbl := fun w h => (goodIn_p wsX70 [] (by decide +kernel) (by decide +kernel) w h).1
theorem wsLx1 : ∀ w ∈ wsX10, w ∈ lw_tbl := fun w h => (goodIn_p wsX10 [] (by decide +kernel) (by decide +kernel) w h).1
theorem wsLx5 : ∀ w ∈ wsX50, w ∈ lw_tbl := fun w h => (goodIn_p wsX50 [] (by decide +kernel) (by decide +kernel) w h).1
theorem wsLx3 : ∀ w ∈ wsX30, w ∈ lw_tbl := fun w h => (goodIn_p wsX30 [] (by decide +kernel) (by decide +kernel) w h).1
theorem wsLx4 : ∀ w ∈ wsX40, w ∈ lw_tbl := fun w h => (goodIn_p wsX40 [] (by decide +kernel) (by decide +kernel) w h).1
theorem wsLx2 : ∀ w ∈ wsX20, w ∈ lw_tbl := fun w h => (goodIn_p wsX20 [] (by decide +kernel) (by decide +kernel) w h).1
theorem wsLx0 : ∀ w ∈ wsX00, w ∈ lw_tbl := fun w h => (goodIn_p wsX00 [] (by decide +kernel) (by decide +kernel) w h).1
theorem wsL_law_in : ∀ w ∈ wsL_law, w ∈ lw_tbl := List.forall_mem_append.mpr ⟨List.forall_mem_append.mpr ⟨List.forall_mem_append.mpr ⟨List.forall_mem_append.mpr ⟨List.forall_mem_append.mpr ⟨List.forall_mem_append.mpr ⟨List.forall_mem_append.mpr ⟨List.forall_mem_append.mpr ⟨List.forall_mem_append.mpr ⟨List.forall_mem_append.mpr ⟨wsLr1, List.forall_mem_append.mpr ⟨wsLr2, List.forall_mem_append.mpr ⟨wsLr3, List.forall_mem_append.mpr ⟨wsLr4, List.forall_mem_append.mpr ⟨wsLr5, List.forall_mem_append.mpr ⟨wsLr6, List.forall_mem_append.mpr ⟨wsLr7, List.forall_mem_append.mpr ⟨wsLr8, List.forall_mem_append.mpr ⟨wsLr9, List.forall_mem_append.mpr ⟨wsLr10, List.forall_mem_append.mpr ⟨wsLr11, List.forall_mem_append.mpr ⟨wsLr12, List.forall_mem_append.mpr ⟨wsLr13, List.forall_mem_append.mpr ⟨wsLr14, List.forall_mem_append.mpr ⟨wsLr15, List.forall_mem_append.mpr ⟨wsLr16, List.forall_mem_append.mpr ⟨wsLr17, List.forall_mem_append.mpr ⟨wsLr18, List.forall_mem_append.mpr ⟨wsLr19, List.forall_mem_append.mpr ⟨wsLr20, List.forall_mem_append.mpr ⟨wsLr21, List.forall_mem_append.mpr ⟨wsLr22, List.forall_mem_append.mpr ⟨wsLr23, List.forall_mem_append.mpr ⟨wsLr24, List.forall_mem_append.mpr ⟨wsLr25, List.forall_mem_append.mpr ⟨wsLr26, List.forall_mem_append.mpr ⟨wsLr27, List.forall_mem_append.mpr ⟨wsLr28, List.forall_mem_append.mpr ⟨wsLr29, List.forall_mem_append.mpr ⟨wsLr30, List.forall_mem_append.mpr ⟨wsLr31, List.forall_mem_append.mpr ⟨wsLr32, wsLr33⟩⟩⟩⟩⟩⟩⟩⟩⟩⟩⟩⟩⟩⟩⟩⟩⟩⟩⟩⟩⟩⟩⟩⟩⟩⟩⟩⟩⟩⟩⟩⟩, wsLx6⟩, wsLx7⟩, wsLx1⟩, wsLx5⟩, wsLx3⟩, wsLx4⟩, wsLx2⟩, wsLx0⟩, fun w h => absurd h List.not_mem_nil⟩
