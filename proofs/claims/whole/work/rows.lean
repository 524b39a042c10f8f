section
-- ===== PART A: goes FIRST, ahead of the names: the tables' words, and 'selects' of the private methods out of them =====
/-- a private method of a class that the tables say can be made, by its rows of tables_1 -/
def lw_okq (q : MethodName × Nat) : Prop := (q.1.cls ≠ "java/lang/invoke/MethodHandle" ∧ q.1.cls ≠ "java/lang/invoke/VarHandle") ∧ Cond.instantiable q.1.cls q.2 ∈ tables_1 ∧ Cond.privateMethod q.1 ∈ tables_1 ∧ Cond.instanceMethod q.1 ∈ tables_1
theorem lw_p0 : lw_okq (⟨"EdgeCounterPlacer$TextReader", "readStatement", "(LEdgeCounterPlacer$GraphText;LEdgeCounterPlacer$Graph;)I"⟩, 5) := ⟨⟨by decide +kernel, by decide +kernel⟩, List.mem_of_getElem? (i := 38) (by decide +kernel), List.mem_of_getElem? (i := 227) (by decide +kernel), List.mem_of_getElem? (i := 228) (by decide +kernel)⟩
theorem lw_p1 : lw_okq (⟨"EdgeCounterPlacer$TextReader", "readNumbers", "(LEdgeCounterPlacer$GraphText;I)Z"⟩, 5) := ⟨⟨by decide +kernel, by decide +kernel⟩, List.mem_of_getElem? (i := 38) (by decide +kernel), List.mem_of_getElem? (i := 235) (by decide +kernel), List.mem_of_getElem? (i := 236) (by decide +kernel)⟩
theorem lw_p2 : lw_okq (⟨"EdgeCounterPlacer$TextReader", "readNumber", "(LEdgeCounterPlacer$GraphText;)I"⟩, 5) := ⟨⟨by decide +kernel, by decide +kernel⟩, List.mem_of_getElem? (i := 38) (by decide +kernel), List.mem_of_getElem? (i := 239) (by decide +kernel), List.mem_of_getElem? (i := 240) (by decide +kernel)⟩
theorem lw_p3 : lw_okq (⟨"EdgeCounterPlacer$TextReader", "takeBlocks", "(LEdgeCounterPlacer$Graph;)I"⟩, 5) := ⟨⟨by decide +kernel, by decide +kernel⟩, List.mem_of_getElem? (i := 38) (by decide +kernel), List.mem_of_getElem? (i := 243) (by decide +kernel), List.mem_of_getElem? (i := 244) (by decide +kernel)⟩
theorem lw_p4 : lw_okq (⟨"EdgeCounterPlacer$TextReader", "takeEdge", "(LEdgeCounterPlacer$Graph;)I"⟩, 5) := ⟨⟨by decide +kernel, by decide +kernel⟩, List.mem_of_getElem? (i := 38) (by decide +kernel), List.mem_of_getElem? (i := 247) (by decide +kernel), List.mem_of_getElem? (i := 248) (by decide +kernel)⟩
theorem lw_p5 : lw_okq (⟨"EdgeCounterPlacer$TextReader", "takeAbort", "(LEdgeCounterPlacer$Graph;)I"⟩, 5) := ⟨⟨by decide +kernel, by decide +kernel⟩, List.mem_of_getElem? (i := 38) (by decide +kernel), List.mem_of_getElem? (i := 269) (by decide +kernel), List.mem_of_getElem? (i := 270) (by decide +kernel)⟩
theorem lw_p6 : lw_okq (⟨"EdgeCounterPlacer$Graph", "spread", "(II)I"⟩, 7) := ⟨⟨by decide +kernel, by decide +kernel⟩, List.mem_of_getElem? (i := 124) (by decide +kernel), List.mem_of_getElem? (i := 294) (by decide +kernel), List.mem_of_getElem? (i := 295) (by decide +kernel)⟩
theorem lw_p7 : lw_okq (⟨"EdgeCounterPlacer", "takeDraft", "()V"⟩, 7) := ⟨⟨by decide +kernel, by decide +kernel⟩, List.mem_of_getElem? (i := 16) (by decide +kernel), List.mem_of_getElem? (i := 311) (by decide +kernel), List.mem_of_getElem? (i := 312) (by decide +kernel)⟩
theorem lw_p8 : lw_okq (⟨"EdgeCounterPlacer$Placement", "heaviestEdge", "(II)I"⟩, 3) := ⟨⟨by decide +kernel, by decide +kernel⟩, List.mem_of_getElem? (i := 61) (by decide +kernel), List.mem_of_getElem? (i := 331) (by decide +kernel), List.mem_of_getElem? (i := 332) (by decide +kernel)⟩
theorem lw_p9 : lw_okq (⟨"EdgeCounterPlacer$Placement", "findSides", "(LEdgeCounterPlacer$Graph;)V"⟩, 3) := ⟨⟨by decide +kernel, by decide +kernel⟩, List.mem_of_getElem? (i := 61) (by decide +kernel), List.mem_of_getElem? (i := 343) (by decide +kernel), List.mem_of_getElem? (i := 344) (by decide +kernel)⟩
theorem lw_p10 : lw_okq (⟨"EdgeCounterPlacer", "chosenEdge", "(II)I"⟩, 7) := ⟨⟨by decide +kernel, by decide +kernel⟩, List.mem_of_getElem? (i := 16) (by decide +kernel), List.mem_of_getElem? (i := 487) (by decide +kernel), List.mem_of_getElem? (i := 488) (by decide +kernel)⟩
theorem lw_p11 : lw_okq (⟨"EdgeCounterPlacer", "anyIsUncertain", "()Z"⟩, 7) := ⟨⟨by decide +kernel, by decide +kernel⟩, List.mem_of_getElem? (i := 16) (by decide +kernel), List.mem_of_getElem? (i := 503) (by decide +kernel), List.mem_of_getElem? (i := 504) (by decide +kernel)⟩
theorem lw_p12 : lw_okq (⟨"EdgeCounterPlacer", "isUncertain", "(I)Z"⟩, 7) := ⟨⟨by decide +kernel, by decide +kernel⟩, List.mem_of_getElem? (i := 16) (by decide +kernel), List.mem_of_getElem? (i := 507) (by decide +kernel), List.mem_of_getElem? (i := 508) (by decide +kernel)⟩
theorem lw_p13 : lw_okq (⟨"EdgeCounterPlacer", "isSaturatedChord", "(I)Z"⟩, 7) := ⟨⟨by decide +kernel, by decide +kernel⟩, List.mem_of_getElem? (i := 16) (by decide +kernel), List.mem_of_getElem? (i := 512) (by decide +kernel), List.mem_of_getElem? (i := 513) (by decide +kernel)⟩
theorem lw_p14 : lw_okq (⟨"EdgeCounterPlacer", "factorOfChord", "(II)I"⟩, 7) := ⟨⟨by decide +kernel, by decide +kernel⟩, List.mem_of_getElem? (i := 16) (by decide +kernel), List.mem_of_getElem? (i := 517) (by decide +kernel), List.mem_of_getElem? (i := 518) (by decide +kernel)⟩
theorem lw_p15 : lw_okq (⟨"EdgeCounterPlacer", "reconstructedCount", "(I)I"⟩, 7) := ⟨⟨by decide +kernel, by decide +kernel⟩, List.mem_of_getElem? (i := 16) (by decide +kernel), List.mem_of_getElem? (i := 526) (by decide +kernel), List.mem_of_getElem? (i := 527) (by decide +kernel)⟩
def lw_privs_1 : List (MethodName × Nat) := [(⟨"EdgeCounterPlacer$TextReader", "readStatement", "(LEdgeCounterPlacer$GraphText;LEdgeCounterPlacer$Graph;)I"⟩, 5), (⟨"EdgeCounterPlacer$TextReader", "readNumbers", "(LEdgeCounterPlacer$GraphText;I)Z"⟩, 5), (⟨"EdgeCounterPlacer$TextReader", "readNumber", "(LEdgeCounterPlacer$GraphText;)I"⟩, 5), (⟨"EdgeCounterPlacer$TextReader", "takeBlocks", "(LEdgeCounterPlacer$Graph;)I"⟩, 5), (⟨"EdgeCounterPlacer$TextReader", "takeEdge", "(LEdgeCounterPlacer$Graph;)I"⟩, 5), (⟨"EdgeCounterPlacer$TextReader", "takeAbort", "(LEdgeCounterPlacer$Graph;)I"⟩, 5), (⟨"EdgeCounterPlacer$Graph", "spread", "(II)I"⟩, 7), (⟨"EdgeCounterPlacer", "takeDraft", "()V"⟩, 7), (⟨"EdgeCounterPlacer$Placement", "heaviestEdge", "(II)I"⟩, 3), (⟨"EdgeCounterPlacer$Placement", "findSides", "(LEdgeCounterPlacer$Graph;)V"⟩, 3), (⟨"EdgeCounterPlacer", "chosenEdge", "(II)I"⟩, 7), (⟨"EdgeCounterPlacer", "anyIsUncertain", "()Z"⟩, 7), (⟨"EdgeCounterPlacer", "isUncertain", "(I)Z"⟩, 7), (⟨"EdgeCounterPlacer", "isSaturatedChord", "(I)Z"⟩, 7), (⟨"EdgeCounterPlacer", "factorOfChord", "(II)I"⟩, 7), (⟨"EdgeCounterPlacer", "reconstructedCount", "(I)I"⟩, 7)]
theorem lw_r1 : ∀ q ∈ lw_privs_1, lw_okq q := List.forall_mem_cons.mpr ⟨lw_p0, List.forall_mem_cons.mpr ⟨lw_p1, List.forall_mem_cons.mpr ⟨lw_p2, List.forall_mem_cons.mpr ⟨lw_p3, List.forall_mem_cons.mpr ⟨lw_p4, List.forall_mem_cons.mpr ⟨lw_p5, List.forall_mem_cons.mpr ⟨lw_p6, List.forall_mem_cons.mpr ⟨lw_p7, List.forall_mem_cons.mpr ⟨lw_p8, List.forall_mem_cons.mpr ⟨lw_p9, List.forall_mem_cons.mpr ⟨lw_p10, List.forall_mem_cons.mpr ⟨lw_p11, List.forall_mem_cons.mpr ⟨lw_p12, List.forall_mem_cons.mpr ⟨lw_p13, List.forall_mem_cons.mpr ⟨lw_p14, List.forall_mem_cons.mpr ⟨lw_p15, fun _ h => absurd h List.not_mem_nil⟩⟩⟩⟩⟩⟩⟩⟩⟩⟩⟩⟩⟩⟩⟩⟩
theorem lw_p16 : lw_okq (⟨"EdgeCounterPlacer", "openEdgeShare", "(I)I"⟩, 7) := ⟨⟨by decide +kernel, by decide +kernel⟩, List.mem_of_getElem? (i := 16) (by decide +kernel), List.mem_of_getElem? (i := 531) (by decide +kernel), List.mem_of_getElem? (i := 532) (by decide +kernel)⟩
theorem lw_p17 : lw_okq (⟨"EdgeCounterPlacerModel", "putEdge", "(III)V"⟩, 19) := ⟨⟨by decide +kernel, by decide +kernel⟩, List.mem_of_getElem? (i := 636) (by decide +kernel), List.mem_of_getElem? (i := 642) (by decide +kernel), List.mem_of_getElem? (i := 643) (by decide +kernel)⟩
theorem lw_p18 : lw_okq (⟨"EdgeCounterPlacerModel", "takeGraph", "()V"⟩, 19) := ⟨⟨by decide +kernel, by decide +kernel⟩, List.mem_of_getElem? (i := 636) (by decide +kernel), List.mem_of_getElem? (i := 646) (by decide +kernel), List.mem_of_getElem? (i := 647) (by decide +kernel)⟩
theorem lw_p19 : lw_okq (⟨"EdgeCounterPlacerModel", "findTree", "()V"⟩, 19) := ⟨⟨by decide +kernel, by decide +kernel⟩, List.mem_of_getElem? (i := 636) (by decide +kernel), List.mem_of_getElem? (i := 651) (by decide +kernel), List.mem_of_getElem? (i := 652) (by decide +kernel)⟩
theorem lw_p20 : lw_okq (⟨"EdgeCounterPlacerModel", "sideOf", "(II)I"⟩, 19) := ⟨⟨by decide +kernel, by decide +kernel⟩, List.mem_of_getElem? (i := 636) (by decide +kernel), List.mem_of_getElem? (i := 655) (by decide +kernel), List.mem_of_getElem? (i := 656) (by decide +kernel)⟩
theorem lw_p21 : lw_okq (⟨"EdgeCounterPlacerModel", "resetCounts", "()V"⟩, 19) := ⟨⟨by decide +kernel, by decide +kernel⟩, List.mem_of_getElem? (i := 636) (by decide +kernel), List.mem_of_getElem? (i := 662) (by decide +kernel), List.mem_of_getElem? (i := 663) (by decide +kernel)⟩
theorem lw_p22 : lw_okq (⟨"EdgeCounterPlacerModel", "readText", "()I"⟩, 19) := ⟨⟨by decide +kernel, by decide +kernel⟩, List.mem_of_getElem? (i := 636) (by decide +kernel), List.mem_of_getElem? (i := 739) (by decide +kernel), List.mem_of_getElem? (i := 740) (by decide +kernel)⟩
theorem lw_p23 : lw_okq (⟨"EdgeCounterPlacerModel", "readStatement", "()I"⟩, 19) := ⟨⟨by decide +kernel, by decide +kernel⟩, List.mem_of_getElem? (i := 636) (by decide +kernel), List.mem_of_getElem? (i := 743) (by decide +kernel), List.mem_of_getElem? (i := 744) (by decide +kernel)⟩
theorem lw_p24 : lw_okq (⟨"EdgeCounterPlacerModel", "readNumbers", "(I)Z"⟩, 19) := ⟨⟨by decide +kernel, by decide +kernel⟩, List.mem_of_getElem? (i := 636) (by decide +kernel), List.mem_of_getElem? (i := 747) (by decide +kernel), List.mem_of_getElem? (i := 748) (by decide +kernel)⟩
theorem lw_p25 : lw_okq (⟨"EdgeCounterPlacerModel", "isDigit", "()Z"⟩, 19) := ⟨⟨by decide +kernel, by decide +kernel⟩, List.mem_of_getElem? (i := 636) (by decide +kernel), List.mem_of_getElem? (i := 751) (by decide +kernel), List.mem_of_getElem? (i := 752) (by decide +kernel)⟩
theorem lw_p26 : lw_okq (⟨"EdgeCounterPlacerModel", "isBlockButExit", "(I)Z"⟩, 19) := ⟨⟨by decide +kernel, by decide +kernel⟩, List.mem_of_getElem? (i := 636) (by decide +kernel), List.mem_of_getElem? (i := 755) (by decide +kernel), List.mem_of_getElem? (i := 756) (by decide +kernel)⟩
theorem lw_p27 : lw_okq (⟨"EdgeCounterPlacerModel", "isComplete", "()Z"⟩, 19) := ⟨⟨by decide +kernel, by decide +kernel⟩, List.mem_of_getElem? (i := 636) (by decide +kernel), List.mem_of_getElem? (i := 767) (by decide +kernel), List.mem_of_getElem? (i := 768) (by decide +kernel)⟩
theorem lw_p28 : lw_okq (⟨"EdgeCounterPlacerModel", "isEdge", "(I)Z"⟩, 19) := ⟨⟨by decide +kernel, by decide +kernel⟩, List.mem_of_getElem? (i := 636) (by decide +kernel), List.mem_of_getElem? (i := 779) (by decide +kernel), List.mem_of_getElem? (i := 780) (by decide +kernel)⟩
theorem lw_p29 : lw_okq (⟨"EdgeCounterPlacerModel", "save", "()V"⟩, 19) := ⟨⟨by decide +kernel, by decide +kernel⟩, List.mem_of_getElem? (i := 636) (by decide +kernel), List.mem_of_getElem? (i := 783) (by decide +kernel), List.mem_of_getElem? (i := 784) (by decide +kernel)⟩
theorem lw_p30 : lw_okq (⟨"EdgeCounterPlacerModel", "pass", "(I)V"⟩, 19) := ⟨⟨by decide +kernel, by decide +kernel⟩, List.mem_of_getElem? (i := 636) (by decide +kernel), List.mem_of_getElem? (i := 795) (by decide +kernel), List.mem_of_getElem? (i := 796) (by decide +kernel)⟩
theorem lw_p31 : lw_okq (⟨"EdgeCounterPlacerModel", "isTree", "(I)Z"⟩, 19) := ⟨⟨by decide +kernel, by decide +kernel⟩, List.mem_of_getElem? (i := 636) (by decide +kernel), List.mem_of_getElem? (i := 799) (by decide +kernel), List.mem_of_getElem? (i := 800) (by decide +kernel)⟩
def lw_privs_2 : List (MethodName × Nat) := [(⟨"EdgeCounterPlacer", "openEdgeShare", "(I)I"⟩, 7), (⟨"EdgeCounterPlacerModel", "putEdge", "(III)V"⟩, 19), (⟨"EdgeCounterPlacerModel", "takeGraph", "()V"⟩, 19), (⟨"EdgeCounterPlacerModel", "findTree", "()V"⟩, 19), (⟨"EdgeCounterPlacerModel", "sideOf", "(II)I"⟩, 19), (⟨"EdgeCounterPlacerModel", "resetCounts", "()V"⟩, 19), (⟨"EdgeCounterPlacerModel", "readText", "()I"⟩, 19), (⟨"EdgeCounterPlacerModel", "readStatement", "()I"⟩, 19), (⟨"EdgeCounterPlacerModel", "readNumbers", "(I)Z"⟩, 19), (⟨"EdgeCounterPlacerModel", "isDigit", "()Z"⟩, 19), (⟨"EdgeCounterPlacerModel", "isBlockButExit", "(I)Z"⟩, 19), (⟨"EdgeCounterPlacerModel", "isComplete", "()Z"⟩, 19), (⟨"EdgeCounterPlacerModel", "isEdge", "(I)Z"⟩, 19), (⟨"EdgeCounterPlacerModel", "save", "()V"⟩, 19), (⟨"EdgeCounterPlacerModel", "pass", "(I)V"⟩, 19), (⟨"EdgeCounterPlacerModel", "isTree", "(I)Z"⟩, 19)]
theorem lw_r2 : ∀ q ∈ lw_privs_2, lw_okq q := List.forall_mem_cons.mpr ⟨lw_p16, List.forall_mem_cons.mpr ⟨lw_p17, List.forall_mem_cons.mpr ⟨lw_p18, List.forall_mem_cons.mpr ⟨lw_p19, List.forall_mem_cons.mpr ⟨lw_p20, List.forall_mem_cons.mpr ⟨lw_p21, List.forall_mem_cons.mpr ⟨lw_p22, List.forall_mem_cons.mpr ⟨lw_p23, List.forall_mem_cons.mpr ⟨lw_p24, List.forall_mem_cons.mpr ⟨lw_p25, List.forall_mem_cons.mpr ⟨lw_p26, List.forall_mem_cons.mpr ⟨lw_p27, List.forall_mem_cons.mpr ⟨lw_p28, List.forall_mem_cons.mpr ⟨lw_p29, List.forall_mem_cons.mpr ⟨lw_p30, List.forall_mem_cons.mpr ⟨lw_p31, fun _ h => absurd h List.not_mem_nil⟩⟩⟩⟩⟩⟩⟩⟩⟩⟩⟩⟩⟩⟩⟩⟩
theorem lw_p32 : lw_okq (⟨"EdgeCounterPlacerModel", "leavingCount", "()I"⟩, 19) := ⟨⟨by decide +kernel, by decide +kernel⟩, List.mem_of_getElem? (i := 636) (by decide +kernel), List.mem_of_getElem? (i := 810) (by decide +kernel), List.mem_of_getElem? (i := 811) (by decide +kernel)⟩
theorem lw_p33 : lw_okq (⟨"EdgeCounterPlacerModel", "leavingEdge", "(I)I"⟩, 19) := ⟨⟨by decide +kernel, by decide +kernel⟩, List.mem_of_getElem? (i := 636) (by decide +kernel), List.mem_of_getElem? (i := 814) (by decide +kernel), List.mem_of_getElem? (i := 815) (by decide +kernel)⟩
theorem lw_p34 : lw_okq (⟨"EdgeCounterPlacerModel", "isUncertain", "(I)Z"⟩, 19) := ⟨⟨by decide +kernel, by decide +kernel⟩, List.mem_of_getElem? (i := 636) (by decide +kernel), List.mem_of_getElem? (i := 822) (by decide +kernel), List.mem_of_getElem? (i := 823) (by decide +kernel)⟩
theorem lw_p35 : lw_okq (⟨"EdgeCounterPlacerModel", "isSaturated", "(I)Z"⟩, 19) := ⟨⟨by decide +kernel, by decide +kernel⟩, List.mem_of_getElem? (i := 636) (by decide +kernel), List.mem_of_getElem? (i := 826) (by decide +kernel), List.mem_of_getElem? (i := 827) (by decide +kernel)⟩
theorem lw_p36 : lw_okq (⟨"EdgeCounterPlacerModel", "factorOf", "(II)I"⟩, 19) := ⟨⟨by decide +kernel, by decide +kernel⟩, List.mem_of_getElem? (i := 636) (by decide +kernel), List.mem_of_getElem? (i := 830) (by decide +kernel), List.mem_of_getElem? (i := 831) (by decide +kernel)⟩
theorem lw_p37 : lw_okq (⟨"EdgeCounterPlacerModel", "countOf", "(I)I"⟩, 19) := ⟨⟨by decide +kernel, by decide +kernel⟩, List.mem_of_getElem? (i := 636) (by decide +kernel), List.mem_of_getElem? (i := 837) (by decide +kernel), List.mem_of_getElem? (i := 838) (by decide +kernel)⟩
theorem lw_p38 : lw_okq (⟨"EdgeCounterPlacerModel", "weightSum", "(Z)I"⟩, 19) := ⟨⟨by decide +kernel, by decide +kernel⟩, List.mem_of_getElem? (i := 636) (by decide +kernel), List.mem_of_getElem? (i := 869) (by decide +kernel), List.mem_of_getElem? (i := 870) (by decide +kernel)⟩
def lw_privs_3 : List (MethodName × Nat) := [(⟨"EdgeCounterPlacerModel", "leavingCount", "()I"⟩, 19), (⟨"EdgeCounterPlacerModel", "leavingEdge", "(I)I"⟩, 19), (⟨"EdgeCounterPlacerModel", "isUncertain", "(I)Z"⟩, 19), (⟨"EdgeCounterPlacerModel", "isSaturated", "(I)Z"⟩, 19), (⟨"EdgeCounterPlacerModel", "factorOf", "(II)I"⟩, 19), (⟨"EdgeCounterPlacerModel", "countOf", "(I)I"⟩, 19), (⟨"EdgeCounterPlacerModel", "weightSum", "(Z)I"⟩, 19)]
theorem lw_r3 : ∀ q ∈ lw_privs_3, lw_okq q := List.forall_mem_cons.mpr ⟨lw_p32, List.forall_mem_cons.mpr ⟨lw_p33, List.forall_mem_cons.mpr ⟨lw_p34, List.forall_mem_cons.mpr ⟨lw_p35, List.forall_mem_cons.mpr ⟨lw_p36, List.forall_mem_cons.mpr ⟨lw_p37, List.forall_mem_cons.mpr ⟨lw_p38, fun _ h => absurd h List.not_mem_nil⟩⟩⟩⟩⟩⟩⟩
def lw_privs : List (MethodName × Nat) := lw_privs_1 ++ (lw_privs_2 ++ (lw_privs_3))
def lw_tbl : List Cond := k2_sels lw_privs ++ tables_1
theorem lw_privs_ok : ∀ q ∈ lw_privs, lw_okq q := by
  show ∀ q ∈ lw_privs_1 ++ (lw_privs_2 ++ (lw_privs_3)), lw_okq q
  exact List.forall_mem_append.mpr ⟨lw_r1, List.forall_mem_append.mpr ⟨lw_r2, lw_r3⟩⟩
/-- the streams that the claim lets the run draw from -/
abbrev lw_cs : List Choice := [Jvm.Choice.named "NaN.bits"]
theorem lw_bits : nanBits ∈ lw_cs := by first | decide | exact List.mem_cons_self | simp [lw_cs, nanBits]
-- ===== end of PART A; then your names; then what follows =====
end
section
/-! ===== BEGIN words of one list among another's, by their places ===== -/
theorem goodIn_r {big : List Cond} (ws : List Cond) (ps : List Nat) (hp : ws = ps.filterMap (fun i => big[i]?)) (h : ws.all goodWord = true) : GoodIn big ws := by
  intro w hw
  have h1 := List.all_eq_true.mp h w hw
  rw [hp] at hw
  obtain ⟨i, -, hi⟩ := List.mem_filterMap.mp hw
  have hm : w ∈ big := by first | exact List.mem_of_getElem? hi | exact List.getElem?_mem hi
  exact ⟨hm, good_of_word h1⟩
theorem goodIn_app {big a b : List Cond} (ha : GoodIn big a) (hb : GoodIn big b) : GoodIn big (a ++ b) := fun w h => (List.mem_append.mp h).elim (ha w) (hb w)
theorem goodIn_ca {big a b : List Cond} {c : Cond} (ha : GoodIn big (c :: a)) (hb : GoodIn big b) : GoodIn big (c :: (a ++ b)) := fun w h => (List.mem_cons.mp h).elim (fun e => ha w (List.mem_cons.mpr (Or.inl e))) (fun h => (List.mem_append.mp h).elim (fun h => ha w (List.mem_cons.mpr (Or.inr h))) (hb w))
theorem goodIn_sub {big ws : List Cond} (hm : ∀ w ∈ ws, w ∈ big) (h : ws.all goodWord = true) : GoodIn big ws := fun w hw => ⟨hm w hw, good_of_word (List.all_eq_true.mp h w hw)⟩
/-! ===== END ===== -/

/-! ===== BEGIN new T[n][m]: the outer array a place, the inner ones among the pooled ===== -/
/-- f, but v at every address of l -/
def vr_up {α : Type} (f : Nat → α) (l : List Nat) (v : α) : Nat → α := fun a => if a ∈ l then v else f a
theorem vr_up_in {α : Type} {f : Nat → α} {l : List Nat} {v : α} {a : Nat} (h : a ∈ l) : vr_up f l v a = v := if_pos h
theorem vr_up_ne {α : Type} {f : Nat → α} {l : List Nat} {v : α} {a : Nat} (h : a ∉ l) : vr_up f l v a = f a := if_neg h
theorem vr_rows {L l : List Nat} {f : Nat → va_E} {e : va_E} (h : ∀ a, a ∈ l → a ∉ L) : va_pl L f ++ l.map (fun a => (a, e)) = va_pl (L ++ l) (vr_up f l e) := by
  unfold va_pl
  rw [List.map_append]
  congr 1
  · apply List.map_congr_left
    intro a ha
    rw [vr_up_ne (fun q => h a q ha)]
  · apply List.map_congr_left
    intro a ha
    rw [vr_up_in ha]
theorem vr_lay {X rows : va_W} {x : Nat × va_E} {pl : va_W} {D : va_G} {cl : List vw_C} {H : Heap} (hP : va_P D cl (((X ++ pl) ++ [x]) ++ rows) H) : va_P D cl ((X ++ [x]) ++ (pl ++ rows)) H := by
  rw [List.append_assoc (X ++ pl)] at hP
  have h := va_P.swap hP
  rw [← List.append_assoc X] at h
  have h2 := va_P.swap h
  rw [List.append_assoc (X ++ [x])] at h2
  exact h2
theorem vr_layD {X rows : va_W} {x : Nat × va_E} {pl : va_W} {A : Nat → Prop} (hD : va_D A (((X ++ pl) ++ [x]) ++ rows)) : va_D A ((X ++ [x]) ++ (pl ++ rows)) := by
  rw [List.append_assoc (X ++ pl)] at hD
  have h := va_D.swap hD
  rw [← List.append_assoc X] at h
  have h2 := va_D.swap h
  rw [List.append_assoc (X ++ [x])] at h2
  exact h2
theorem vr_outer (c : ClassId) (N h0 : Nat) : ∀ i : Nat, Jvm.Free.Multi.outerC c N h0 i = arrV c N (fun j => va_rf (if j < i then some (h0 + 1 + j) else none))
  | 0 => by
    show ({ cls := c, slots := Array.replicate N .null, vm := .none } : Cell) = _
    rw [arrV_new]
    refine congrArg (arrV c N) (funext fun j => ?_)
    simp [va_rf]
  | i + 1 => by
    show (Jvm.Free.Multi.outerC c N h0 i).setSlot i (.ref (h0 + 1 + i)) = _
    rw [vr_outer c N h0 i, arrV_store]
    refine congrArg (arrV c N) (funext fun j => ?_)
    by_cases e : j = i
    · subst e
      simp [updV, va_rf]
    · by_cases h : j < i
      · simp [updV, e, h, Nat.lt_succ_of_lt h]
      · simp [updV, e, h, show ¬ j < i + 1 by omega]
section VGM
variable {p : Program} {l : Launch} {e : Env} {R : Room} {s : State} {m : MethodId} {args : Array Value} {below : List Frame} {meth : Method} {c : Code} {H : Heap} {locs : List Loc} {cells slots : Nat} {Q : State → Prop}
variable {cc : ByteArray} {pc : Nat} {ls : Array Slot} {rest : List Value} {D : va_G} {cl : List vw_C} {A : Nat → Prop} {a : Nat} {tys : List (ClassId × FieldType)} {ws : va_W} {H0 : Heap}
theorem va_mna {X : va_W} {L : List Nat} {f : Nat → va_E} {cc : ByteArray} (hexec : p.tables.exec = Jvm.exec) (hb : c.code = cc) {own : String} {index : Nat} {ty : FieldType} {cy : ClassId} (hown : s.vm.findClass own = some m.cls) (hclink : (Cond.classLink own index ("[" ++ (FieldType.array ty).toString)).before args s = true) (hover : va_AOA ty s) (harr : (Cond.arrayClass ty).before args s = true) (hcy : s.vm.findClass (FieldType.array ty).toString = some cy)
    (hK : va_K D cl tys s) (hP : va_P D cl (X ++ va_pl L f) H) (hD : va_D A (X ++ va_pl L f)) (hS : va_S A H0 H locs) (hA : ∀ q, H0.size ≤ q → A q) {n k : Int32} {N' K' : Nat} {z : vp_A} (hn : ¬ n < 0) (hk : ¬ k < 0) (hN : n.toNatClampNeg = N') (hM : k.toNatClampNeg = K')
    (hb1 : N' * 4 ≤ 536870912) (hb2 : K' * componentBytes ty ≤ 536870912) (hb3 : K' ≤ 536870912) (hdf : fits ty (defaultValue ty) = true) (hdd : (defaultValue ty).isDefault = true) (hcells : cells + (1 + N') ≤ R.cells) (hslots : slots + (N' + N' * K') ≤ R.slots) (hz : ∀ c : ClassId, Jvm.Free.Multi.innerC c K' (defaultValue ty) = vp_cell c z) (hdg : decode cc pc = .ok (.multianewarray index 2, 4))
    (kk : ∀ (q : Nat) (r : Nat → Nat) (cA : ClassId) (H1 : Heap), (∀ i j : Nat, i < N' → j < N' → r i = r j → i = j) → (∀ i : Nat, i < N' → r i ∉ L) → va_K D cl (tys ++ [(cA, .array ty)]) s →
      va_P D cl ((X ++ [(q, .inl (cA, N', .inr (.inr (.inr (.inr (fun i => if i < N' then some (r i) else none))))))]) ++ va_pl (L ++ (List.range N').map r) (vr_up f ((List.range N').map r) (.inl (cy, z)))) H1 → va_D A ((X ++ [(q, .inl (cA, N', .inr (.inr (.inr (.inr (fun i => if i < N' then some (r i) else none))))))]) ++ va_pl (L ++ (List.range N').map r) (vr_up f ((List.range N').map r) (.inl (cy, z)))) → va_S A H0 H1 locs →
      W p l e R s m args below meth c H1 locs (cells + 1 + N') (slots + N' + N' * K') Q (F0 m (pc + 4) ls (.ref q :: rest))) : W p l e R s m args below meth c H locs cells slots Q (F0 m pc ls (.int k :: .int n :: rest)) := by
  subst hN
  subst hM
  intro T hT Xs
  obtain ⟨vm₁, cA, comp, -, fA, fC, hO, -, X', step⟩ := Xs.multianewarray2F hexec hown hclink (va_AOA.use hover) harr (g := F0 m pc ls (.int k :: .int n :: rest)) rfl (by rw [hb]; exact hdg) rfl hn hk hb1 hb2 hb3 hdf hdd hcells hslots
  have ec : some cy = some comp := hcy.symm.trans fC
  cases ec
  generalize hF : Jvm.Free.Multi.fill (T.setVm vm₁) cA cy n.toNatClampNeg k.toNatClampNeg (defaultValue ty) n.toNatClampNeg = F at X' step
  have hTh : (T.setVm vm₁).heap = H := hT
  obtain ⟨f1, f2, -, -⟩ := Jvm.Free.Multi.fill_facts (T.setVm vm₁) cA cy n.toNatClampNeg k.toNatClampNeg (defaultValue ty) n.toNatClampNeg
  rw [hF, hTh] at f1 f2
  have hold : ∀ x : Nat, x < H.size → F.heap[x]? = H[x]? := fun x hx => by
    have := Jvm.Free.Multi.fill_old (T.setVm vm₁) cA cy n.toNatClampNeg k.toNatClampNeg (defaultValue ty) (a := x) (by rw [hTh]; exact hx) n.toNatClampNeg
    rw [hF, hTh] at this
    exact this
  have hrow : ∀ j : Nat, j < n.toNatClampNeg → F.heap[H.size + 1 + j]? = some (vp_cell cy z) := fun j hj => by
    have := Jvm.Free.Multi.fill_inner (T.setVm vm₁) cA cy n.toNatClampNeg k.toNatClampNeg (defaultValue ty) n.toNatClampNeg j hj
    rw [hF, hTh, hz] at this
    exact this
  have hout : Jvm.Free.Multi.outerC cA n.toNatClampNeg H.size n.toNatClampNeg = vp_cell cA (n.toNatClampNeg, .inr (.inr (.inr (.inr (fun i => if i < n.toNatClampNeg then some (H.size + 1 + i) else none))))) := by
    rw [vp_cell_q]
    exact vr_outer cA n.toNatClampNeg H.size n.toNatClampNeg
  rw [hout] at f2
  have hlt : ∀ a, a ∈ L → a < H.size := fun a ha => by
    obtain ⟨k9, hk9⟩ := va_pl_get (X := X) (f := f) ha
    exact (hP k9 _ hk9).lt
  have hnl : ∀ i : Nat, i < n.toNatClampNeg → H.size + 1 + i ∉ L := fun i _ h => by
    have := hlt _ h
    omega
  have hnm : ∀ a, a ∈ (List.range n.toNatClampNeg).map (fun i => H.size + 1 + i) → a ∉ L := fun a ha h => by
    obtain ⟨i, -, rfl⟩ := List.mem_map.mp ha
    have := hlt _ h
    omega
  have hP0 : va_P D cl (X ++ va_pl L f) F.heap := hP.kept (fun k9 x hx => hold x.1 ((hP k9 x hx).lt))
  have hP1 : va_P D cl ((X ++ va_pl L f) ++ [(H.size, .inl (cA, n.toNatClampNeg, .inr (.inr (.inr (.inr (fun i => if i < n.toNatClampNeg then some (H.size + 1 + i) else none))))))]) F.heap := hP0.app (fun k9 x hx => by
    have h0 : k9 < 1 := (List.getElem?_eq_some_iff.mp hx).1
    rw [show k9 = 0 by omega] at hx
    cases hx
    exact f2)
  have hP2 : va_P D cl (((X ++ va_pl L f) ++ [(H.size, .inl (cA, n.toNatClampNeg, .inr (.inr (.inr (.inr (fun i => if i < n.toNatClampNeg then some (H.size + 1 + i) else none))))))]) ++ ((List.range n.toNatClampNeg).map (fun i => H.size + 1 + i)).map (fun a => (a, .inl (cy, z)))) F.heap := hP1.app (fun k9 x hx => by
    obtain ⟨a, ha, rfl⟩ := List.mem_map.mp (List.mem_of_getElem? hx)
    obtain ⟨i, hi, rfl⟩ := List.mem_map.mp ha
    exact hrow i (List.mem_range.mp hi))
  have hD2 : va_D A (((X ++ va_pl L f) ++ [(H.size, .inl (cA, n.toNatClampNeg, .inr (.inr (.inr (.inr (fun i => if i < n.toNatClampNeg then some (H.size + 1 + i) else none))))))]) ++ ((List.range n.toNatClampNeg).map (fun i => H.size + 1 + i)).map (fun a => (a, .inl (cy, z)))) := by
    have hD1 := hD.push (e := .inl (cA, n.toNatClampNeg, .inr (.inr (.inr (.inr (fun i => if i < n.toNatClampNeg then some (H.size + 1 + i) else none)))))) hP rfl (hA _ hS.1)
    generalize hW1 : (X ++ va_pl L f) ++ [(H.size, .inl (cA, n.toNatClampNeg, .inr (.inr (.inr (.inr (fun i => if i < n.toNatClampNeg then some (H.size + 1 + i) else none))))))] = W1 at hD1 hP1 ⊢
    have hle : ∀ (k9 : Nat) (x : Nat × va_E), W1[k9]? = some x → x.1 ≤ H.size := fun k9 x hx => by
      rw [← hW1] at hx
      by_cases hl : k9 < (X ++ va_pl L f).length
      · rw [List.getElem?_append_left hl] at hx
        exact Nat.le_of_lt ((hP k9 x hx).lt)
      · rw [List.getElem?_append_right (by omega)] at hx
        have h0 : k9 - (X ++ va_pl L f).length < 1 := (List.getElem?_eq_some_iff.mp hx).1
        rw [show k9 - (X ++ va_pl L f).length = 0 by omega] at hx
        cases hx
        exact Nat.le_refl _
    have hr : ∀ (k9 : Nat) (x : Nat × va_E), (((List.range n.toNatClampNeg).map (fun i => H.size + 1 + i)).map (fun a => ((a, .inl (cy, z)) : Nat × va_E)))[k9]? = some x → x.1 = H.size + 1 + k9 := fun k9 x hx => by
      rw [List.getElem?_map, List.getElem?_map] at hx
      by_cases h9 : k9 < n.toNatClampNeg
      · rw [List.getElem?_range h9] at hx
        cases hx
        rfl
      · have hn0 : (List.range n.toNatClampNeg)[k9]? = none := List.getElem?_eq_none (by rw [List.length_range]; omega)
        rw [hn0] at hx
        cases hx
    refine ⟨fun i j x y hi hj hxy => ?_, fun k9 x hx => ?_⟩
    · by_cases h1 : i < W1.length <;> by_cases h2 : j < W1.length
      · rw [List.getElem?_append_left h1] at hi
        rw [List.getElem?_append_left h2] at hj
        exact hD1.1 i j x y hi hj hxy
      · rw [List.getElem?_append_left h1] at hi
        rw [List.getElem?_append_right (by omega)] at hj
        have := hle _ _ hi
        have := hr _ _ hj
        omega
      · rw [List.getElem?_append_right (by omega)] at hi
        rw [List.getElem?_append_left h2] at hj
        have := hle _ _ hj
        have := hr _ _ hi
        omega
      · rw [List.getElem?_append_right (by omega)] at hi hj
        have := hr _ _ hi
        have := hr _ _ hj
        omega
    · by_cases h1 : k9 < W1.length
      · rw [List.getElem?_append_left h1] at hx
        exact hD1.2 k9 x hx
      · rw [List.getElem?_append_right (by omega)] at hx
        have := hr _ _ hx
        exact hA _ (by have := hS.1; omega)
  have hAr : ArrOfT s cA (.array ty) := fun N9 z9 => by
    obtain ⟨-, k9, hk9, cm9, hkk9⟩ := (hO 0 0 0).1
    exact ⟨(fun q hq => by cases hq), k9, hk9, cm9, hkk9⟩
  have hK2 : va_K D cl (tys ++ [(cA, .array ty)]) s := ⟨hK.1, fun k9 x hx => by
    by_cases hl : k9 < tys.length
    · rw [List.getElem?_append_left hl] at hx
      exact hK.2 k9 x hx
    · rw [List.getElem?_append_right (by omega)] at hx
      have h0 : k9 - tys.length < 1 := (List.getElem?_eq_some_iff.mp hx).1
      rw [show k9 - tys.length = 0 by omega] at hx
      cases hx
      exact ⟨hAr, fA⟩⟩
  obtain ⟨t, a1, b1⟩ := kk H.size (fun i => H.size + 1 + i) cA F.heap (fun i j _ _ h => by have h9 : H.size + 1 + i = H.size + 1 + j := h; omega) hnl hK2 (by rw [← vr_rows hnm]; exact vr_lay hP2) (by rw [← vr_rows hnm]; exact vr_layD hD2) ⟨by rw [f1]; have := hS.1; omega, fun x h1 h2 => (hold x (Nat.lt_of_lt_of_le h1 hS.1)).trans (hS.2.1 x h1 h2), hS.2.2⟩ F rfl X'
  refine ⟨t, step t ?_, b1⟩
  have e : T.heap.size = H.size := by rw [hT]
  rw [e]
  exact a1
end VGM
/-! ===== END ===== -/

/-! ===== BEGIN printed: names, fields, word lists, decode rows ===== -/
def RX0 : String := "EdgeCounterPlacer$Graph"
def TX0 : u_T := fun k => match k with
  | 0 => ("EdgeCounterPlacer$Graph", "source", "[I", true)
  | 1 => ("EdgeCounterPlacer$Graph", "target", "[I", true)
  | 2 => ("EdgeCounterPlacer$Graph", "statedWeight", "[I", true)
  | 3 => ("EdgeCounterPlacer$Graph", "leaving", "[[I", true)
  | 4 => ("EdgeCounterPlacer$Graph", "leavingCount", "[I", true)
  | 5 => ("EdgeCounterPlacer$Graph", "blocks", "I", false)
  | _ => ("EdgeCounterPlacer$Graph", "edges", "I", false)
def tyX0 : Nat → FieldType := fun k => match k with
  | 0 => .array .int
  | 1 => .array .int
  | 2 => .array .int
  | 3 => .array (.array .int)
  | 4 => .array .int
  | 5 => .int
  | _ => .int
abbrev wsX00 : List Cond := u_ws RX0 TX0 7
theorem nmX0 : ∀ a, a < 7 → ∀ b, b < 7 → a ≠ b → (TX0 a).2.1 ≠ (TX0 b).2.1 := by decide +kernel
theorem tyX0_ok : ∀ k, k < 7 → parseFieldDescriptor (TX0 k).2.2.1 = some (tyX0 k) := by decide +kernel
abbrev cX0_init : ByteArray := prog_2_method_1_code
def yX0_init : MethodName := ⟨RX0, "<init>", "()V"⟩
abbrev cX0_begin : ByteArray := prog_2_method_2_code
def yX0_begin : MethodName := ⟨RX0, "begin", "(I)V"⟩
abbrev cX0_blocks : ByteArray := prog_2_method_3_code
def yX0_blocks : MethodName := ⟨RX0, "blocks", "()I"⟩
abbrev cX0_edges : ByteArray := prog_2_method_4_code
def yX0_edges : MethodName := ⟨RX0, "edges", "()I"⟩
abbrev cX0_exit : ByteArray := prog_2_method_5_code
def yX0_exit : MethodName := ⟨RX0, "exit", "()I"⟩
abbrev cX0_hasBlock : ByteArray := prog_2_method_6_code
def yX0_hasBlock : MethodName := ⟨RX0, "hasBlock", "(I)Z"⟩
abbrev cX0_hasEdge : ByteArray := prog_2_method_7_code
def yX0_hasEdge : MethodName := ⟨RX0, "hasEdge", "(I)Z"⟩
abbrev cX0_isFull : ByteArray := prog_2_method_8_code
def yX0_isFull : MethodName := ⟨RX0, "isFull", "()Z"⟩
abbrev cX0_addEdge : ByteArray := prog_2_method_9_code
def yX0_addEdge : MethodName := ⟨RX0, "addEdge", "(III)V"⟩
abbrev cX0_source : ByteArray := prog_2_method_10_code
def yX0_source : MethodName := ⟨RX0, "source", "(I)I"⟩
abbrev cX0_target : ByteArray := prog_2_method_11_code
def yX0_target : MethodName := ⟨RX0, "target", "(I)I"⟩
abbrev cX0_statedWeight : ByteArray := prog_2_method_12_code
def yX0_statedWeight : MethodName := ⟨RX0, "statedWeight", "(I)I"⟩
abbrev cX0_leavingCount : ByteArray := prog_2_method_13_code
def yX0_leavingCount : MethodName := ⟨RX0, "leavingCount", "(I)I"⟩
abbrev cX0_leavingEdge : ByteArray := prog_2_method_14_code
def yX0_leavingEdge : MethodName := ⟨RX0, "leavingEdge", "(II)I"⟩
abbrev cX0_isComplete : ByteArray := prog_2_method_15_code
def yX0_isComplete : MethodName := ⟨RX0, "isComplete", "()Z"⟩
abbrev cX0_reach : ByteArray := prog_2_method_16_code
def yX0_reach : MethodName := ⟨RX0, "reach", "(II)I"⟩
abbrev cX0_spread : ByteArray := prog_2_method_17_code
def yX0_spread : MethodName := ⟨RX0, "spread", "(II)I"⟩
def RX1 : String := "EdgeCounterPlacer$GraphText"
def TX1 : u_T := fun k => match k with
  | 0 => ("EdgeCounterPlacer$GraphText", "characters", "[C", true)
  | _ => ("EdgeCounterPlacer$GraphText", "length", "I", false)
def tyX1 : Nat → FieldType := fun k => match k with
  | 0 => .array .char
  | _ => .int
abbrev wsX10 : List Cond := u_ws RX1 TX1 2
theorem nmX1 : ∀ a, a < 2 → ∀ b, b < 2 → a ≠ b → (TX1 a).2.1 ≠ (TX1 b).2.1 := by decide +kernel
theorem tyX1_ok : ∀ k, k < 2 → parseFieldDescriptor (TX1 k).2.2.1 = some (tyX1 k) := by decide +kernel
abbrev cX1_init : ByteArray := prog_3_method_1_code
def yX1_init : MethodName := ⟨RX1, "<init>", "()V"⟩
abbrev cX1_length : ByteArray := prog_3_method_2_code
def yX1_length : MethodName := ⟨RX1, "length", "()I"⟩
abbrev cX1_isFull : ByteArray := prog_3_method_3_code
def yX1_isFull : MethodName := ⟨RX1, "isFull", "()Z"⟩
abbrev cX1_add : ByteArray := prog_3_method_4_code
def yX1_add : MethodName := ⟨RX1, "add", "(C)V"⟩
abbrev cX1_clear : ByteArray := prog_3_method_5_code
def yX1_clear : MethodName := ⟨RX1, "clear", "()V"⟩
abbrev cX1_at : ByteArray := prog_3_method_6_code
def yX1_at : MethodName := ⟨RX1, "at", "(I)C"⟩
def RX2 : String := "EdgeCounterPlacer$History"
def TX2 : u_T := fun k => match k with
  | 0 => ("EdgeCounterPlacer$History", "placements", "[LEdgeCounterPlacer$Placement;", true)
  | 1 => ("EdgeCounterPlacer$History", "simulations", "[LEdgeCounterPlacer$Simulation;", true)
  | 2 => ("EdgeCounterPlacer$History", "newest", "I", false)
  | _ => ("EdgeCounterPlacer$History", "size", "I", false)
def tyX2 : Nat → FieldType := fun k => match k with
  | 0 => .array (.object "EdgeCounterPlacer$Placement")
  | 1 => .array (.object "EdgeCounterPlacer$Simulation")
  | 2 => .int
  | _ => .int
abbrev wsX20 : List Cond := u_ws RX2 TX2 4
theorem nmX2 : ∀ a, a < 4 → ∀ b, b < 4 → a ≠ b → (TX2 a).2.1 ≠ (TX2 b).2.1 := by decide +kernel
theorem tyX2_ok : ∀ k, k < 4 → parseFieldDescriptor (TX2 k).2.2.1 = some (tyX2 k) := by decide +kernel
abbrev cX2_init : ByteArray := prog_4_method_1_code
def yX2_init : MethodName := ⟨RX2, "<init>", "()V"⟩
abbrev cX2_size : ByteArray := prog_4_method_2_code
def yX2_size : MethodName := ⟨RX2, "size", "()I"⟩
abbrev cX2_isEmpty : ByteArray := prog_4_method_3_code
def yX2_isEmpty : MethodName := ⟨RX2, "isEmpty", "()Z"⟩
abbrev cX2_forget : ByteArray := prog_4_method_4_code
def yX2_forget : MethodName := ⟨RX2, "forget", "()V"⟩
abbrev cX2_remember : ByteArray := prog_4_method_5_code
def yX2_remember : MethodName := ⟨RX2, "remember", "(LEdgeCounterPlacer$Placement;LEdgeCounterPlacer$Simulation;)V"⟩
abbrev cX2_takeBack : ByteArray := prog_4_method_6_code
def yX2_takeBack : MethodName := ⟨RX2, "takeBack", "(LEdgeCounterPlacer$Placement;LEdgeCounterPlacer$Simulation;)V"⟩
def RX3 : String := "EdgeCounterPlacer$Placement"
def TX3 : u_T := fun k => match k with
  | 0 => ("EdgeCounterPlacer$Placement", "weight", "[I", true)
  | 1 => ("EdgeCounterPlacer$Placement", "sourceSide", "[I", true)
  | _ => ("EdgeCounterPlacer$Placement", "tree", "I", false)
def tyX3 : Nat → FieldType := fun k => match k with
  | 0 => .array .int
  | 1 => .array .int
  | _ => .int
abbrev wsX30 : List Cond := u_ws RX3 TX3 3
theorem nmX3 : ∀ a, a < 3 → ∀ b, b < 3 → a ≠ b → (TX3 a).2.1 ≠ (TX3 b).2.1 := by decide +kernel
theorem tyX3_ok : ∀ k, k < 3 → parseFieldDescriptor (TX3 k).2.2.1 = some (tyX3 k) := by decide +kernel
abbrev cX3_init : ByteArray := prog_5_method_1_code
def yX3_init : MethodName := ⟨RX3, "<init>", "()V"⟩
abbrev cX3_begin : ByteArray := prog_5_method_2_code
def yX3_begin : MethodName := ⟨RX3, "begin", "(LEdgeCounterPlacer$Graph;)V"⟩
abbrev cX3_copyFrom : ByteArray := prog_5_method_3_code
def yX3_copyFrom : MethodName := ⟨RX3, "copyFrom", "(LEdgeCounterPlacer$Placement;)V"⟩
abbrev cX3_weight : ByteArray := prog_5_method_4_code
def yX3_weight : MethodName := ⟨RX3, "weight", "(I)I"⟩
abbrev cX3_putWeight : ByteArray := prog_5_method_5_code
def yX3_putWeight : MethodName := ⟨RX3, "putWeight", "(II)V"⟩
abbrev cX3_isInTree : ByteArray := prog_5_method_6_code
def yX3_isInTree : MethodName := ⟨RX3, "isInTree", "(I)Z"⟩
abbrev cX3_findTree : ByteArray := prog_5_method_7_code
def yX3_findTree : MethodName := ⟨RX3, "findTree", "(LEdgeCounterPlacer$Graph;)V"⟩
abbrev cX3_heaviestEdge : ByteArray := prog_5_method_8_code
def yX3_heaviestEdge : MethodName := ⟨RX3, "heaviestEdge", "(II)I"⟩
abbrev cX3_findSides : ByteArray := prog_5_method_9_code
def yX3_findSides : MethodName := ⟨RX3, "findSides", "(LEdgeCounterPlacer$Graph;)V"⟩
abbrev cX3_factor : ByteArray := prog_5_method_10_code
def yX3_factor : MethodName := ⟨RX3, "factor", "(III)I"⟩
def RX4 : String := "EdgeCounterPlacer$Simulation"
def TX4 : u_T := fun k => match k with
  | 0 => ("EdgeCounterPlacer$Simulation", "counterValue", "[I", true)
  | 1 => ("EdgeCounterPlacer$Simulation", "passes", "[I", true)
  | 2 => ("EdgeCounterPlacer$Simulation", "limit", "I", false)
  | 3 => ("EdgeCounterPlacer$Simulation", "present", "I", false)
  | _ => ("EdgeCounterPlacer$Simulation", "finished", "I", false)
def tyX4 : Nat → FieldType := fun k => match k with
  | 0 => .array .int
  | 1 => .array .int
  | 2 => .int
  | 3 => .int
  | _ => .int
abbrev wsX40 : List Cond := u_ws RX4 TX4 5
theorem nmX4 : ∀ a, a < 5 → ∀ b, b < 5 → a ≠ b → (TX4 a).2.1 ≠ (TX4 b).2.1 := by decide +kernel
theorem tyX4_ok : ∀ k, k < 5 → parseFieldDescriptor (TX4 k).2.2.1 = some (tyX4 k) := by decide +kernel
abbrev cX4_init : ByteArray := prog_6_method_1_code
def yX4_init : MethodName := ⟨RX4, "<init>", "()V"⟩
abbrev cX4_begin : ByteArray := prog_6_method_2_code
def yX4_begin : MethodName := ⟨RX4, "begin", "()V"⟩
abbrev cX4_restart : ByteArray := prog_6_method_3_code
def yX4_restart : MethodName := ⟨RX4, "restart", "()V"⟩
abbrev cX4_copyFrom : ByteArray := prog_6_method_4_code
def yX4_copyFrom : MethodName := ⟨RX4, "copyFrom", "(LEdgeCounterPlacer$Simulation;)V"⟩
abbrev cX4_limit : ByteArray := prog_6_method_5_code
def yX4_limit : MethodName := ⟨RX4, "limit", "()I"⟩
abbrev cX4_putLimit : ByteArray := prog_6_method_6_code
def yX4_putLimit : MethodName := ⟨RX4, "putLimit", "(I)V"⟩
abbrev cX4_present : ByteArray := prog_6_method_7_code
def yX4_present : MethodName := ⟨RX4, "present", "()I"⟩
abbrev cX4_finished : ByteArray := prog_6_method_8_code
def yX4_finished : MethodName := ⟨RX4, "finished", "()I"⟩
abbrev cX4_counterValue : ByteArray := prog_6_method_9_code
def yX4_counterValue : MethodName := ⟨RX4, "counterValue", "(I)I"⟩
abbrev cX4_passes : ByteArray := prog_6_method_10_code
def yX4_passes : MethodName := ⟨RX4, "passes", "(I)I"⟩
abbrev cX4_isAtLimit : ByteArray := prog_6_method_11_code
def yX4_isAtLimit : MethodName := ⟨RX4, "isAtLimit", "(I)Z"⟩
abbrev cX4_pass : ByteArray := prog_6_method_12_code
def yX4_pass : MethodName := ⟨RX4, "pass", "(ILEdgeCounterPlacer$Graph;LEdgeCounterPlacer$Placement;)V"⟩
def RX5 : String := "EdgeCounterPlacer$TextReader"
def TX5 : u_T := fun k => match k with
  | 0 => ("EdgeCounterPlacer$TextReader", "numbers", "[I", true)
  | 1 => ("EdgeCounterPlacer$TextReader", "place", "I", false)
  | 2 => ("EdgeCounterPlacer$TextReader", "aborting", "I", false)
  | 3 => ("EdgeCounterPlacer$TextReader", "errorPlace", "I", false)
  | _ => ("EdgeCounterPlacer$TextReader", "reason", "I", false)
def tyX5 : Nat → FieldType := fun k => match k with
  | 0 => .array .int
  | 1 => .int
  | 2 => .int
  | 3 => .int
  | _ => .int
abbrev wsX50 : List Cond := u_ws RX5 TX5 5
theorem nmX5 : ∀ a, a < 5 → ∀ b, b < 5 → a ≠ b → (TX5 a).2.1 ≠ (TX5 b).2.1 := by decide +kernel
theorem tyX5_ok : ∀ k, k < 5 → parseFieldDescriptor (TX5 k).2.2.1 = some (tyX5 k) := by decide +kernel
abbrev cX5_init : ByteArray := prog_7_method_1_code
def yX5_init : MethodName := ⟨RX5, "<init>", "()V"⟩
abbrev cX5_errorPlace : ByteArray := prog_7_method_2_code
def yX5_errorPlace : MethodName := ⟨RX5, "errorPlace", "()I"⟩
abbrev cX5_reason : ByteArray := prog_7_method_3_code
def yX5_reason : MethodName := ⟨RX5, "reason", "()I"⟩
abbrev cX5_read : ByteArray := prog_7_method_4_code
def yX5_read : MethodName := ⟨RX5, "read", "(LEdgeCounterPlacer$GraphText;LEdgeCounterPlacer$Graph;)V"⟩
abbrev cX5_readStatement : ByteArray := prog_7_method_5_code
def yX5_readStatement : MethodName := ⟨RX5, "readStatement", "(LEdgeCounterPlacer$GraphText;LEdgeCounterPlacer$Graph;)I"⟩
abbrev cX5_readNumbers : ByteArray := prog_7_method_6_code
def yX5_readNumbers : MethodName := ⟨RX5, "readNumbers", "(LEdgeCounterPlacer$GraphText;I)Z"⟩
abbrev cX5_readNumber : ByteArray := prog_7_method_7_code
def yX5_readNumber : MethodName := ⟨RX5, "readNumber", "(LEdgeCounterPlacer$GraphText;)I"⟩
abbrev cX5_takeBlocks : ByteArray := prog_7_method_8_code
def yX5_takeBlocks : MethodName := ⟨RX5, "takeBlocks", "(LEdgeCounterPlacer$Graph;)I"⟩
abbrev cX5_takeEdge : ByteArray := prog_7_method_9_code
def yX5_takeEdge : MethodName := ⟨RX5, "takeEdge", "(LEdgeCounterPlacer$Graph;)I"⟩
abbrev cX5_takeAbort : ByteArray := prog_7_method_10_code
def yX5_takeAbort : MethodName := ⟨RX5, "takeAbort", "(LEdgeCounterPlacer$Graph;)I"⟩
def RX6 : String := "EdgeCounterPlacer"
def TX6 : u_T := fun k => match k with
  | 0 => ("EdgeCounterPlacer", "text", "LEdgeCounterPlacer$GraphText;", true)
  | 1 => ("EdgeCounterPlacer", "reader", "LEdgeCounterPlacer$TextReader;", true)
  | 2 => ("EdgeCounterPlacer", "placement", "LEdgeCounterPlacer$Placement;", true)
  | 3 => ("EdgeCounterPlacer", "simulation", "LEdgeCounterPlacer$Simulation;", true)
  | 4 => ("EdgeCounterPlacer", "history", "LEdgeCounterPlacer$History;", true)
  | 5 => ("EdgeCounterPlacer", "graph", "LEdgeCounterPlacer$Graph;", false)
  | _ => ("EdgeCounterPlacer", "draft", "LEdgeCounterPlacer$Graph;", false)
def tyX6 : Nat → FieldType := fun k => match k with
  | 0 => .object "EdgeCounterPlacer$GraphText"
  | 1 => .object "EdgeCounterPlacer$TextReader"
  | 2 => .object "EdgeCounterPlacer$Placement"
  | 3 => .object "EdgeCounterPlacer$Simulation"
  | 4 => .object "EdgeCounterPlacer$History"
  | 5 => .object "EdgeCounterPlacer$Graph"
  | _ => .object "EdgeCounterPlacer$Graph"
abbrev wsX60 : List Cond := u_ws RX6 TX6 7
theorem nmX6 : ∀ a, a < 7 → ∀ b, b < 7 → a ≠ b → (TX6 a).2.1 ≠ (TX6 b).2.1 := by decide +kernel
theorem tyX6_ok : ∀ k, k < 7 → parseFieldDescriptor (TX6 k).2.2.1 = some (tyX6 k) := by decide +kernel
abbrev cX6_init : ByteArray := prog_1_method_1_code
def yX6_init : MethodName := ⟨RX6, "<init>", "()V"⟩
abbrev cX6_append : ByteArray := prog_1_method_2_code
def yX6_append : MethodName := ⟨RX6, "append", "(I)I"⟩
abbrev cX6_clearText : ByteArray := prog_1_method_3_code
def yX6_clearText : MethodName := ⟨RX6, "clearText", "()I"⟩
abbrev cX6_firstError : ByteArray := prog_1_method_4_code
def yX6_firstError : MethodName := ⟨RX6, "firstError", "()I"⟩
abbrev cX6_errorReason : ByteArray := prog_1_method_5_code
def yX6_errorReason : MethodName := ⟨RX6, "errorReason", "()I"⟩
abbrev cX6_configure : ByteArray := prog_1_method_6_code
def yX6_configure : MethodName := ⟨RX6, "configure", "()I"⟩
abbrev cX6_setWeight : ByteArray := prog_1_method_7_code
def yX6_setWeight : MethodName := ⟨RX6, "setWeight", "(II)I"⟩
abbrev cX6_setCounterLimit : ByteArray := prog_1_method_8_code
def yX6_setCounterLimit : MethodName := ⟨RX6, "setCounterLimit", "(I)I"⟩
abbrev cX6_follow : ByteArray := prog_1_method_9_code
def yX6_follow : MethodName := ⟨RX6, "follow", "(I)I"⟩
abbrev cX6_drive : ByteArray := prog_1_method_10_code
def yX6_drive : MethodName := ⟨RX6, "drive", "(II)I"⟩
abbrev cX6_adoptCounts : ByteArray := prog_1_method_11_code
def yX6_adoptCounts : MethodName := ⟨RX6, "adoptCounts", "()I"⟩
abbrev cX6_undo : ByteArray := prog_1_method_12_code
def yX6_undo : MethodName := ⟨RX6, "undo", "()I"⟩
abbrev cX6_blockCount : ByteArray := prog_1_method_13_code
def yX6_blockCount : MethodName := ⟨RX6, "blockCount", "()I"⟩
abbrev cX6_sourceOf : ByteArray := prog_1_method_14_code
def yX6_sourceOf : MethodName := ⟨RX6, "sourceOf", "(I)I"⟩
abbrev cX6_targetOf : ByteArray := prog_1_method_15_code
def yX6_targetOf : MethodName := ⟨RX6, "targetOf", "(I)I"⟩
abbrev cX6_weightOf : ByteArray := prog_1_method_16_code
def yX6_weightOf : MethodName := ⟨RX6, "weightOf", "(I)I"⟩
abbrev cX6_hasCounter : ByteArray := prog_1_method_17_code
def yX6_hasCounter : MethodName := ⟨RX6, "hasCounter", "(I)I"⟩
abbrev cX6_counterCount : ByteArray := prog_1_method_18_code
def yX6_counterCount : MethodName := ⟨RX6, "counterCount", "()I"⟩
abbrev cX6_placementCost : ByteArray := prog_1_method_19_code
def yX6_placementCost : MethodName := ⟨RX6, "placementCost", "()I"⟩
abbrev cX6_costShareBits : ByteArray := prog_1_method_20_code
def yX6_costShareBits : MethodName := ⟨RX6, "costShareBits", "()I"⟩
abbrev cX6_counter : ByteArray := prog_1_method_21_code
def yX6_counter : MethodName := ⟨RX6, "counter", "(I)I"⟩
abbrev cX6_trueCount : ByteArray := prog_1_method_22_code
def yX6_trueCount : MethodName := ⟨RX6, "trueCount", "(I)I"⟩
abbrev cX6_reconstruct : ByteArray := prog_1_method_23_code
def yX6_reconstruct : MethodName := ⟨RX6, "reconstruct", "(I)I"⟩
abbrev cX6_coefficient : ByteArray := prog_1_method_24_code
def yX6_coefficient : MethodName := ⟨RX6, "coefficient", "(II)I"⟩
abbrev cX6_executions : ByteArray := prog_1_method_25_code
def yX6_executions : MethodName := ⟨RX6, "executions", "(I)I"⟩
abbrev cX6_dependents : ByteArray := prog_1_method_26_code
def yX6_dependents : MethodName := ⟨RX6, "dependents", "(I)I"⟩
abbrev cX6_saturatedCount : ByteArray := prog_1_method_27_code
def yX6_saturatedCount : MethodName := ⟨RX6, "saturatedCount", "()I"⟩
abbrev cX6_presentBlock : ByteArray := prog_1_method_28_code
def yX6_presentBlock : MethodName := ⟨RX6, "presentBlock", "()I"⟩
abbrev cX6_finishedRuns : ByteArray := prog_1_method_29_code
def yX6_finishedRuns : MethodName := ⟨RX6, "finishedRuns", "()I"⟩
abbrev cX6_takeDraft : ByteArray := prog_1_method_30_code
def yX6_takeDraft : MethodName := ⟨RX6, "takeDraft", "()V"⟩
abbrev cX6_chosenEdge : ByteArray := prog_1_method_31_code
def yX6_chosenEdge : MethodName := ⟨RX6, "chosenEdge", "(II)I"⟩
abbrev cX6_factorOfChord : ByteArray := prog_1_method_32_code
def yX6_factorOfChord : MethodName := ⟨RX6, "factorOfChord", "(II)I"⟩
abbrev cX6_isSaturatedChord : ByteArray := prog_1_method_33_code
def yX6_isSaturatedChord : MethodName := ⟨RX6, "isSaturatedChord", "(I)Z"⟩
abbrev cX6_isUncertain : ByteArray := prog_1_method_34_code
def yX6_isUncertain : MethodName := ⟨RX6, "isUncertain", "(I)Z"⟩
abbrev cX6_anyIsUncertain : ByteArray := prog_1_method_35_code
def yX6_anyIsUncertain : MethodName := ⟨RX6, "anyIsUncertain", "()Z"⟩
abbrev cX6_reconstructedCount : ByteArray := prog_1_method_36_code
def yX6_reconstructedCount : MethodName := ⟨RX6, "reconstructedCount", "(I)I"⟩
abbrev cX6_openEdgeShare : ByteArray := prog_1_method_37_code
def yX6_openEdgeShare : MethodName := ⟨RX6, "openEdgeShare", "(I)I"⟩
abbrev cX6_bitsOfShare : ByteArray := prog_1_method_38_code
def yX6_bitsOfShare : MethodName := ⟨RX6, "bitsOfShare", "(F)I"⟩
abbrev cX6_holds : ByteArray := prog_1_method_39_code
def yX6_holds : MethodName := ⟨RX6, "holds", "(II)Z"⟩
def RX7 : String := "EdgeCounterPlacerModel"
def TX7 : u_T := fun k => match k with
  | 0 => ("EdgeCounterPlacerModel", "text", "[I", true)
  | 1 => ("EdgeCounterPlacerModel", "length", "I", false)
  | 2 => ("EdgeCounterPlacerModel", "at", "I", false)
  | 3 => ("EdgeCounterPlacerModel", "blocks", "I", false)
  | 4 => ("EdgeCounterPlacerModel", "edges", "I", false)
  | 5 => ("EdgeCounterPlacerModel", "source", "[I", true)
  | 6 => ("EdgeCounterPlacerModel", "target", "[I", true)
  | 7 => ("EdgeCounterPlacerModel", "now", "[I", true)
  | 8 => ("EdgeCounterPlacerModel", "history", "[I", true)
  | 9 => ("EdgeCounterPlacerModel", "undoable", "I", false)
  | 10 => ("EdgeCounterPlacerModel", "readBlocks", "I", false)
  | 11 => ("EdgeCounterPlacerModel", "readEdges", "I", false)
  | 12 => ("EdgeCounterPlacerModel", "aborting", "I", false)
  | 13 => ("EdgeCounterPlacerModel", "readSource", "[I", true)
  | 14 => ("EdgeCounterPlacerModel", "readTarget", "[I", true)
  | 15 => ("EdgeCounterPlacerModel", "readWeight", "[I", true)
  | 16 => ("EdgeCounterPlacerModel", "numbers", "[I", true)
  | 17 => ("EdgeCounterPlacerModel", "reason", "I", false)
  | _ => ("EdgeCounterPlacerModel", "adopted", "[I", true)
def tyX7 : Nat → FieldType := fun k => match k with
  | 0 => .array .int
  | 1 => .int
  | 2 => .int
  | 3 => .int
  | 4 => .int
  | 5 => .array .int
  | 6 => .array .int
  | 7 => .array .int
  | 8 => .array .int
  | 9 => .int
  | 10 => .int
  | 11 => .int
  | 12 => .int
  | 13 => .array .int
  | 14 => .array .int
  | 15 => .array .int
  | 16 => .array .int
  | 17 => .int
  | _ => .array .int
abbrev wsX70 : List Cond := u_ws RX7 TX7 19
theorem nmX7 : ∀ a, a < 19 → ∀ b, b < 19 → a ≠ b → (TX7 a).2.1 ≠ (TX7 b).2.1 := by decide +kernel
theorem tyX7_ok : ∀ k, k < 19 → parseFieldDescriptor (TX7 k).2.2.1 = some (tyX7 k) := by decide +kernel
abbrev cX7_init : ByteArray := prog_9_method_1_code
def yX7_init : MethodName := ⟨RX7, "<init>", "()V"⟩
abbrev cX7_in : ByteArray := prog_9_method_2_code
def yX7_in : MethodName := ⟨RX7, "in", "(III)Z"⟩
abbrev cX7_has : ByteArray := prog_9_method_3_code
def yX7_has : MethodName := ⟨RX7, "has", "(II)Z"⟩
abbrev cX7_putEdge : ByteArray := prog_9_method_4_code
def yX7_putEdge : MethodName := ⟨RX7, "putEdge", "(III)V"⟩
abbrev cX7_isDigit : ByteArray := prog_9_method_5_code
def yX7_isDigit : MethodName := ⟨RX7, "isDigit", "()Z"⟩
abbrev cX7_readNumbers : ByteArray := prog_9_method_6_code
def yX7_readNumbers : MethodName := ⟨RX7, "readNumbers", "(I)Z"⟩
abbrev cX7_isBlockButExit : ByteArray := prog_9_method_7_code
def yX7_isBlockButExit : MethodName := ⟨RX7, "isBlockButExit", "(I)Z"⟩
abbrev cX7_readStatement : ByteArray := prog_9_method_8_code
def yX7_readStatement : MethodName := ⟨RX7, "readStatement", "()I"⟩
abbrev cX7_readText : ByteArray := prog_9_method_9_code
def yX7_readText : MethodName := ⟨RX7, "readText", "()I"⟩
abbrev cX7_append : ByteArray := prog_9_method_10_code
def yX7_append : MethodName := ⟨RX7, "append", "(I)I"⟩
abbrev cX7_clearText : ByteArray := prog_9_method_11_code
def yX7_clearText : MethodName := ⟨RX7, "clearText", "()I"⟩
abbrev cX7_firstError : ByteArray := prog_9_method_12_code
def yX7_firstError : MethodName := ⟨RX7, "firstError", "()I"⟩
abbrev cX7_errorReason : ByteArray := prog_9_method_13_code
def yX7_errorReason : MethodName := ⟨RX7, "errorReason", "()I"⟩
abbrev cX7_isComplete : ByteArray := prog_9_method_14_code
def yX7_isComplete : MethodName := ⟨RX7, "isComplete", "()Z"⟩
abbrev cX7_takeGraph : ByteArray := prog_9_method_15_code
def yX7_takeGraph : MethodName := ⟨RX7, "takeGraph", "()V"⟩
abbrev cX7_configure : ByteArray := prog_9_method_16_code
def yX7_configure : MethodName := ⟨RX7, "configure", "()I"⟩
abbrev cX7_sideOf : ByteArray := prog_9_method_17_code
def yX7_sideOf : MethodName := ⟨RX7, "sideOf", "(II)I"⟩
abbrev cX7_findTree : ByteArray := prog_9_method_18_code
def yX7_findTree : MethodName := ⟨RX7, "findTree", "()V"⟩
abbrev cX7_resetCounts : ByteArray := prog_9_method_19_code
def yX7_resetCounts : MethodName := ⟨RX7, "resetCounts", "()V"⟩
abbrev cX7_save : ByteArray := prog_9_method_20_code
def yX7_save : MethodName := ⟨RX7, "save", "()V"⟩
abbrev cX7_undo : ByteArray := prog_9_method_21_code
def yX7_undo : MethodName := ⟨RX7, "undo", "()I"⟩
abbrev cX7_isEdge : ByteArray := prog_9_method_22_code
def yX7_isEdge : MethodName := ⟨RX7, "isEdge", "(I)Z"⟩
abbrev cX7_isTree : ByteArray := prog_9_method_23_code
def yX7_isTree : MethodName := ⟨RX7, "isTree", "(I)Z"⟩
abbrev cX7_setWeight : ByteArray := prog_9_method_24_code
def yX7_setWeight : MethodName := ⟨RX7, "setWeight", "(II)I"⟩
abbrev cX7_setCounterLimit : ByteArray := prog_9_method_25_code
def yX7_setCounterLimit : MethodName := ⟨RX7, "setCounterLimit", "(I)I"⟩
abbrev cX7_pass : ByteArray := prog_9_method_26_code
def yX7_pass : MethodName := ⟨RX7, "pass", "(I)V"⟩
abbrev cX7_follow : ByteArray := prog_9_method_27_code
def yX7_follow : MethodName := ⟨RX7, "follow", "(I)I"⟩
abbrev cX7_leavingEdge : ByteArray := prog_9_method_28_code
def yX7_leavingEdge : MethodName := ⟨RX7, "leavingEdge", "(I)I"⟩
abbrev cX7_leavingCount : ByteArray := prog_9_method_29_code
def yX7_leavingCount : MethodName := ⟨RX7, "leavingCount", "()I"⟩
abbrev cX7_drive : ByteArray := prog_9_method_30_code
def yX7_drive : MethodName := ⟨RX7, "drive", "(II)I"⟩
abbrev cX7_adoptCounts : ByteArray := prog_9_method_31_code
def yX7_adoptCounts : MethodName := ⟨RX7, "adoptCounts", "()I"⟩
abbrev cX7_factor : ByteArray := prog_9_method_32_code
def yX7_factor : MethodName := ⟨RX7, "factor", "(III)I"⟩
abbrev cX7_factorOf : ByteArray := prog_9_method_33_code
def yX7_factorOf : MethodName := ⟨RX7, "factorOf", "(II)I"⟩
abbrev cX7_isSaturated : ByteArray := prog_9_method_34_code
def yX7_isSaturated : MethodName := ⟨RX7, "isSaturated", "(I)Z"⟩
abbrev cX7_isUncertain : ByteArray := prog_9_method_35_code
def yX7_isUncertain : MethodName := ⟨RX7, "isUncertain", "(I)Z"⟩
abbrev cX7_countOf : ByteArray := prog_9_method_36_code
def yX7_countOf : MethodName := ⟨RX7, "countOf", "(I)I"⟩
abbrev cX7_blockCount : ByteArray := prog_9_method_37_code
def yX7_blockCount : MethodName := ⟨RX7, "blockCount", "()I"⟩
abbrev cX7_sourceOf : ByteArray := prog_9_method_38_code
def yX7_sourceOf : MethodName := ⟨RX7, "sourceOf", "(I)I"⟩
abbrev cX7_targetOf : ByteArray := prog_9_method_39_code
def yX7_targetOf : MethodName := ⟨RX7, "targetOf", "(I)I"⟩
abbrev cX7_weightOf : ByteArray := prog_9_method_40_code
def yX7_weightOf : MethodName := ⟨RX7, "weightOf", "(I)I"⟩
abbrev cX7_hasCounter : ByteArray := prog_9_method_41_code
def yX7_hasCounter : MethodName := ⟨RX7, "hasCounter", "(I)I"⟩
abbrev cX7_counterCount : ByteArray := prog_9_method_42_code
def yX7_counterCount : MethodName := ⟨RX7, "counterCount", "()I"⟩
abbrev cX7_weightSum : ByteArray := prog_9_method_43_code
def yX7_weightSum : MethodName := ⟨RX7, "weightSum", "(Z)I"⟩
abbrev cX7_placementCost : ByteArray := prog_9_method_44_code
def yX7_placementCost : MethodName := ⟨RX7, "placementCost", "()I"⟩
abbrev cX7_costShareBits : ByteArray := prog_9_method_45_code
def yX7_costShareBits : MethodName := ⟨RX7, "costShareBits", "()I"⟩
abbrev cX7_counter : ByteArray := prog_9_method_46_code
def yX7_counter : MethodName := ⟨RX7, "counter", "(I)I"⟩
abbrev cX7_trueCount : ByteArray := prog_9_method_47_code
def yX7_trueCount : MethodName := ⟨RX7, "trueCount", "(I)I"⟩
abbrev cX7_reconstruct : ByteArray := prog_9_method_48_code
def yX7_reconstruct : MethodName := ⟨RX7, "reconstruct", "(I)I"⟩
abbrev cX7_coefficient : ByteArray := prog_9_method_49_code
def yX7_coefficient : MethodName := ⟨RX7, "coefficient", "(II)I"⟩
abbrev cX7_executions : ByteArray := prog_9_method_50_code
def yX7_executions : MethodName := ⟨RX7, "executions", "(I)I"⟩
abbrev cX7_dependents : ByteArray := prog_9_method_51_code
def yX7_dependents : MethodName := ⟨RX7, "dependents", "(I)I"⟩
abbrev cX7_saturatedCount : ByteArray := prog_9_method_52_code
def yX7_saturatedCount : MethodName := ⟨RX7, "saturatedCount", "()I"⟩
abbrev cX7_presentBlock : ByteArray := prog_9_method_53_code
def yX7_presentBlock : MethodName := ⟨RX7, "presentBlock", "()I"⟩
abbrev cX7_finishedRuns : ByteArray := prog_9_method_54_code
def yX7_finishedRuns : MethodName := ⟨RX7, "finishedRuns", "()I"⟩
def RJxf58ca : String := "java/lang/Float"
def TJxf58ca : u_T := fun k => match k with
  | _ => ("", "", "", false)
def tyJxf58ca : Nat → FieldType := fun k => match k with
  | _ => .int
abbrev wsJxf58ca0 : List Cond := u_ws RJxf58ca TJxf58ca 0
theorem nmJxf58ca : ∀ a, a < 0 → ∀ b, b < 0 → a ≠ b → (TJxf58ca a).2.1 ≠ (TJxf58ca b).2.1 := by decide +kernel
theorem tyJxf58ca_ok : ∀ k, k < 0 → parseFieldDescriptor (TJxf58ca k).2.2.1 = some (tyJxf58ca k) := by decide +kernel
abbrev cJxf58ca_isNaN_12338 : ByteArray := prog_10_method_6_code
def yJxf58ca_isNaN_12338 : MethodName := ⟨RJxf58ca, "isNaN", "(F)Z"⟩
abbrev cJxf58ca_floatToIntBits_5c35a : ByteArray := prog_10_method_24_code
def yJxf58ca_floatToIntBits_5c35a : MethodName := ⟨RJxf58ca, "floatToIntBits", "(F)I"⟩
def RJ9 : String := "java/lang/Math"
def TJ9 : u_T := fun k => match k with
  | _ => ("", "", "", false)
def tyJ9 : Nat → FieldType := fun k => match k with
  | _ => .int
abbrev wsJ90 : List Cond := u_ws RJ9 TJ9 0
theorem nmJ9 : ∀ a, a < 0 → ∀ b, b < 0 → a ≠ b → (TJ9 a).2.1 ≠ (TJ9 b).2.1 := by decide +kernel
theorem tyJ9_ok : ∀ k, k < 0 → parseFieldDescriptor (TJ9 k).2.2.1 = some (tyJ9 k) := by decide +kernel
abbrev cJ9_min_7cf53 : ByteArray := prog_11_method_69_code
def yJ9_min_7cf53 : MethodName := ⟨RJ9, "min", "(II)I"⟩
def RJ0 : String := "java/lang/String"
def TJ0 : u_T := fun k => match k with
  | _ => ("", "", "", false)
def tyJ0 : Nat → FieldType := fun k => match k with
  | _ => .int
abbrev wsJ00 : List Cond := u_ws RJ0 TJ0 0
theorem nmJ0 : ∀ a, a < 0 → ∀ b, b < 0 → a ≠ b → (TJ0 a).2.1 ≠ (TJ0 b).2.1 := by decide +kernel
theorem tyJ0_ok : ∀ k, k < 0 → parseFieldDescriptor (TJ0 k).2.2.1 = some (tyJ0 k) := by decide +kernel
abbrev cJ0_length_8abf5 : ByteArray := prog_12_method_54_code
def yJ0_length_8abf5 : MethodName := ⟨RJ0, "length", "()I"⟩
abbrev cJ0_charAt_5068e : ByteArray := prog_12_method_56_code
def yJ0_charAt_5068e : MethodName := ⟨RJ0, "charAt", "(I)C"⟩
abbrev cJ0_coder_7d493 : ByteArray := prog_12_method_152_code
def yJ0_coder_7d493 : MethodName := ⟨RJ0, "coder", "()B"⟩
abbrev cJ0_isLatin1_aae02 : ByteArray := prog_12_method_154_code
def yJ0_isLatin1_aae02 : MethodName := ⟨RJ0, "isLatin1", "()Z"⟩
abbrev cJ0_checkIndex_df160 : ByteArray := prog_12_method_155_code
def yJ0_checkIndex_df160 : MethodName := ⟨RJ0, "checkIndex", "(II)V"⟩
def RJ1 : String := "java/lang/StringLatin1"
def TJ1 : u_T := fun k => match k with
  | _ => ("", "", "", false)
def tyJ1 : Nat → FieldType := fun k => match k with
  | _ => .int
abbrev wsJ10 : List Cond := u_ws RJ1 TJ1 0
theorem nmJ1 : ∀ a, a < 0 → ∀ b, b < 0 → a ≠ b → (TJ1 a).2.1 ≠ (TJ1 b).2.1 := by decide +kernel
theorem tyJ1_ok : ∀ k, k < 0 → parseFieldDescriptor (TJ1 k).2.2.1 = some (tyJ1 k) := by decide +kernel
abbrev cJ1_charAt_3b067 : ByteArray := prog_13_method_2_code
def yJ1_charAt_3b067 : MethodName := ⟨RJ1, "charAt", "([BI)C"⟩
def RJ2 : String := "java/lang/StringUTF16"
def TJ2 : u_T := fun k => match k with
  | _ => ("", "", "", false)
def tyJ2 : Nat → FieldType := fun k => match k with
  | _ => .int
abbrev wsJ20 : List Cond := u_ws RJ2 TJ2 0
theorem nmJ2 : ∀ a, a < 0 → ∀ b, b < 0 → a ≠ b → (TJ2 a).2.1 ≠ (TJ2 b).2.1 := by decide +kernel
theorem tyJ2_ok : ∀ k, k < 0 → parseFieldDescriptor (TJ2 k).2.2.1 = some (tyJ2 k) := by decide +kernel
abbrev cJ2_getChar_3b067 : ByteArray := prog_14_method_5_code
def yJ2_getChar_3b067 : MethodName := ⟨RJ2, "getChar", "([BI)C"⟩
abbrev cJ2_length_9d52b : ByteArray := prog_14_method_6_code
def yJ2_length_9d52b : MethodName := ⟨RJ2, "length", "([B)I"⟩
abbrev cJ2_charAt_3b067 : ByteArray := prog_14_method_83_code
def yJ2_charAt_3b067 : MethodName := ⟨RJ2, "charAt", "([BI)C"⟩
abbrev cJ2_checkIndex_2214a : ByteArray := prog_14_method_91_code
def yJ2_checkIndex_2214a : MethodName := ⟨RJ2, "checkIndex", "(I[B)V"⟩
def RJ3 : String := "jdk/internal/util/Preconditions"
def TJ3 : u_T := fun k => match k with
  | _ => ("", "", "", false)
def tyJ3 : Nat → FieldType := fun k => match k with
  | _ => .int
abbrev wsJ30 : List Cond := u_ws RJ3 TJ3 0
theorem nmJ3 : ∀ a, a < 0 → ∀ b, b < 0 → a ≠ b → (TJ3 a).2.1 ≠ (TJ3 b).2.1 := by decide +kernel
theorem tyJ3_ok : ∀ k, k < 0 → parseFieldDescriptor (TJ3 k).2.2.1 = some (tyJ3 k) := by decide +kernel
abbrev cJ3_checkIndex_8e157 : ByteArray := prog_15_method_11_code
def yJ3_checkIndex_8e157 : MethodName := ⟨RJ3, "checkIndex", "(IILjava/util/function/BiFunction;)I"⟩
def RL : String := "EdgeCounterPlacerLaw"
abbrev cL_law : ByteArray := code
def yL_law : MethodName := ⟨RL, "law", "([I)Z"⟩
def wsX0_init : List Cond := .code yX0_init cX0_init 1 none :: ([.methodLink RX0 3 objectInit, .instanceMethod objectInit, .code objectInit ⟨#[0xb1]⟩ 1 none, .arrayClass .int, .fieldLink RX0 9 "EdgeCounterPlacer$Graph" "source" "[I", .fieldLink RX0 15 "EdgeCounterPlacer$Graph" "target" "[I", .fieldLink RX0 18 "EdgeCounterPlacer$Graph" "statedWeight" "[I", .classLink RX0 21 "[[I", .fieldLink RX0 23 "EdgeCounterPlacer$Graph" "leaving" "[[I", .fieldLink RX0 26 "EdgeCounterPlacer$Graph" "leavingCount" "[I"] ++ wsX00)
def wsX0_begin : List Cond := .code yX0_begin cX0_begin 3 none :: ([.fieldLink RX0 29 "EdgeCounterPlacer$Graph" "blocks" "I", .fieldLink RX0 33 "EdgeCounterPlacer$Graph" "edges" "I", .fieldLink RX0 26 "EdgeCounterPlacer$Graph" "leavingCount" "[I"] ++ wsX00)
def wsX0_blocks : List Cond := .code yX0_blocks cX0_blocks 1 (some .int) :: ([.fieldLink RX0 29 "EdgeCounterPlacer$Graph" "blocks" "I"] ++ wsX00)
def wsX0_edges : List Cond := .code yX0_edges cX0_edges 1 (some .int) :: ([.fieldLink RX0 33 "EdgeCounterPlacer$Graph" "edges" "I"] ++ wsX00)
def wsX0_exit : List Cond := .code yX0_exit cX0_exit 1 (some .int) :: ([.fieldLink RX0 29 "EdgeCounterPlacer$Graph" "blocks" "I"] ++ wsX00)
def wsX0_hasBlock : List Cond := .code yX0_hasBlock cX0_hasBlock 2 (some .boolean) :: ([.fieldLink RX0 29 "EdgeCounterPlacer$Graph" "blocks" "I"] ++ wsX00)
def wsX0_hasEdge : List Cond := .code yX0_hasEdge cX0_hasEdge 2 (some .boolean) :: ([.fieldLink RX0 33 "EdgeCounterPlacer$Graph" "edges" "I"] ++ wsX00)
def wsX0_isFull : List Cond := .code yX0_isFull cX0_isFull 1 (some .boolean) :: ([.fieldLink RX0 33 "EdgeCounterPlacer$Graph" "edges" "I"] ++ wsX00)
def wsX0_addEdge : List Cond := .code yX0_addEdge cX0_addEdge 4 none :: ([.fieldLink RX0 9 "EdgeCounterPlacer$Graph" "source" "[I", .fieldLink RX0 33 "EdgeCounterPlacer$Graph" "edges" "I", .fieldLink RX0 15 "EdgeCounterPlacer$Graph" "target" "[I", .fieldLink RX0 18 "EdgeCounterPlacer$Graph" "statedWeight" "[I", .fieldLink RX0 23 "EdgeCounterPlacer$Graph" "leaving" "[[I", .fieldLink RX0 26 "EdgeCounterPlacer$Graph" "leavingCount" "[I", .methodLink RX0 36 yX0_isFull, .instanceMethod yX0_isFull, .selects RX0 yX0_isFull yX0_isFull, .initialized RX0, .code yX0_isFull cX0_isFull 1 (some .boolean), .methodLink RX0 40 yX0_hasBlock, .instanceMethod yX0_hasBlock, .selects RX0 yX0_hasBlock yX0_hasBlock, .code yX0_hasBlock cX0_hasBlock 2 (some .boolean), .fieldLink RX0 29 "EdgeCounterPlacer$Graph" "blocks" "I"] ++ wsX00)
def wsX0_source : List Cond := .code yX0_source cX0_source 2 (some .int) :: ([.fieldLink RX0 9 "EdgeCounterPlacer$Graph" "source" "[I", .methodLink RX0 44 yX0_hasEdge, .instanceMethod yX0_hasEdge, .selects RX0 yX0_hasEdge yX0_hasEdge, .initialized RX0, .code yX0_hasEdge cX0_hasEdge 2 (some .boolean), .fieldLink RX0 33 "EdgeCounterPlacer$Graph" "edges" "I"] ++ wsX00)
def wsX0_target : List Cond := .code yX0_target cX0_target 2 (some .int) :: ([.fieldLink RX0 15 "EdgeCounterPlacer$Graph" "target" "[I", .methodLink RX0 44 yX0_hasEdge, .instanceMethod yX0_hasEdge, .selects RX0 yX0_hasEdge yX0_hasEdge, .initialized RX0, .code yX0_hasEdge cX0_hasEdge 2 (some .boolean), .fieldLink RX0 33 "EdgeCounterPlacer$Graph" "edges" "I"] ++ wsX00)
def wsX0_statedWeight : List Cond := .code yX0_statedWeight cX0_statedWeight 2 (some .int) :: ([.fieldLink RX0 18 "EdgeCounterPlacer$Graph" "statedWeight" "[I", .methodLink RX0 44 yX0_hasEdge, .instanceMethod yX0_hasEdge, .selects RX0 yX0_hasEdge yX0_hasEdge, .initialized RX0, .code yX0_hasEdge cX0_hasEdge 2 (some .boolean), .fieldLink RX0 33 "EdgeCounterPlacer$Graph" "edges" "I"] ++ wsX00)
def wsX0_leavingCount : List Cond := .code yX0_leavingCount cX0_leavingCount 2 (some .int) :: ([.fieldLink RX0 26 "EdgeCounterPlacer$Graph" "leavingCount" "[I", .methodLink RX0 40 yX0_hasBlock, .instanceMethod yX0_hasBlock, .selects RX0 yX0_hasBlock yX0_hasBlock, .initialized RX0, .code yX0_hasBlock cX0_hasBlock 2 (some .boolean), .fieldLink RX0 29 "EdgeCounterPlacer$Graph" "blocks" "I"] ++ wsX00)
def wsX0_leavingEdge : List Cond := .code yX0_leavingEdge cX0_leavingEdge 3 (some .int) :: ([.fieldLink RX0 23 "EdgeCounterPlacer$Graph" "leaving" "[[I", .methodLink RX0 47 yX0_leavingCount, .instanceMethod yX0_leavingCount, .selects RX0 yX0_leavingCount yX0_leavingCount, .initialized RX0, .code yX0_leavingCount cX0_leavingCount 2 (some .int), .fieldLink RX0 26 "EdgeCounterPlacer$Graph" "leavingCount" "[I", .methodLink RX0 40 yX0_hasBlock, .instanceMethod yX0_hasBlock, .selects RX0 yX0_hasBlock yX0_hasBlock, .code yX0_hasBlock cX0_hasBlock 2 (some .boolean), .fieldLink RX0 29 "EdgeCounterPlacer$Graph" "blocks" "I"] ++ wsX00)
def wsX0_spread : List Cond := .code yX0_spread cX0_spread 3 (some .int) :: ([])
def wsX6_holds : List Cond := .code yX6_holds cX6_holds 2 (some .boolean) :: ([])
def wsX0_reach_r1 : List Cond := [Cond.fieldLink RX0 29 "EdgeCounterPlacer$Graph" "blocks" "I", Cond.fieldLink RX0 33 "EdgeCounterPlacer$Graph" "edges" "I", Cond.methodLink RX0 50 yX0_exit, Cond.instanceMethod yX0_exit, Cond.selects RX0 yX0_exit yX0_exit, Cond.initialized RX0, Cond.code yX0_exit cX0_exit 1 (some .int), Cond.methodLink RX0 58 yX0_spread, Cond.instanceMethod yX0_spread, Cond.selects RX0 yX0_spread yX0_spread, Cond.code yX0_spread cX0_spread 3 (some .int), Cond.static yX6_holds, Cond.initialized RX6, Cond.code yX6_holds cX6_holds 2 (some .boolean), Cond.methodLink RX0 65 yX0_source, Cond.instanceMethod yX0_source, Cond.selects RX0 yX0_source yX0_source, Cond.code yX0_source cX0_source 2 (some .int), Cond.fieldLink RX0 9 "EdgeCounterPlacer$Graph" "source" "[I", Cond.methodLink RX0 44 yX0_hasEdge, Cond.instanceMethod yX0_hasEdge, Cond.selects RX0 yX0_hasEdge yX0_hasEdge, Cond.code yX0_hasEdge cX0_hasEdge 2 (some .boolean), Cond.methodLink RX0 67 yX0_target]
def wsX0_reach_r2 : List Cond := [Cond.instanceMethod yX0_target, Cond.selects RX0 yX0_target yX0_target, Cond.code yX0_target cX0_target 2 (some .int), Cond.fieldLink RX0 15 "EdgeCounterPlacer$Graph" "target" "[I"]
def wsX0_reach : List Cond := .code yX0_reach cX0_reach 7 (some .int) :: ((wsX0_reach_r1 ++ wsX0_reach_r2) ++ wsX00)
def wsX0_isComplete_r1 : List Cond := [Cond.fieldLink RX0 29 "EdgeCounterPlacer$Graph" "blocks" "I", Cond.fieldLink RX0 33 "EdgeCounterPlacer$Graph" "edges" "I", Cond.methodLink RX0 50 yX0_exit, Cond.instanceMethod yX0_exit, Cond.selects RX0 yX0_exit yX0_exit, Cond.initialized RX0, Cond.code yX0_exit cX0_exit 1 (some .int), Cond.methodLink RX0 47 yX0_leavingCount, Cond.instanceMethod yX0_leavingCount, Cond.selects RX0 yX0_leavingCount yX0_leavingCount, Cond.code yX0_leavingCount cX0_leavingCount 2 (some .int), Cond.fieldLink RX0 26 "EdgeCounterPlacer$Graph" "leavingCount" "[I", Cond.methodLink RX0 40 yX0_hasBlock, Cond.instanceMethod yX0_hasBlock, Cond.selects RX0 yX0_hasBlock yX0_hasBlock, Cond.code yX0_hasBlock cX0_hasBlock 2 (some .boolean), Cond.methodLink RX0 54 yX0_reach, Cond.instanceMethod yX0_reach, Cond.selects RX0 yX0_reach yX0_reach, Cond.code yX0_reach cX0_reach 7 (some .int), Cond.methodLink RX0 58 yX0_spread, Cond.instanceMethod yX0_spread, Cond.selects RX0 yX0_spread yX0_spread, Cond.code yX0_spread cX0_spread 3 (some .int)]
def wsX0_isComplete_r2 : List Cond := [Cond.static yX6_holds, Cond.initialized RX6, Cond.code yX6_holds cX6_holds 2 (some .boolean), Cond.methodLink RX0 65 yX0_source, Cond.instanceMethod yX0_source, Cond.selects RX0 yX0_source yX0_source, Cond.code yX0_source cX0_source 2 (some .int), Cond.fieldLink RX0 9 "EdgeCounterPlacer$Graph" "source" "[I", Cond.methodLink RX0 44 yX0_hasEdge, Cond.instanceMethod yX0_hasEdge, Cond.selects RX0 yX0_hasEdge yX0_hasEdge, Cond.code yX0_hasEdge cX0_hasEdge 2 (some .boolean), Cond.methodLink RX0 67 yX0_target, Cond.instanceMethod yX0_target, Cond.selects RX0 yX0_target yX0_target, Cond.code yX0_target cX0_target 2 (some .int), Cond.fieldLink RX0 15 "EdgeCounterPlacer$Graph" "target" "[I"]
def wsX0_isComplete : List Cond := .code yX0_isComplete cX0_isComplete 3 (some .boolean) :: ((wsX0_isComplete_r1 ++ wsX0_isComplete_r2) ++ wsX00)
def wsX1_init : List Cond := .code yX1_init cX1_init 1 none :: ([.methodLink RX1 3 objectInit, .instanceMethod objectInit, .code objectInit ⟨#[0xb1]⟩ 1 none, .arrayClass .char, .fieldLink RX1 9 "EdgeCounterPlacer$GraphText" "characters" "[C"] ++ wsX10)
def wsX1_length : List Cond := .code yX1_length cX1_length 1 (some .int) :: ([.fieldLink RX1 15 "EdgeCounterPlacer$GraphText" "length" "I"] ++ wsX10)
def wsX1_isFull : List Cond := .code yX1_isFull cX1_isFull 1 (some .boolean) :: ([.fieldLink RX1 15 "EdgeCounterPlacer$GraphText" "length" "I"] ++ wsX10)
def wsX1_add : List Cond := .code yX1_add cX1_add 2 none :: ([.fieldLink RX1 9 "EdgeCounterPlacer$GraphText" "characters" "[C", .fieldLink RX1 15 "EdgeCounterPlacer$GraphText" "length" "I", .methodLink RX1 19 yX1_isFull, .instanceMethod yX1_isFull, .selects RX1 yX1_isFull yX1_isFull, .initialized RX1, .code yX1_isFull cX1_isFull 1 (some .boolean)] ++ wsX10)
def wsX1_clear : List Cond := .code yX1_clear cX1_clear 1 none :: ([.fieldLink RX1 15 "EdgeCounterPlacer$GraphText" "length" "I"] ++ wsX10)
def wsX1_at : List Cond := .code yX1_at cX1_at 2 (some .char) :: ([.fieldLink RX1 15 "EdgeCounterPlacer$GraphText" "length" "I", .fieldLink RX1 9 "EdgeCounterPlacer$GraphText" "characters" "[C"] ++ wsX10)
def wsX3_init : List Cond := .code yX3_init cX3_init 1 none :: ([.methodLink RX3 3 objectInit, .instanceMethod objectInit, .code objectInit ⟨#[0xb1]⟩ 1 none, .arrayClass .int, .fieldLink RX3 9 "EdgeCounterPlacer$Placement" "weight" "[I", .fieldLink RX3 15 "EdgeCounterPlacer$Placement" "sourceSide" "[I"] ++ wsX30)
def wsX4_init : List Cond := .code yX4_init cX4_init 1 none :: ([.methodLink RX4 3 objectInit, .instanceMethod objectInit, .code objectInit ⟨#[0xb1]⟩ 1 none, .arrayClass .int, .fieldLink RX4 9 "EdgeCounterPlacer$Simulation" "counterValue" "[I", .fieldLink RX4 15 "EdgeCounterPlacer$Simulation" "passes" "[I"] ++ wsX40)
def wsX2_init : List Cond := .code yX2_init cX2_init 2 none :: ([.methodLink RX2 3 objectInit, .instanceMethod objectInit, .code objectInit ⟨#[0xb1]⟩ 1 none, .classLink RX2 9 RX3, .fieldLink RX2 11 "EdgeCounterPlacer$History" "placements" "[LEdgeCounterPlacer$Placement;", .classLink RX2 17 RX4, .fieldLink RX2 19 "EdgeCounterPlacer$History" "simulations" "[LEdgeCounterPlacer$Simulation;", .instantiable RX3 3, .initialized RX3, .instantiable RX4 5, .initialized RX4, .instanceMethod yX3_init, .code yX3_init cX3_init 1 none, .methodLink RX3 3 objectInit, .arrayClass .int, .fieldLink RX3 9 "EdgeCounterPlacer$Placement" "weight" "[I", .fieldLink RX3 15 "EdgeCounterPlacer$Placement" "sourceSide" "[I", .instanceMethod yX4_init, .code yX4_init cX4_init 1 none, .methodLink RX4 3 objectInit, .fieldLink RX4 9 "EdgeCounterPlacer$Simulation" "counterValue" "[I", .fieldLink RX4 15 "EdgeCounterPlacer$Simulation" "passes" "[I"] ++ wsX20 ++ wsX30 ++ wsX40)
def wsX2_size : List Cond := .code yX2_size cX2_size 1 (some .int) :: ([.fieldLink RX2 25 "EdgeCounterPlacer$History" "size" "I"] ++ wsX20)
def wsX2_isEmpty : List Cond := .code yX2_isEmpty cX2_isEmpty 1 (some .boolean) :: ([.fieldLink RX2 25 "EdgeCounterPlacer$History" "size" "I"] ++ wsX20)
def wsX2_forget : List Cond := .code yX2_forget cX2_forget 1 none :: ([.fieldLink RX2 25 "EdgeCounterPlacer$History" "size" "I"] ++ wsX20)
def wsX3_copyFrom : List Cond := .code yX3_copyFrom cX3_copyFrom 3 none :: ([.fieldLink RX3 9 "EdgeCounterPlacer$Placement" "weight" "[I", .fieldLink RX3 15 "EdgeCounterPlacer$Placement" "sourceSide" "[I", .fieldLink RX3 28 "EdgeCounterPlacer$Placement" "tree" "I"] ++ wsX30)
def wsX4_copyFrom : List Cond := .code yX4_copyFrom cX4_copyFrom 3 none :: ([.fieldLink RX4 9 "EdgeCounterPlacer$Simulation" "counterValue" "[I", .fieldLink RX4 15 "EdgeCounterPlacer$Simulation" "passes" "[I", .fieldLink RX4 19 "EdgeCounterPlacer$Simulation" "limit" "I", .fieldLink RX4 26 "EdgeCounterPlacer$Simulation" "present" "I", .fieldLink RX4 29 "EdgeCounterPlacer$Simulation" "finished" "I"] ++ wsX40)
def wsX2_remember_r1 : List Cond := [Cond.fieldLink RX2 29 "EdgeCounterPlacer$History" "newest" "I", Cond.fieldLink RX2 11 "EdgeCounterPlacer$History" "placements" "[LEdgeCounterPlacer$Placement;", Cond.fieldLink RX2 19 "EdgeCounterPlacer$History" "simulations" "[LEdgeCounterPlacer$Simulation;", Cond.fieldLink RX2 25 "EdgeCounterPlacer$History" "size" "I", Cond.methodLink RX2 39 Lib.Math.min.name, Cond.static Lib.Math.min.name, Cond.initialized "java/lang/Math", Cond.code Lib.Math.min.name Lib.Math.min.code 2 (some .int), Cond.methodLink RX2 32 yX3_copyFrom, Cond.instanceMethod yX3_copyFrom, Cond.selects RX3 yX3_copyFrom yX3_copyFrom, Cond.initialized RX3, Cond.code yX3_copyFrom cX3_copyFrom 3 none, Cond.fieldLink RX3 9 "EdgeCounterPlacer$Placement" "weight" "[I", Cond.fieldLink RX3 15 "EdgeCounterPlacer$Placement" "sourceSide" "[I", Cond.fieldLink RX3 28 "EdgeCounterPlacer$Placement" "tree" "I", Cond.methodLink RX2 36 yX4_copyFrom, Cond.instanceMethod yX4_copyFrom, Cond.selects RX4 yX4_copyFrom yX4_copyFrom, Cond.initialized RX4, Cond.code yX4_copyFrom cX4_copyFrom 3 none, Cond.fieldLink RX4 9 "EdgeCounterPlacer$Simulation" "counterValue" "[I", Cond.fieldLink RX4 15 "EdgeCounterPlacer$Simulation" "passes" "[I", Cond.fieldLink RX4 19 "EdgeCounterPlacer$Simulation" "limit" "I"]
def wsX2_remember_r2 : List Cond := [Cond.fieldLink RX4 26 "EdgeCounterPlacer$Simulation" "present" "I", Cond.fieldLink RX4 29 "EdgeCounterPlacer$Simulation" "finished" "I"]
def wsX2_remember : List Cond := .code yX2_remember cX2_remember 3 none :: ((wsX2_remember_r1 ++ wsX2_remember_r2) ++ wsX20 ++ wsX30 ++ wsX40)
def wsX2_takeBack_r1 : List Cond := [Cond.fieldLink RX2 11 "EdgeCounterPlacer$History" "placements" "[LEdgeCounterPlacer$Placement;", Cond.fieldLink RX2 29 "EdgeCounterPlacer$History" "newest" "I", Cond.fieldLink RX2 19 "EdgeCounterPlacer$History" "simulations" "[LEdgeCounterPlacer$Simulation;", Cond.fieldLink RX2 25 "EdgeCounterPlacer$History" "size" "I", Cond.methodLink RX2 45 yX2_isEmpty, Cond.instanceMethod yX2_isEmpty, Cond.selects RX2 yX2_isEmpty yX2_isEmpty, Cond.initialized RX2, Cond.code yX2_isEmpty cX2_isEmpty 1 (some .boolean), Cond.methodLink RX2 32 yX3_copyFrom, Cond.instanceMethod yX3_copyFrom, Cond.selects RX3 yX3_copyFrom yX3_copyFrom, Cond.initialized RX3, Cond.code yX3_copyFrom cX3_copyFrom 3 none, Cond.fieldLink RX3 9 "EdgeCounterPlacer$Placement" "weight" "[I", Cond.fieldLink RX3 15 "EdgeCounterPlacer$Placement" "sourceSide" "[I", Cond.fieldLink RX3 28 "EdgeCounterPlacer$Placement" "tree" "I", Cond.methodLink RX2 36 yX4_copyFrom, Cond.instanceMethod yX4_copyFrom, Cond.selects RX4 yX4_copyFrom yX4_copyFrom, Cond.initialized RX4, Cond.code yX4_copyFrom cX4_copyFrom 3 none, Cond.fieldLink RX4 9 "EdgeCounterPlacer$Simulation" "counterValue" "[I", Cond.fieldLink RX4 15 "EdgeCounterPlacer$Simulation" "passes" "[I"]
def wsX2_takeBack_r2 : List Cond := [Cond.fieldLink RX4 19 "EdgeCounterPlacer$Simulation" "limit" "I", Cond.fieldLink RX4 26 "EdgeCounterPlacer$Simulation" "present" "I", Cond.fieldLink RX4 29 "EdgeCounterPlacer$Simulation" "finished" "I"]
def wsX2_takeBack : List Cond := .code yX2_takeBack cX2_takeBack 3 none :: ((wsX2_takeBack_r1 ++ wsX2_takeBack_r2) ++ wsX20 ++ wsX30 ++ wsX40)
def wsX3_weight : List Cond := .code yX3_weight cX3_weight 2 (some .int) :: ([.fieldLink RX3 9 "EdgeCounterPlacer$Placement" "weight" "[I"] ++ wsX30)
def wsX3_heaviestEdge : List Cond := .code yX3_heaviestEdge cX3_heaviestEdge 6 (some .int) :: ([.static yX6_holds, .initialized RX6, .code yX6_holds cX6_holds 2 (some .boolean), .methodLink RX3 56 yX3_weight, .instanceMethod yX3_weight, .selects RX3 yX3_weight yX3_weight, .initialized RX3, .code yX3_weight cX3_weight 2 (some .int), .fieldLink RX3 9 "EdgeCounterPlacer$Placement" "weight" "[I"] ++ wsX30)
def wsX3_isInTree : List Cond := .code yX3_isInTree cX3_isInTree 2 (some .boolean) :: ([.fieldLink RX3 28 "EdgeCounterPlacer$Placement" "tree" "I", .static yX6_holds, .initialized RX6, .code yX6_holds cX6_holds 2 (some .boolean)] ++ wsX30)
def wsX3_findSides_r1 : List Cond := [Cond.fieldLink RX3 15 "EdgeCounterPlacer$Placement" "sourceSide" "[I", Cond.fieldLink RX3 28 "EdgeCounterPlacer$Placement" "tree" "I", Cond.methodLink RX3 58 yX3_isInTree, Cond.instanceMethod yX3_isInTree, Cond.selects RX3 yX3_isInTree yX3_isInTree, Cond.initialized RX3, Cond.code yX3_isInTree cX3_isInTree 2 (some .boolean), Cond.static yX6_holds, Cond.initialized RX6, Cond.code yX6_holds cX6_holds 2 (some .boolean), Cond.methodLink RX3 44 yX0_source, Cond.instanceMethod yX0_source, Cond.selects RX0 yX0_source yX0_source, Cond.initialized RX0, Cond.code yX0_source cX0_source 2 (some .int), Cond.fieldLink RX0 9 "EdgeCounterPlacer$Graph" "source" "[I", Cond.methodLink RX0 44 yX0_hasEdge, Cond.instanceMethod yX0_hasEdge, Cond.selects RX0 yX0_hasEdge yX0_hasEdge, Cond.code yX0_hasEdge cX0_hasEdge 2 (some .boolean), Cond.fieldLink RX0 33 "EdgeCounterPlacer$Graph" "edges" "I", Cond.methodLink RX3 47 yX0_reach, Cond.instanceMethod yX0_reach, Cond.selects RX0 yX0_reach yX0_reach]
def wsX3_findSides_r2 : List Cond := [Cond.code yX0_reach cX0_reach 7 (some .int), Cond.fieldLink RX0 29 "EdgeCounterPlacer$Graph" "blocks" "I", Cond.methodLink RX0 50 yX0_exit, Cond.instanceMethod yX0_exit, Cond.selects RX0 yX0_exit yX0_exit, Cond.code yX0_exit cX0_exit 1 (some .int), Cond.methodLink RX0 58 yX0_spread, Cond.instanceMethod yX0_spread, Cond.selects RX0 yX0_spread yX0_spread, Cond.code yX0_spread cX0_spread 3 (some .int), Cond.methodLink RX0 65 yX0_source, Cond.methodLink RX0 67 yX0_target, Cond.instanceMethod yX0_target, Cond.selects RX0 yX0_target yX0_target, Cond.code yX0_target cX0_target 2 (some .int), Cond.fieldLink RX0 15 "EdgeCounterPlacer$Graph" "target" "[I"]
def wsX3_findSides : List Cond := .code yX3_findSides cX3_findSides 3 none :: ((wsX3_findSides_r1 ++ wsX3_findSides_r2) ++ wsX30 ++ wsX00)
def wsX3_findTree_r1 : List Cond := [Cond.fieldLink RX3 28 "EdgeCounterPlacer$Placement" "tree" "I", Cond.methodLink RX3 36 yX0_edges, Cond.instanceMethod yX0_edges, Cond.selects RX0 yX0_edges yX0_edges, Cond.initialized RX0, Cond.code yX0_edges cX0_edges 1 (some .int), Cond.fieldLink RX0 33 "EdgeCounterPlacer$Graph" "edges" "I", Cond.methodLink RX3 40 yX3_heaviestEdge, Cond.instanceMethod yX3_heaviestEdge, Cond.selects RX3 yX3_heaviestEdge yX3_heaviestEdge, Cond.initialized RX3, Cond.code yX3_heaviestEdge cX3_heaviestEdge 6 (some .int), Cond.static yX6_holds, Cond.initialized RX6, Cond.code yX6_holds cX6_holds 2 (some .boolean), Cond.methodLink RX3 56 yX3_weight, Cond.instanceMethod yX3_weight, Cond.selects RX3 yX3_weight yX3_weight, Cond.code yX3_weight cX3_weight 2 (some .int), Cond.fieldLink RX3 9 "EdgeCounterPlacer$Placement" "weight" "[I", Cond.methodLink RX3 44 yX0_source, Cond.instanceMethod yX0_source, Cond.selects RX0 yX0_source yX0_source, Cond.code yX0_source cX0_source 2 (some .int)]
def wsX3_findTree_r2 : List Cond := [Cond.fieldLink RX0 9 "EdgeCounterPlacer$Graph" "source" "[I", Cond.methodLink RX0 44 yX0_hasEdge, Cond.instanceMethod yX0_hasEdge, Cond.selects RX0 yX0_hasEdge yX0_hasEdge, Cond.code yX0_hasEdge cX0_hasEdge 2 (some .boolean), Cond.methodLink RX3 47 yX0_reach, Cond.instanceMethod yX0_reach, Cond.selects RX0 yX0_reach yX0_reach, Cond.code yX0_reach cX0_reach 7 (some .int), Cond.fieldLink RX0 29 "EdgeCounterPlacer$Graph" "blocks" "I", Cond.methodLink RX0 50 yX0_exit, Cond.instanceMethod yX0_exit, Cond.selects RX0 yX0_exit yX0_exit, Cond.code yX0_exit cX0_exit 1 (some .int), Cond.methodLink RX0 58 yX0_spread, Cond.instanceMethod yX0_spread, Cond.selects RX0 yX0_spread yX0_spread, Cond.code yX0_spread cX0_spread 3 (some .int), Cond.methodLink RX0 65 yX0_source, Cond.methodLink RX0 67 yX0_target, Cond.instanceMethod yX0_target, Cond.selects RX0 yX0_target yX0_target, Cond.code yX0_target cX0_target 2 (some .int), Cond.fieldLink RX0 15 "EdgeCounterPlacer$Graph" "target" "[I"]
def wsX3_findTree_r3 : List Cond := [Cond.methodLink RX3 50 yX0_target, Cond.methodLink RX3 53 yX3_findSides, Cond.instanceMethod yX3_findSides, Cond.selects RX3 yX3_findSides yX3_findSides, Cond.code yX3_findSides cX3_findSides 3 none, Cond.fieldLink RX3 15 "EdgeCounterPlacer$Placement" "sourceSide" "[I", Cond.methodLink RX3 58 yX3_isInTree, Cond.instanceMethod yX3_isInTree, Cond.selects RX3 yX3_isInTree yX3_isInTree, Cond.code yX3_isInTree cX3_isInTree 2 (some .boolean)]
def wsX3_findTree : List Cond := .code yX3_findTree cX3_findTree 5 none :: ((wsX3_findTree_r1 ++ (wsX3_findTree_r2 ++ wsX3_findTree_r3)) ++ wsX30 ++ wsX00)
def wsX3_begin_r1 : List Cond := [Cond.fieldLink RX3 9 "EdgeCounterPlacer$Placement" "weight" "[I", Cond.methodLink RX3 18 yX0_statedWeight, Cond.instanceMethod yX0_statedWeight, Cond.selects RX0 yX0_statedWeight yX0_statedWeight, Cond.initialized RX0, Cond.code yX0_statedWeight cX0_statedWeight 2 (some .int), Cond.fieldLink RX0 18 "EdgeCounterPlacer$Graph" "statedWeight" "[I", Cond.methodLink RX0 44 yX0_hasEdge, Cond.instanceMethod yX0_hasEdge, Cond.selects RX0 yX0_hasEdge yX0_hasEdge, Cond.code yX0_hasEdge cX0_hasEdge 2 (some .boolean), Cond.fieldLink RX0 33 "EdgeCounterPlacer$Graph" "edges" "I", Cond.methodLink RX3 24 yX3_findTree, Cond.instanceMethod yX3_findTree, Cond.selects RX3 yX3_findTree yX3_findTree, Cond.initialized RX3, Cond.code yX3_findTree cX3_findTree 5 none, Cond.fieldLink RX3 28 "EdgeCounterPlacer$Placement" "tree" "I", Cond.methodLink RX3 36 yX0_edges, Cond.instanceMethod yX0_edges, Cond.selects RX0 yX0_edges yX0_edges, Cond.code yX0_edges cX0_edges 1 (some .int), Cond.methodLink RX3 40 yX3_heaviestEdge, Cond.instanceMethod yX3_heaviestEdge]
def wsX3_begin_r2 : List Cond := [Cond.selects RX3 yX3_heaviestEdge yX3_heaviestEdge, Cond.code yX3_heaviestEdge cX3_heaviestEdge 6 (some .int), Cond.static yX6_holds, Cond.initialized RX6, Cond.code yX6_holds cX6_holds 2 (some .boolean), Cond.methodLink RX3 56 yX3_weight, Cond.instanceMethod yX3_weight, Cond.selects RX3 yX3_weight yX3_weight, Cond.code yX3_weight cX3_weight 2 (some .int), Cond.methodLink RX3 44 yX0_source, Cond.instanceMethod yX0_source, Cond.selects RX0 yX0_source yX0_source, Cond.code yX0_source cX0_source 2 (some .int), Cond.fieldLink RX0 9 "EdgeCounterPlacer$Graph" "source" "[I", Cond.methodLink RX3 47 yX0_reach, Cond.instanceMethod yX0_reach, Cond.selects RX0 yX0_reach yX0_reach, Cond.code yX0_reach cX0_reach 7 (some .int), Cond.fieldLink RX0 29 "EdgeCounterPlacer$Graph" "blocks" "I", Cond.methodLink RX0 50 yX0_exit, Cond.instanceMethod yX0_exit, Cond.selects RX0 yX0_exit yX0_exit, Cond.code yX0_exit cX0_exit 1 (some .int), Cond.methodLink RX0 58 yX0_spread]
def wsX3_begin_r3 : List Cond := [Cond.instanceMethod yX0_spread, Cond.selects RX0 yX0_spread yX0_spread, Cond.code yX0_spread cX0_spread 3 (some .int), Cond.methodLink RX0 65 yX0_source, Cond.methodLink RX0 67 yX0_target, Cond.instanceMethod yX0_target, Cond.selects RX0 yX0_target yX0_target, Cond.code yX0_target cX0_target 2 (some .int), Cond.fieldLink RX0 15 "EdgeCounterPlacer$Graph" "target" "[I", Cond.methodLink RX3 50 yX0_target, Cond.methodLink RX3 53 yX3_findSides, Cond.instanceMethod yX3_findSides, Cond.selects RX3 yX3_findSides yX3_findSides, Cond.code yX3_findSides cX3_findSides 3 none, Cond.fieldLink RX3 15 "EdgeCounterPlacer$Placement" "sourceSide" "[I", Cond.methodLink RX3 58 yX3_isInTree, Cond.instanceMethod yX3_isInTree, Cond.selects RX3 yX3_isInTree yX3_isInTree, Cond.code yX3_isInTree cX3_isInTree 2 (some .boolean)]
def wsX3_begin : List Cond := .code yX3_begin cX3_begin 3 none :: ((wsX3_begin_r1 ++ (wsX3_begin_r2 ++ wsX3_begin_r3)) ++ wsX30 ++ wsX00)
def wsX3_putWeight : List Cond := .code yX3_putWeight cX3_putWeight 3 none :: ([.fieldLink RX3 9 "EdgeCounterPlacer$Placement" "weight" "[I"] ++ wsX30)
def wsX3_factor : List Cond := .code yX3_factor cX3_factor 6 (some .int) :: ([.fieldLink RX3 15 "EdgeCounterPlacer$Placement" "sourceSide" "[I", .static yX6_holds, .initialized RX6, .code yX6_holds cX6_holds 2 (some .boolean)] ++ wsX30)
def wsX4_restart : List Cond := .code yX4_restart cX4_restart 2 none :: ([.fieldLink RX4 9 "EdgeCounterPlacer$Simulation" "counterValue" "[I", .fieldLink RX4 15 "EdgeCounterPlacer$Simulation" "passes" "[I", .fieldLink RX4 26 "EdgeCounterPlacer$Simulation" "present" "I", .fieldLink RX4 29 "EdgeCounterPlacer$Simulation" "finished" "I"] ++ wsX40)
def wsX4_begin : List Cond := .code yX4_begin cX4_begin 1 none :: ([.constant RX4 18 (60000), .fieldLink RX4 19 "EdgeCounterPlacer$Simulation" "limit" "I", .methodLink RX4 23 yX4_restart, .instanceMethod yX4_restart, .selects RX4 yX4_restart yX4_restart, .initialized RX4, .code yX4_restart cX4_restart 2 none, .fieldLink RX4 9 "EdgeCounterPlacer$Simulation" "counterValue" "[I", .fieldLink RX4 15 "EdgeCounterPlacer$Simulation" "passes" "[I", .fieldLink RX4 26 "EdgeCounterPlacer$Simulation" "present" "I", .fieldLink RX4 29 "EdgeCounterPlacer$Simulation" "finished" "I"] ++ wsX40)
def wsX4_limit : List Cond := .code yX4_limit cX4_limit 1 (some .int) :: ([.fieldLink RX4 19 "EdgeCounterPlacer$Simulation" "limit" "I"] ++ wsX40)
def wsX4_putLimit : List Cond := .code yX4_putLimit cX4_putLimit 2 none :: ([.fieldLink RX4 19 "EdgeCounterPlacer$Simulation" "limit" "I"] ++ wsX40)
def wsX4_present : List Cond := .code yX4_present cX4_present 1 (some .int) :: ([.fieldLink RX4 26 "EdgeCounterPlacer$Simulation" "present" "I"] ++ wsX40)
def wsX4_finished : List Cond := .code yX4_finished cX4_finished 1 (some .int) :: ([.fieldLink RX4 29 "EdgeCounterPlacer$Simulation" "finished" "I"] ++ wsX40)
def wsX4_counterValue : List Cond := .code yX4_counterValue cX4_counterValue 2 (some .int) :: ([.fieldLink RX4 9 "EdgeCounterPlacer$Simulation" "counterValue" "[I"] ++ wsX40)
def wsX4_passes : List Cond := .code yX4_passes cX4_passes 2 (some .int) :: ([.fieldLink RX4 15 "EdgeCounterPlacer$Simulation" "passes" "[I"] ++ wsX40)
def wsX4_isAtLimit : List Cond := .code yX4_isAtLimit cX4_isAtLimit 2 (some .boolean) :: ([.fieldLink RX4 19 "EdgeCounterPlacer$Simulation" "limit" "I", .methodLink RX4 32 yX4_counterValue, .instanceMethod yX4_counterValue, .selects RX4 yX4_counterValue yX4_counterValue, .initialized RX4, .code yX4_counterValue cX4_counterValue 2 (some .int), .fieldLink RX4 9 "EdgeCounterPlacer$Simulation" "counterValue" "[I"] ++ wsX40)
def wsX4_pass_r1 : List Cond := [Cond.fieldLink RX4 15 "EdgeCounterPlacer$Simulation" "passes" "[I", Cond.fieldLink RX4 9 "EdgeCounterPlacer$Simulation" "counterValue" "[I", Cond.fieldLink RX4 29 "EdgeCounterPlacer$Simulation" "finished" "I", Cond.fieldLink RX4 26 "EdgeCounterPlacer$Simulation" "present" "I", Cond.methodLink RX4 35 yX0_hasEdge, Cond.instanceMethod yX0_hasEdge, Cond.selects RX0 yX0_hasEdge yX0_hasEdge, Cond.initialized RX0, Cond.code yX0_hasEdge cX0_hasEdge 2 (some .boolean), Cond.fieldLink RX0 33 "EdgeCounterPlacer$Graph" "edges" "I", Cond.methodLink RX4 41 yX3_isInTree, Cond.instanceMethod yX3_isInTree, Cond.selects RX3 yX3_isInTree yX3_isInTree, Cond.initialized RX3, Cond.code yX3_isInTree cX3_isInTree 2 (some .boolean), Cond.fieldLink RX3 28 "EdgeCounterPlacer$Placement" "tree" "I", Cond.static yX6_holds, Cond.initialized RX6, Cond.code yX6_holds cX6_holds 2 (some .boolean), Cond.methodLink RX4 46 yX4_isAtLimit, Cond.instanceMethod yX4_isAtLimit, Cond.selects RX4 yX4_isAtLimit yX4_isAtLimit, Cond.initialized RX4, Cond.code yX4_isAtLimit cX4_isAtLimit 2 (some .boolean)]
def wsX4_pass_r2 : List Cond := [Cond.fieldLink RX4 19 "EdgeCounterPlacer$Simulation" "limit" "I", Cond.methodLink RX4 32 yX4_counterValue, Cond.instanceMethod yX4_counterValue, Cond.selects RX4 yX4_counterValue yX4_counterValue, Cond.code yX4_counterValue cX4_counterValue 2 (some .int), Cond.methodLink RX4 49 yX0_target, Cond.instanceMethod yX0_target, Cond.selects RX0 yX0_target yX0_target, Cond.code yX0_target cX0_target 2 (some .int), Cond.fieldLink RX0 15 "EdgeCounterPlacer$Graph" "target" "[I", Cond.methodLink RX0 44 yX0_hasEdge, Cond.methodLink RX4 52 yX0_exit, Cond.instanceMethod yX0_exit, Cond.selects RX0 yX0_exit yX0_exit, Cond.code yX0_exit cX0_exit 1 (some .int), Cond.fieldLink RX0 29 "EdgeCounterPlacer$Graph" "blocks" "I"]
def wsX4_pass : List Cond := .code yX4_pass cX4_pass 4 none :: ((wsX4_pass_r1 ++ wsX4_pass_r2) ++ wsX40 ++ wsX00 ++ wsX30)
def wsX5_init : List Cond := .code yX5_init cX5_init 1 none :: ([.methodLink RX5 3 objectInit, .instanceMethod objectInit, .code objectInit ⟨#[0xb1]⟩ 1 none, .arrayClass .int, .fieldLink RX5 11 "EdgeCounterPlacer$TextReader" "numbers" "[I"] ++ wsX50)
def wsX5_errorPlace : List Cond := .code yX5_errorPlace cX5_errorPlace 1 (some .int) :: ([.fieldLink RX5 15 "EdgeCounterPlacer$TextReader" "errorPlace" "I"] ++ wsX50)
def wsX5_reason : List Cond := .code yX5_reason cX5_reason 1 (some .int) :: ([.fieldLink RX5 19 "EdgeCounterPlacer$TextReader" "reason" "I"] ++ wsX50)
def wsX5_readNumber : List Cond := .code yX5_readNumber cX5_readNumber 5 (some .int) :: ([.fieldLink RX5 28 "EdgeCounterPlacer$TextReader" "place" "I", .methodLink RX5 44 yX1_at, .instanceMethod yX1_at, .selects RX1 yX1_at yX1_at, .initialized RX1, .code yX1_at cX1_at 2 (some .char), .fieldLink RX1 15 "EdgeCounterPlacer$GraphText" "length" "I", .fieldLink RX1 9 "EdgeCounterPlacer$GraphText" "characters" "[C"] ++ wsX50 ++ wsX10)
def wsX5_readNumbers : List Cond := .code yX5_readNumbers cX5_readNumbers 6 (some .boolean) :: ([.fieldLink RX5 28 "EdgeCounterPlacer$TextReader" "place" "I", .fieldLink RX5 11 "EdgeCounterPlacer$TextReader" "numbers" "[I", .methodLink RX5 62 yX5_readNumber, .instanceMethod yX5_readNumber, .selects RX5 yX5_readNumber yX5_readNumber, .initialized RX5, .code yX5_readNumber cX5_readNumber 5 (some .int), .methodLink RX5 44 yX1_at, .instanceMethod yX1_at, .selects RX1 yX1_at yX1_at, .initialized RX1, .code yX1_at cX1_at 2 (some .char), .fieldLink RX1 15 "EdgeCounterPlacer$GraphText" "length" "I", .fieldLink RX1 9 "EdgeCounterPlacer$GraphText" "characters" "[C"] ++ wsX50 ++ wsX10)
def wsX5_takeBlocks : List Cond := .code yX5_takeBlocks cX5_takeBlocks 3 (some .int) :: ([.fieldLink RX5 11 "EdgeCounterPlacer$TextReader" "numbers" "[I", .methodLink RX5 22 yX0_begin, .instanceMethod yX0_begin, .selects RX0 yX0_begin yX0_begin, .initialized RX0, .code yX0_begin cX0_begin 3 none, .fieldLink RX0 29 "EdgeCounterPlacer$Graph" "blocks" "I", .fieldLink RX0 33 "EdgeCounterPlacer$Graph" "edges" "I", .fieldLink RX0 26 "EdgeCounterPlacer$Graph" "leavingCount" "[I"] ++ wsX50 ++ wsX00)
def wsX5_takeEdge_r1 : List Cond := [Cond.fieldLink RX5 11 "EdgeCounterPlacer$TextReader" "numbers" "[I", Cond.methodLink RX5 66 yX0_hasBlock, Cond.instanceMethod yX0_hasBlock, Cond.selects RX0 yX0_hasBlock yX0_hasBlock, Cond.initialized RX0, Cond.code yX0_hasBlock cX0_hasBlock 2 (some .boolean), Cond.fieldLink RX0 29 "EdgeCounterPlacer$Graph" "blocks" "I", Cond.methodLink RX5 70 yX0_exit, Cond.instanceMethod yX0_exit, Cond.selects RX0 yX0_exit yX0_exit, Cond.code yX0_exit cX0_exit 1 (some .int), Cond.methodLink RX5 73 yX0_isFull, Cond.instanceMethod yX0_isFull, Cond.selects RX0 yX0_isFull yX0_isFull, Cond.code yX0_isFull cX0_isFull 1 (some .boolean), Cond.fieldLink RX0 33 "EdgeCounterPlacer$Graph" "edges" "I", Cond.methodLink RX5 77 yX0_addEdge, Cond.instanceMethod yX0_addEdge, Cond.selects RX0 yX0_addEdge yX0_addEdge, Cond.code yX0_addEdge cX0_addEdge 4 none, Cond.fieldLink RX0 9 "EdgeCounterPlacer$Graph" "source" "[I", Cond.fieldLink RX0 15 "EdgeCounterPlacer$Graph" "target" "[I", Cond.fieldLink RX0 18 "EdgeCounterPlacer$Graph" "statedWeight" "[I", Cond.fieldLink RX0 23 "EdgeCounterPlacer$Graph" "leaving" "[[I"]
def wsX5_takeEdge_r2 : List Cond := [Cond.fieldLink RX0 26 "EdgeCounterPlacer$Graph" "leavingCount" "[I", Cond.methodLink RX0 36 yX0_isFull, Cond.methodLink RX0 40 yX0_hasBlock]
def wsX5_takeEdge : List Cond := .code yX5_takeEdge cX5_takeEdge 4 (some .int) :: ((wsX5_takeEdge_r1 ++ wsX5_takeEdge_r2) ++ wsX50 ++ wsX00)
def wsX5_takeAbort_r1 : List Cond := [Cond.fieldLink RX5 11 "EdgeCounterPlacer$TextReader" "numbers" "[I", Cond.fieldLink RX5 31 "EdgeCounterPlacer$TextReader" "aborting" "I", Cond.methodLink RX5 66 yX0_hasBlock, Cond.instanceMethod yX0_hasBlock, Cond.selects RX0 yX0_hasBlock yX0_hasBlock, Cond.initialized RX0, Cond.code yX0_hasBlock cX0_hasBlock 2 (some .boolean), Cond.fieldLink RX0 29 "EdgeCounterPlacer$Graph" "blocks" "I", Cond.methodLink RX5 70 yX0_exit, Cond.instanceMethod yX0_exit, Cond.selects RX0 yX0_exit yX0_exit, Cond.code yX0_exit cX0_exit 1 (some .int), Cond.static yX6_holds, Cond.initialized RX6, Cond.code yX6_holds cX6_holds 2 (some .boolean), Cond.methodLink RX5 73 yX0_isFull, Cond.instanceMethod yX0_isFull, Cond.selects RX0 yX0_isFull yX0_isFull, Cond.code yX0_isFull cX0_isFull 1 (some .boolean), Cond.fieldLink RX0 33 "EdgeCounterPlacer$Graph" "edges" "I", Cond.methodLink RX5 77 yX0_addEdge, Cond.instanceMethod yX0_addEdge, Cond.selects RX0 yX0_addEdge yX0_addEdge, Cond.code yX0_addEdge cX0_addEdge 4 none]
def wsX5_takeAbort_r2 : List Cond := [Cond.fieldLink RX0 9 "EdgeCounterPlacer$Graph" "source" "[I", Cond.fieldLink RX0 15 "EdgeCounterPlacer$Graph" "target" "[I", Cond.fieldLink RX0 18 "EdgeCounterPlacer$Graph" "statedWeight" "[I", Cond.fieldLink RX0 23 "EdgeCounterPlacer$Graph" "leaving" "[[I", Cond.fieldLink RX0 26 "EdgeCounterPlacer$Graph" "leavingCount" "[I", Cond.methodLink RX0 36 yX0_isFull, Cond.methodLink RX0 40 yX0_hasBlock]
def wsX5_takeAbort : List Cond := .code yX5_takeAbort cX5_takeAbort 3 (some .int) :: ((wsX5_takeAbort_r1 ++ wsX5_takeAbort_r2) ++ wsX50 ++ wsX00)
def wsX5_readStatement_r1 : List Cond := [Cond.fieldLink RX5 28 "EdgeCounterPlacer$TextReader" "place" "I", Cond.methodLink RX5 44 yX1_at, Cond.instanceMethod yX1_at, Cond.selects RX1 yX1_at yX1_at, Cond.initialized RX1, Cond.code yX1_at cX1_at 2 (some .char), Cond.fieldLink RX1 15 "EdgeCounterPlacer$GraphText" "length" "I", Cond.fieldLink RX1 9 "EdgeCounterPlacer$GraphText" "characters" "[C", Cond.methodLink RX5 48 yX5_readNumbers, Cond.instanceMethod yX5_readNumbers, Cond.selects RX5 yX5_readNumbers yX5_readNumbers, Cond.initialized RX5, Cond.code yX5_readNumbers cX5_readNumbers 6 (some .boolean), Cond.fieldLink RX5 11 "EdgeCounterPlacer$TextReader" "numbers" "[I", Cond.methodLink RX5 62 yX5_readNumber, Cond.instanceMethod yX5_readNumber, Cond.selects RX5 yX5_readNumber yX5_readNumber, Cond.code yX5_readNumber cX5_readNumber 5 (some .int), Cond.methodLink RX5 52 yX5_takeBlocks, Cond.instanceMethod yX5_takeBlocks, Cond.selects RX5 yX5_takeBlocks yX5_takeBlocks, Cond.code yX5_takeBlocks cX5_takeBlocks 3 (some .int), Cond.methodLink RX5 22 yX0_begin, Cond.instanceMethod yX0_begin]
def wsX5_readStatement_r2 : List Cond := [Cond.selects RX0 yX0_begin yX0_begin, Cond.initialized RX0, Cond.code yX0_begin cX0_begin 3 none, Cond.fieldLink RX0 29 "EdgeCounterPlacer$Graph" "blocks" "I", Cond.fieldLink RX0 33 "EdgeCounterPlacer$Graph" "edges" "I", Cond.fieldLink RX0 26 "EdgeCounterPlacer$Graph" "leavingCount" "[I", Cond.methodLink RX5 56 yX5_takeEdge, Cond.instanceMethod yX5_takeEdge, Cond.selects RX5 yX5_takeEdge yX5_takeEdge, Cond.code yX5_takeEdge cX5_takeEdge 4 (some .int), Cond.methodLink RX5 66 yX0_hasBlock, Cond.instanceMethod yX0_hasBlock, Cond.selects RX0 yX0_hasBlock yX0_hasBlock, Cond.code yX0_hasBlock cX0_hasBlock 2 (some .boolean), Cond.methodLink RX5 70 yX0_exit, Cond.instanceMethod yX0_exit, Cond.selects RX0 yX0_exit yX0_exit, Cond.code yX0_exit cX0_exit 1 (some .int), Cond.methodLink RX5 73 yX0_isFull, Cond.instanceMethod yX0_isFull, Cond.selects RX0 yX0_isFull yX0_isFull, Cond.code yX0_isFull cX0_isFull 1 (some .boolean), Cond.methodLink RX5 77 yX0_addEdge, Cond.instanceMethod yX0_addEdge]
def wsX5_readStatement_r3 : List Cond := [Cond.selects RX0 yX0_addEdge yX0_addEdge, Cond.code yX0_addEdge cX0_addEdge 4 none, Cond.fieldLink RX0 9 "EdgeCounterPlacer$Graph" "source" "[I", Cond.fieldLink RX0 15 "EdgeCounterPlacer$Graph" "target" "[I", Cond.fieldLink RX0 18 "EdgeCounterPlacer$Graph" "statedWeight" "[I", Cond.fieldLink RX0 23 "EdgeCounterPlacer$Graph" "leaving" "[[I", Cond.methodLink RX0 36 yX0_isFull, Cond.methodLink RX0 40 yX0_hasBlock, Cond.methodLink RX5 59 yX5_takeAbort, Cond.instanceMethod yX5_takeAbort, Cond.selects RX5 yX5_takeAbort yX5_takeAbort, Cond.code yX5_takeAbort cX5_takeAbort 3 (some .int), Cond.fieldLink RX5 31 "EdgeCounterPlacer$TextReader" "aborting" "I", Cond.static yX6_holds, Cond.initialized RX6, Cond.code yX6_holds cX6_holds 2 (some .boolean)]
def wsX5_readStatement : List Cond := .code yX5_readStatement cX5_readStatement 5 (some .int) :: ((wsX5_readStatement_r1 ++ (wsX5_readStatement_r2 ++ wsX5_readStatement_r3)) ++ wsX50 ++ wsX10 ++ wsX00)
def wsX5_read_r1 : List Cond := [Cond.fieldLink RX5 28 "EdgeCounterPlacer$TextReader" "place" "I", Cond.fieldLink RX5 31 "EdgeCounterPlacer$TextReader" "aborting" "I", Cond.fieldLink RX5 19 "EdgeCounterPlacer$TextReader" "reason" "I", Cond.fieldLink RX5 15 "EdgeCounterPlacer$TextReader" "errorPlace" "I", Cond.methodLink RX5 22 yX0_begin, Cond.instanceMethod yX0_begin, Cond.selects RX0 yX0_begin yX0_begin, Cond.initialized RX0, Cond.code yX0_begin cX0_begin 3 none, Cond.fieldLink RX0 29 "EdgeCounterPlacer$Graph" "blocks" "I", Cond.fieldLink RX0 33 "EdgeCounterPlacer$Graph" "edges" "I", Cond.fieldLink RX0 26 "EdgeCounterPlacer$Graph" "leavingCount" "[I", Cond.methodLink RX5 34 yX1_length, Cond.instanceMethod yX1_length, Cond.selects RX1 yX1_length yX1_length, Cond.initialized RX1, Cond.code yX1_length cX1_length 1 (some .int), Cond.fieldLink RX1 15 "EdgeCounterPlacer$GraphText" "length" "I", Cond.methodLink RX5 40 yX5_readStatement, Cond.instanceMethod yX5_readStatement, Cond.selects RX5 yX5_readStatement yX5_readStatement, Cond.initialized RX5, Cond.code yX5_readStatement cX5_readStatement 5 (some .int), Cond.methodLink RX5 44 yX1_at]
def wsX5_read_r2 : List Cond := [Cond.instanceMethod yX1_at, Cond.selects RX1 yX1_at yX1_at, Cond.code yX1_at cX1_at 2 (some .char), Cond.fieldLink RX1 9 "EdgeCounterPlacer$GraphText" "characters" "[C", Cond.methodLink RX5 48 yX5_readNumbers, Cond.instanceMethod yX5_readNumbers, Cond.selects RX5 yX5_readNumbers yX5_readNumbers, Cond.code yX5_readNumbers cX5_readNumbers 6 (some .boolean), Cond.fieldLink RX5 11 "EdgeCounterPlacer$TextReader" "numbers" "[I", Cond.methodLink RX5 62 yX5_readNumber, Cond.instanceMethod yX5_readNumber, Cond.selects RX5 yX5_readNumber yX5_readNumber, Cond.code yX5_readNumber cX5_readNumber 5 (some .int), Cond.methodLink RX5 52 yX5_takeBlocks, Cond.instanceMethod yX5_takeBlocks, Cond.selects RX5 yX5_takeBlocks yX5_takeBlocks, Cond.code yX5_takeBlocks cX5_takeBlocks 3 (some .int), Cond.methodLink RX5 56 yX5_takeEdge, Cond.instanceMethod yX5_takeEdge, Cond.selects RX5 yX5_takeEdge yX5_takeEdge, Cond.code yX5_takeEdge cX5_takeEdge 4 (some .int), Cond.methodLink RX5 66 yX0_hasBlock, Cond.instanceMethod yX0_hasBlock, Cond.selects RX0 yX0_hasBlock yX0_hasBlock]
def wsX5_read_r3 : List Cond := [Cond.code yX0_hasBlock cX0_hasBlock 2 (some .boolean), Cond.methodLink RX5 70 yX0_exit, Cond.instanceMethod yX0_exit, Cond.selects RX0 yX0_exit yX0_exit, Cond.code yX0_exit cX0_exit 1 (some .int), Cond.methodLink RX5 73 yX0_isFull, Cond.instanceMethod yX0_isFull, Cond.selects RX0 yX0_isFull yX0_isFull, Cond.code yX0_isFull cX0_isFull 1 (some .boolean), Cond.methodLink RX5 77 yX0_addEdge, Cond.instanceMethod yX0_addEdge, Cond.selects RX0 yX0_addEdge yX0_addEdge, Cond.code yX0_addEdge cX0_addEdge 4 none, Cond.fieldLink RX0 9 "EdgeCounterPlacer$Graph" "source" "[I", Cond.fieldLink RX0 15 "EdgeCounterPlacer$Graph" "target" "[I", Cond.fieldLink RX0 18 "EdgeCounterPlacer$Graph" "statedWeight" "[I", Cond.fieldLink RX0 23 "EdgeCounterPlacer$Graph" "leaving" "[[I", Cond.methodLink RX0 36 yX0_isFull, Cond.methodLink RX0 40 yX0_hasBlock, Cond.methodLink RX5 59 yX5_takeAbort, Cond.instanceMethod yX5_takeAbort, Cond.selects RX5 yX5_takeAbort yX5_takeAbort, Cond.code yX5_takeAbort cX5_takeAbort 3 (some .int), Cond.static yX6_holds]
def wsX5_read_r4 : List Cond := [Cond.initialized RX6, Cond.code yX6_holds cX6_holds 2 (some .boolean)]
def wsX5_read : List Cond := .code yX5_read cX5_read 4 none :: ((wsX5_read_r1 ++ (wsX5_read_r2 ++ (wsX5_read_r3 ++ wsX5_read_r4))) ++ wsX50 ++ wsX00 ++ wsX10)
def wsJ0_coder_7d493 : List Cond := .code yJ0_coder_7d493 cJ0_coder_7d493 1 (some .byte) :: ([.fieldLink RJ0 38 "java/lang/String" "COMPACT_STRINGS" "Z", .fieldLink RJ0 15 "java/lang/String" "coder" "B"])
def wsJ0_length_8abf5 : List Cond := .code yJ0_length_8abf5 cJ0_length_8abf5 1 (some .int) :: ([.fieldLink RJ0 9 "java/lang/String" "value" "[B", .methodLink RJ0 335 yJ0_coder_7d493, .instanceMethod yJ0_coder_7d493, .selects RJ0 yJ0_coder_7d493 yJ0_coder_7d493, .initialized RJ0, .code yJ0_coder_7d493 cJ0_coder_7d493 1 (some .byte), .fieldLink RJ0 38 "java/lang/String" "COMPACT_STRINGS" "Z", .fieldLink RJ0 15 "java/lang/String" "coder" "B"])
def wsJ0_isLatin1_aae02 : List Cond := .code yJ0_isLatin1_aae02 cJ0_isLatin1_aae02 1 (some .boolean) :: ([.fieldLink RJ0 38 "java/lang/String" "COMPACT_STRINGS" "Z", .fieldLink RJ0 15 "java/lang/String" "coder" "B"])
def wsJ3_checkIndex_8e157 : List Cond := .code yJ3_checkIndex_8e157 cJ3_checkIndex_8e157 3 (some .int) :: ([])
def wsJ0_checkIndex_df160 : List Cond := .code yJ0_checkIndex_df160 cJ0_checkIndex_df160 2 none :: ([.fieldLink RJ0 1053 "jdk/internal/util/Preconditions" "SIOOBE_FORMATTER" "Ljava/util/function/BiFunction;", .methodLink RJ0 1059 yJ3_checkIndex_8e157, .static yJ3_checkIndex_8e157, .initialized RJ3, .code yJ3_checkIndex_8e157 cJ3_checkIndex_8e157 3 (some .int)])
def wsJ1_charAt_3b067 : List Cond := .code yJ1_charAt_3b067 cJ1_charAt_3b067 2 (some .char) :: ([.methodLink RJ1 9 yJ0_checkIndex_df160, .static yJ0_checkIndex_df160, .initialized RJ0, .code yJ0_checkIndex_df160 cJ0_checkIndex_df160 2 none, .fieldLink RJ0 1053 "jdk/internal/util/Preconditions" "SIOOBE_FORMATTER" "Ljava/util/function/BiFunction;", .methodLink RJ0 1059 yJ3_checkIndex_8e157, .static yJ3_checkIndex_8e157, .initialized RJ3, .code yJ3_checkIndex_8e157 cJ3_checkIndex_8e157 3 (some .int)])
def wsJ2_length_9d52b : List Cond := .code yJ2_length_9d52b cJ2_length_9d52b 1 (some .int) :: ([])
def wsJ2_checkIndex_2214a : List Cond := .code yJ2_checkIndex_2214a cJ2_checkIndex_2214a 2 none :: ([.methodLink RJ2 48 yJ2_length_9d52b, .static yJ2_length_9d52b, .initialized RJ2, .code yJ2_length_9d52b cJ2_length_9d52b 1 (some .int), .methodLink RJ2 414 yJ0_checkIndex_df160, .static yJ0_checkIndex_df160, .initialized RJ0, .code yJ0_checkIndex_df160 cJ0_checkIndex_df160 2 none, .fieldLink RJ0 1053 "jdk/internal/util/Preconditions" "SIOOBE_FORMATTER" "Ljava/util/function/BiFunction;", .methodLink RJ0 1059 yJ3_checkIndex_8e157, .static yJ3_checkIndex_8e157, .initialized RJ3, .code yJ3_checkIndex_8e157 cJ3_checkIndex_8e157 3 (some .int)])
def wsJ2_getChar_3b067 : List Cond := .code yJ2_getChar_3b067 cJ2_getChar_3b067 2 (some .char) :: ([.fieldLink RJ2 44 "java/lang/StringUTF16" "$assertionsDisabled" "Z", .fieldLink RJ2 59 "java/lang/StringUTF16" "HI_BYTE_SHIFT" "I", .fieldLink RJ2 63 "java/lang/StringUTF16" "LO_BYTE_SHIFT" "I", .methodLink RJ2 48 yJ2_length_9d52b, .static yJ2_length_9d52b, .initialized RJ2, .code yJ2_length_9d52b cJ2_length_9d52b 1 (some .int)])
def wsJ2_charAt_3b067 : List Cond := .code yJ2_charAt_3b067 cJ2_charAt_3b067 2 (some .char) :: ([.methodLink RJ2 67 yJ2_checkIndex_2214a, .static yJ2_checkIndex_2214a, .initialized RJ2, .code yJ2_checkIndex_2214a cJ2_checkIndex_2214a 2 none, .methodLink RJ2 48 yJ2_length_9d52b, .static yJ2_length_9d52b, .code yJ2_length_9d52b cJ2_length_9d52b 1 (some .int), .methodLink RJ2 414 yJ0_checkIndex_df160, .static yJ0_checkIndex_df160, .initialized RJ0, .code yJ0_checkIndex_df160 cJ0_checkIndex_df160 2 none, .fieldLink RJ0 1053 "jdk/internal/util/Preconditions" "SIOOBE_FORMATTER" "Ljava/util/function/BiFunction;", .methodLink RJ0 1059 yJ3_checkIndex_8e157, .static yJ3_checkIndex_8e157, .initialized RJ3, .code yJ3_checkIndex_8e157 cJ3_checkIndex_8e157 3 (some .int), .methodLink RJ2 71 yJ2_getChar_3b067, .static yJ2_getChar_3b067, .code yJ2_getChar_3b067 cJ2_getChar_3b067 2 (some .char), .fieldLink RJ2 44 "java/lang/StringUTF16" "$assertionsDisabled" "Z", .fieldLink RJ2 59 "java/lang/StringUTF16" "HI_BYTE_SHIFT" "I", .fieldLink RJ2 63 "java/lang/StringUTF16" "LO_BYTE_SHIFT" "I"])
def wsJ0_charAt_5068e_r1 : List Cond := [Cond.fieldLink RJ0 9 "java/lang/String" "value" "[B", Cond.methodLink RJ0 492 yJ0_isLatin1_aae02, Cond.instanceMethod yJ0_isLatin1_aae02, Cond.selects RJ0 yJ0_isLatin1_aae02 yJ0_isLatin1_aae02, Cond.initialized RJ0, Cond.code yJ0_isLatin1_aae02 cJ0_isLatin1_aae02 1 (some .boolean), Cond.fieldLink RJ0 38 "java/lang/String" "COMPACT_STRINGS" "Z", Cond.fieldLink RJ0 15 "java/lang/String" "coder" "B", Cond.methodLink RJ0 495 yJ1_charAt_3b067, Cond.static yJ1_charAt_3b067, Cond.initialized RJ1, Cond.code yJ1_charAt_3b067 cJ1_charAt_3b067 2 (some .char), Cond.methodLink RJ1 9 yJ0_checkIndex_df160, Cond.static yJ0_checkIndex_df160, Cond.code yJ0_checkIndex_df160 cJ0_checkIndex_df160 2 none, Cond.fieldLink RJ0 1053 "jdk/internal/util/Preconditions" "SIOOBE_FORMATTER" "Ljava/util/function/BiFunction;", Cond.methodLink RJ0 1059 yJ3_checkIndex_8e157, Cond.static yJ3_checkIndex_8e157, Cond.initialized RJ3, Cond.code yJ3_checkIndex_8e157 cJ3_checkIndex_8e157 3 (some .int), Cond.methodLink RJ0 498 yJ2_charAt_3b067, Cond.static yJ2_charAt_3b067, Cond.initialized RJ2, Cond.code yJ2_charAt_3b067 cJ2_charAt_3b067 2 (some .char)]
def wsJ0_charAt_5068e_r2 : List Cond := [Cond.methodLink RJ2 67 yJ2_checkIndex_2214a, Cond.static yJ2_checkIndex_2214a, Cond.code yJ2_checkIndex_2214a cJ2_checkIndex_2214a 2 none, Cond.methodLink RJ2 48 yJ2_length_9d52b, Cond.static yJ2_length_9d52b, Cond.code yJ2_length_9d52b cJ2_length_9d52b 1 (some .int), Cond.methodLink RJ2 414 yJ0_checkIndex_df160, Cond.methodLink RJ2 71 yJ2_getChar_3b067, Cond.static yJ2_getChar_3b067, Cond.code yJ2_getChar_3b067 cJ2_getChar_3b067 2 (some .char), Cond.fieldLink RJ2 44 "java/lang/StringUTF16" "$assertionsDisabled" "Z", Cond.fieldLink RJ2 59 "java/lang/StringUTF16" "HI_BYTE_SHIFT" "I", Cond.fieldLink RJ2 63 "java/lang/StringUTF16" "LO_BYTE_SHIFT" "I"]
def wsJ0_charAt_5068e : List Cond := .code yJ0_charAt_5068e cJ0_charAt_5068e 2 (some .char) :: ((wsJ0_charAt_5068e_r1 ++ wsJ0_charAt_5068e_r2))
def wsX6_takeDraft : List Cond := .code yX6_takeDraft cX6_takeDraft 2 none :: ([.fieldLink RX6 51 "EdgeCounterPlacer" "draft" "LEdgeCounterPlacer$Graph;", .fieldLink RX6 47 "EdgeCounterPlacer" "graph" "LEdgeCounterPlacer$Graph;"] ++ wsX60)
def wsX6_configure_r1 : List Cond := [Cond.fieldLink RX6 19 "EdgeCounterPlacer" "reader" "LEdgeCounterPlacer$TextReader;", Cond.fieldLink RX6 10 "EdgeCounterPlacer" "text" "LEdgeCounterPlacer$GraphText;", Cond.fieldLink RX6 51 "EdgeCounterPlacer" "draft" "LEdgeCounterPlacer$Graph;", Cond.fieldLink RX6 26 "EdgeCounterPlacer" "placement" "LEdgeCounterPlacer$Placement;", Cond.fieldLink RX6 47 "EdgeCounterPlacer" "graph" "LEdgeCounterPlacer$Graph;", Cond.fieldLink RX6 33 "EdgeCounterPlacer" "simulation" "LEdgeCounterPlacer$Simulation;", Cond.fieldLink RX6 40 "EdgeCounterPlacer" "history" "LEdgeCounterPlacer$History;", Cond.methodLink RX6 81 yX5_read, Cond.instanceMethod yX5_read, Cond.selects RX5 yX5_read yX5_read, Cond.initialized RX5, Cond.code yX5_read cX5_read 4 none, Cond.fieldLink RX5 28 "EdgeCounterPlacer$TextReader" "place" "I", Cond.fieldLink RX5 31 "EdgeCounterPlacer$TextReader" "aborting" "I", Cond.fieldLink RX5 19 "EdgeCounterPlacer$TextReader" "reason" "I", Cond.fieldLink RX5 15 "EdgeCounterPlacer$TextReader" "errorPlace" "I", Cond.methodLink RX5 22 yX0_begin, Cond.instanceMethod yX0_begin, Cond.selects RX0 yX0_begin yX0_begin, Cond.initialized RX0, Cond.code yX0_begin cX0_begin 3 none, Cond.fieldLink RX0 29 "EdgeCounterPlacer$Graph" "blocks" "I", Cond.fieldLink RX0 33 "EdgeCounterPlacer$Graph" "edges" "I", Cond.fieldLink RX0 26 "EdgeCounterPlacer$Graph" "leavingCount" "[I"]
def wsX6_configure_r2 : List Cond := [Cond.methodLink RX5 34 yX1_length, Cond.instanceMethod yX1_length, Cond.selects RX1 yX1_length yX1_length, Cond.initialized RX1, Cond.code yX1_length cX1_length 1 (some .int), Cond.fieldLink RX1 15 "EdgeCounterPlacer$GraphText" "length" "I", Cond.methodLink RX5 40 yX5_readStatement, Cond.instanceMethod yX5_readStatement, Cond.selects RX5 yX5_readStatement yX5_readStatement, Cond.code yX5_readStatement cX5_readStatement 5 (some .int), Cond.methodLink RX5 44 yX1_at, Cond.instanceMethod yX1_at, Cond.selects RX1 yX1_at yX1_at, Cond.code yX1_at cX1_at 2 (some .char), Cond.fieldLink RX1 9 "EdgeCounterPlacer$GraphText" "characters" "[C", Cond.methodLink RX5 48 yX5_readNumbers, Cond.instanceMethod yX5_readNumbers, Cond.selects RX5 yX5_readNumbers yX5_readNumbers, Cond.code yX5_readNumbers cX5_readNumbers 6 (some .boolean), Cond.fieldLink RX5 11 "EdgeCounterPlacer$TextReader" "numbers" "[I", Cond.methodLink RX5 62 yX5_readNumber, Cond.instanceMethod yX5_readNumber, Cond.selects RX5 yX5_readNumber yX5_readNumber, Cond.code yX5_readNumber cX5_readNumber 5 (some .int)]
def wsX6_configure_r3 : List Cond := [Cond.methodLink RX5 52 yX5_takeBlocks, Cond.instanceMethod yX5_takeBlocks, Cond.selects RX5 yX5_takeBlocks yX5_takeBlocks, Cond.code yX5_takeBlocks cX5_takeBlocks 3 (some .int), Cond.methodLink RX5 56 yX5_takeEdge, Cond.instanceMethod yX5_takeEdge, Cond.selects RX5 yX5_takeEdge yX5_takeEdge, Cond.code yX5_takeEdge cX5_takeEdge 4 (some .int), Cond.methodLink RX5 66 yX0_hasBlock, Cond.instanceMethod yX0_hasBlock, Cond.selects RX0 yX0_hasBlock yX0_hasBlock, Cond.code yX0_hasBlock cX0_hasBlock 2 (some .boolean), Cond.methodLink RX5 70 yX0_exit, Cond.instanceMethod yX0_exit, Cond.selects RX0 yX0_exit yX0_exit, Cond.code yX0_exit cX0_exit 1 (some .int), Cond.methodLink RX5 73 yX0_isFull, Cond.instanceMethod yX0_isFull, Cond.selects RX0 yX0_isFull yX0_isFull, Cond.code yX0_isFull cX0_isFull 1 (some .boolean), Cond.methodLink RX5 77 yX0_addEdge, Cond.instanceMethod yX0_addEdge, Cond.selects RX0 yX0_addEdge yX0_addEdge, Cond.code yX0_addEdge cX0_addEdge 4 none]
def wsX6_configure_r4 : List Cond := [Cond.fieldLink RX0 9 "EdgeCounterPlacer$Graph" "source" "[I", Cond.fieldLink RX0 15 "EdgeCounterPlacer$Graph" "target" "[I", Cond.fieldLink RX0 18 "EdgeCounterPlacer$Graph" "statedWeight" "[I", Cond.fieldLink RX0 23 "EdgeCounterPlacer$Graph" "leaving" "[[I", Cond.methodLink RX0 36 yX0_isFull, Cond.methodLink RX0 40 yX0_hasBlock, Cond.methodLink RX5 59 yX5_takeAbort, Cond.instanceMethod yX5_takeAbort, Cond.selects RX5 yX5_takeAbort yX5_takeAbort, Cond.code yX5_takeAbort cX5_takeAbort 3 (some .int), Cond.static yX6_holds, Cond.initialized RX6, Cond.code yX6_holds cX6_holds 2 (some .boolean), Cond.methodLink RX6 85 yX5_reason, Cond.instanceMethod yX5_reason, Cond.selects RX5 yX5_reason yX5_reason, Cond.code yX5_reason cX5_reason 1 (some .int), Cond.methodLink RX6 80 yX1_length, Cond.methodLink RX6 91 yX0_isComplete, Cond.instanceMethod yX0_isComplete, Cond.selects RX0 yX0_isComplete yX0_isComplete, Cond.code yX0_isComplete cX0_isComplete 3 (some .boolean), Cond.methodLink RX0 50 yX0_exit, Cond.methodLink RX0 47 yX0_leavingCount]
def wsX6_configure_r5 : List Cond := [Cond.instanceMethod yX0_leavingCount, Cond.selects RX0 yX0_leavingCount yX0_leavingCount, Cond.code yX0_leavingCount cX0_leavingCount 2 (some .int), Cond.methodLink RX0 54 yX0_reach, Cond.instanceMethod yX0_reach, Cond.selects RX0 yX0_reach yX0_reach, Cond.code yX0_reach cX0_reach 7 (some .int), Cond.methodLink RX0 58 yX0_spread, Cond.instanceMethod yX0_spread, Cond.selects RX0 yX0_spread yX0_spread, Cond.code yX0_spread cX0_spread 3 (some .int), Cond.methodLink RX0 65 yX0_source, Cond.instanceMethod yX0_source, Cond.selects RX0 yX0_source yX0_source, Cond.code yX0_source cX0_source 2 (some .int), Cond.methodLink RX0 44 yX0_hasEdge, Cond.instanceMethod yX0_hasEdge, Cond.selects RX0 yX0_hasEdge yX0_hasEdge, Cond.code yX0_hasEdge cX0_hasEdge 2 (some .boolean), Cond.methodLink RX0 67 yX0_target, Cond.instanceMethod yX0_target, Cond.selects RX0 yX0_target yX0_target, Cond.code yX0_target cX0_target 2 (some .int), Cond.methodLink RX6 94 yX6_takeDraft]
def wsX6_configure_r6 : List Cond := [Cond.instanceMethod yX6_takeDraft, Cond.selects RX6 yX6_takeDraft yX6_takeDraft, Cond.code yX6_takeDraft cX6_takeDraft 2 none, Cond.methodLink RX6 97 yX3_begin, Cond.instanceMethod yX3_begin, Cond.selects RX3 yX3_begin yX3_begin, Cond.initialized RX3, Cond.code yX3_begin cX3_begin 3 none, Cond.fieldLink RX3 9 "EdgeCounterPlacer$Placement" "weight" "[I", Cond.methodLink RX3 18 yX0_statedWeight, Cond.instanceMethod yX0_statedWeight, Cond.selects RX0 yX0_statedWeight yX0_statedWeight, Cond.code yX0_statedWeight cX0_statedWeight 2 (some .int), Cond.methodLink RX3 24 yX3_findTree, Cond.instanceMethod yX3_findTree, Cond.selects RX3 yX3_findTree yX3_findTree, Cond.code yX3_findTree cX3_findTree 5 none, Cond.fieldLink RX3 28 "EdgeCounterPlacer$Placement" "tree" "I", Cond.methodLink RX3 36 yX0_edges, Cond.instanceMethod yX0_edges, Cond.selects RX0 yX0_edges yX0_edges, Cond.code yX0_edges cX0_edges 1 (some .int), Cond.methodLink RX3 40 yX3_heaviestEdge, Cond.instanceMethod yX3_heaviestEdge]
def wsX6_configure_r7 : List Cond := [Cond.selects RX3 yX3_heaviestEdge yX3_heaviestEdge, Cond.code yX3_heaviestEdge cX3_heaviestEdge 6 (some .int), Cond.methodLink RX3 56 yX3_weight, Cond.instanceMethod yX3_weight, Cond.selects RX3 yX3_weight yX3_weight, Cond.code yX3_weight cX3_weight 2 (some .int), Cond.methodLink RX3 44 yX0_source, Cond.methodLink RX3 47 yX0_reach, Cond.methodLink RX3 50 yX0_target, Cond.methodLink RX3 53 yX3_findSides, Cond.instanceMethod yX3_findSides, Cond.selects RX3 yX3_findSides yX3_findSides, Cond.code yX3_findSides cX3_findSides 3 none, Cond.fieldLink RX3 15 "EdgeCounterPlacer$Placement" "sourceSide" "[I", Cond.methodLink RX3 58 yX3_isInTree, Cond.instanceMethod yX3_isInTree, Cond.selects RX3 yX3_isInTree yX3_isInTree, Cond.code yX3_isInTree cX3_isInTree 2 (some .boolean), Cond.methodLink RX6 101 yX4_begin, Cond.instanceMethod yX4_begin, Cond.selects RX4 yX4_begin yX4_begin, Cond.initialized RX4, Cond.code yX4_begin cX4_begin 1 none, Cond.constant RX4 18 (60000)]
def wsX6_configure_r8 : List Cond := [Cond.fieldLink RX4 19 "EdgeCounterPlacer$Simulation" "limit" "I", Cond.methodLink RX4 23 yX4_restart, Cond.instanceMethod yX4_restart, Cond.selects RX4 yX4_restart yX4_restart, Cond.code yX4_restart cX4_restart 2 none, Cond.fieldLink RX4 9 "EdgeCounterPlacer$Simulation" "counterValue" "[I", Cond.fieldLink RX4 15 "EdgeCounterPlacer$Simulation" "passes" "[I", Cond.fieldLink RX4 26 "EdgeCounterPlacer$Simulation" "present" "I", Cond.fieldLink RX4 29 "EdgeCounterPlacer$Simulation" "finished" "I", Cond.methodLink RX6 103 yX2_forget, Cond.instanceMethod yX2_forget, Cond.selects RX2 yX2_forget yX2_forget, Cond.initialized RX2, Cond.code yX2_forget cX2_forget 1 none, Cond.fieldLink RX2 25 "EdgeCounterPlacer$History" "size" "I", Cond.methodLink RX6 106 yX0_edges]
def wsX6_configure : List Cond := .code yX6_configure cX6_configure 1 (some .int) :: ((wsX6_configure_r1 ++ (wsX6_configure_r2 ++ (wsX6_configure_r3 ++ (wsX6_configure_r4 ++ (wsX6_configure_r5 ++ (wsX6_configure_r6 ++ (wsX6_configure_r7 ++ wsX6_configure_r8))))))) ++ wsX60 ++ wsX50 ++ wsX00 ++ wsX10 ++ wsX30 ++ wsX40 ++ wsX20)
def wsX6_init_r1 : List Cond := [Cond.methodLink RX6 1 objectInit, Cond.instanceMethod objectInit, Cond.code objectInit ⟨#[0xb1]⟩ 1 none, Cond.classLink RX6 7 RX1, Cond.instantiable RX1 2, Cond.initialized RX1, Cond.fieldLink RX6 10 "EdgeCounterPlacer" "text" "LEdgeCounterPlacer$GraphText;", Cond.classLink RX6 16 RX5, Cond.instantiable RX5 5, Cond.initialized RX5, Cond.fieldLink RX6 19 "EdgeCounterPlacer" "reader" "LEdgeCounterPlacer$TextReader;", Cond.classLink RX6 23 RX3, Cond.instantiable RX3 3, Cond.initialized RX3, Cond.fieldLink RX6 26 "EdgeCounterPlacer" "placement" "LEdgeCounterPlacer$Placement;", Cond.classLink RX6 30 RX4, Cond.instantiable RX4 5, Cond.initialized RX4, Cond.fieldLink RX6 33 "EdgeCounterPlacer" "simulation" "LEdgeCounterPlacer$Simulation;", Cond.classLink RX6 37 RX2, Cond.instantiable RX2 4, Cond.initialized RX2, Cond.fieldLink RX6 40 "EdgeCounterPlacer" "history" "LEdgeCounterPlacer$History;", Cond.classLink RX6 44 RX0]
def wsX6_init_r2 : List Cond := [Cond.instantiable RX0 7, Cond.initialized RX0, Cond.fieldLink RX6 47 "EdgeCounterPlacer" "graph" "LEdgeCounterPlacer$Graph;", Cond.fieldLink RX6 51 "EdgeCounterPlacer" "draft" "LEdgeCounterPlacer$Graph;", Cond.instanceMethod yX1_init, Cond.code yX1_init cX1_init 1 none, Cond.methodLink RX1 3 objectInit, Cond.arrayClass .char, Cond.fieldLink RX1 9 "EdgeCounterPlacer$GraphText" "characters" "[C", Cond.instanceMethod yX5_init, Cond.code yX5_init cX5_init 1 none, Cond.methodLink RX5 3 objectInit, Cond.arrayClass .int, Cond.fieldLink RX5 11 "EdgeCounterPlacer$TextReader" "numbers" "[I", Cond.instanceMethod yX3_init, Cond.code yX3_init cX3_init 1 none, Cond.methodLink RX3 3 objectInit, Cond.fieldLink RX3 9 "EdgeCounterPlacer$Placement" "weight" "[I", Cond.fieldLink RX3 15 "EdgeCounterPlacer$Placement" "sourceSide" "[I", Cond.instanceMethod yX4_init, Cond.code yX4_init cX4_init 1 none, Cond.methodLink RX4 3 objectInit, Cond.fieldLink RX4 9 "EdgeCounterPlacer$Simulation" "counterValue" "[I", Cond.fieldLink RX4 15 "EdgeCounterPlacer$Simulation" "passes" "[I"]
def wsX6_init_r3 : List Cond := [Cond.methodLink RX6 39 yX2_init, Cond.instanceMethod yX2_init, Cond.code yX2_init cX2_init 2 none, Cond.methodLink RX2 3 objectInit, Cond.classLink RX2 9 RX3, Cond.fieldLink RX2 11 "EdgeCounterPlacer$History" "placements" "[LEdgeCounterPlacer$Placement;", Cond.classLink RX2 17 RX4, Cond.fieldLink RX2 19 "EdgeCounterPlacer$History" "simulations" "[LEdgeCounterPlacer$Simulation;", Cond.instanceMethod yX0_init, Cond.code yX0_init cX0_init 1 none, Cond.methodLink RX0 3 objectInit, Cond.fieldLink RX0 9 "EdgeCounterPlacer$Graph" "source" "[I", Cond.fieldLink RX0 15 "EdgeCounterPlacer$Graph" "target" "[I", Cond.fieldLink RX0 18 "EdgeCounterPlacer$Graph" "statedWeight" "[I", Cond.classLink RX0 21 "[[I", Cond.fieldLink RX0 23 "EdgeCounterPlacer$Graph" "leaving" "[[I", Cond.fieldLink RX0 26 "EdgeCounterPlacer$Graph" "leavingCount" "[I", Cond.methodLink RX6 56 yJ0_length_8abf5, Cond.instanceMethod yJ0_length_8abf5, Cond.selects RJ0 yJ0_length_8abf5 yJ0_length_8abf5, Cond.initialized RJ0, Cond.code yJ0_length_8abf5 cJ0_length_8abf5 1 (some .int), Cond.fieldLink RJ0 9 "java/lang/String" "value" "[B", Cond.methodLink RJ0 335 yJ0_coder_7d493]
def wsX6_init_r4 : List Cond := [Cond.instanceMethod yJ0_coder_7d493, Cond.selects RJ0 yJ0_coder_7d493 yJ0_coder_7d493, Cond.code yJ0_coder_7d493 cJ0_coder_7d493 1 (some .byte), Cond.fieldLink RJ0 38 "java/lang/String" "COMPACT_STRINGS" "Z", Cond.fieldLink RJ0 15 "java/lang/String" "coder" "B", Cond.methodLink RX6 62 yJ0_charAt_5068e, Cond.instanceMethod yJ0_charAt_5068e, Cond.selects RJ0 yJ0_charAt_5068e yJ0_charAt_5068e, Cond.code yJ0_charAt_5068e cJ0_charAt_5068e 2 (some .char), Cond.methodLink RJ0 492 yJ0_isLatin1_aae02, Cond.instanceMethod yJ0_isLatin1_aae02, Cond.selects RJ0 yJ0_isLatin1_aae02 yJ0_isLatin1_aae02, Cond.code yJ0_isLatin1_aae02 cJ0_isLatin1_aae02 1 (some .boolean), Cond.methodLink RJ0 495 yJ1_charAt_3b067, Cond.static yJ1_charAt_3b067, Cond.initialized RJ1, Cond.code yJ1_charAt_3b067 cJ1_charAt_3b067 2 (some .char), Cond.methodLink RJ1 9 yJ0_checkIndex_df160, Cond.static yJ0_checkIndex_df160, Cond.code yJ0_checkIndex_df160 cJ0_checkIndex_df160 2 none, Cond.fieldLink RJ0 1053 "jdk/internal/util/Preconditions" "SIOOBE_FORMATTER" "Ljava/util/function/BiFunction;", Cond.methodLink RJ0 1059 yJ3_checkIndex_8e157, Cond.static yJ3_checkIndex_8e157, Cond.initialized RJ3]
def wsX6_init_r5 : List Cond := [Cond.code yJ3_checkIndex_8e157 cJ3_checkIndex_8e157 3 (some .int), Cond.methodLink RJ0 498 yJ2_charAt_3b067, Cond.static yJ2_charAt_3b067, Cond.initialized RJ2, Cond.code yJ2_charAt_3b067 cJ2_charAt_3b067 2 (some .char), Cond.methodLink RJ2 67 yJ2_checkIndex_2214a, Cond.static yJ2_checkIndex_2214a, Cond.code yJ2_checkIndex_2214a cJ2_checkIndex_2214a 2 none, Cond.methodLink RJ2 48 yJ2_length_9d52b, Cond.static yJ2_length_9d52b, Cond.code yJ2_length_9d52b cJ2_length_9d52b 1 (some .int), Cond.methodLink RJ2 414 yJ0_checkIndex_df160, Cond.methodLink RJ2 71 yJ2_getChar_3b067, Cond.static yJ2_getChar_3b067, Cond.code yJ2_getChar_3b067 cJ2_getChar_3b067 2 (some .char), Cond.fieldLink RJ2 44 "java/lang/StringUTF16" "$assertionsDisabled" "Z", Cond.fieldLink RJ2 59 "java/lang/StringUTF16" "HI_BYTE_SHIFT" "I", Cond.fieldLink RJ2 63 "java/lang/StringUTF16" "LO_BYTE_SHIFT" "I", Cond.methodLink RX6 66 yX1_add, Cond.instanceMethod yX1_add, Cond.selects RX1 yX1_add yX1_add, Cond.code yX1_add cX1_add 2 none, Cond.fieldLink RX1 15 "EdgeCounterPlacer$GraphText" "length" "I", Cond.methodLink RX1 19 yX1_isFull]
def wsX6_init_r6 : List Cond := [Cond.instanceMethod yX1_isFull, Cond.selects RX1 yX1_isFull yX1_isFull, Cond.code yX1_isFull cX1_isFull 1 (some .boolean), Cond.methodLink RX6 70 yX6_configure, Cond.instanceMethod yX6_configure, Cond.selects RX6 yX6_configure yX6_configure, Cond.initialized RX6, Cond.code yX6_configure cX6_configure 1 (some .int), Cond.methodLink RX6 81 yX5_read, Cond.instanceMethod yX5_read, Cond.selects RX5 yX5_read yX5_read, Cond.code yX5_read cX5_read 4 none, Cond.fieldLink RX5 28 "EdgeCounterPlacer$TextReader" "place" "I", Cond.fieldLink RX5 31 "EdgeCounterPlacer$TextReader" "aborting" "I", Cond.fieldLink RX5 19 "EdgeCounterPlacer$TextReader" "reason" "I", Cond.fieldLink RX5 15 "EdgeCounterPlacer$TextReader" "errorPlace" "I", Cond.methodLink RX5 22 yX0_begin, Cond.instanceMethod yX0_begin, Cond.selects RX0 yX0_begin yX0_begin, Cond.code yX0_begin cX0_begin 3 none, Cond.fieldLink RX0 29 "EdgeCounterPlacer$Graph" "blocks" "I", Cond.fieldLink RX0 33 "EdgeCounterPlacer$Graph" "edges" "I", Cond.methodLink RX5 34 yX1_length, Cond.instanceMethod yX1_length]
def wsX6_init_r7 : List Cond := [Cond.selects RX1 yX1_length yX1_length, Cond.code yX1_length cX1_length 1 (some .int), Cond.methodLink RX5 40 yX5_readStatement, Cond.instanceMethod yX5_readStatement, Cond.selects RX5 yX5_readStatement yX5_readStatement, Cond.code yX5_readStatement cX5_readStatement 5 (some .int), Cond.methodLink RX5 44 yX1_at, Cond.instanceMethod yX1_at, Cond.selects RX1 yX1_at yX1_at, Cond.code yX1_at cX1_at 2 (some .char), Cond.methodLink RX5 48 yX5_readNumbers, Cond.instanceMethod yX5_readNumbers, Cond.selects RX5 yX5_readNumbers yX5_readNumbers, Cond.code yX5_readNumbers cX5_readNumbers 6 (some .boolean), Cond.methodLink RX5 62 yX5_readNumber, Cond.instanceMethod yX5_readNumber, Cond.selects RX5 yX5_readNumber yX5_readNumber, Cond.code yX5_readNumber cX5_readNumber 5 (some .int), Cond.methodLink RX5 52 yX5_takeBlocks, Cond.instanceMethod yX5_takeBlocks, Cond.selects RX5 yX5_takeBlocks yX5_takeBlocks, Cond.code yX5_takeBlocks cX5_takeBlocks 3 (some .int), Cond.methodLink RX5 56 yX5_takeEdge, Cond.instanceMethod yX5_takeEdge]
def wsX6_init_r8 : List Cond := [Cond.selects RX5 yX5_takeEdge yX5_takeEdge, Cond.code yX5_takeEdge cX5_takeEdge 4 (some .int), Cond.methodLink RX5 66 yX0_hasBlock, Cond.instanceMethod yX0_hasBlock, Cond.selects RX0 yX0_hasBlock yX0_hasBlock, Cond.code yX0_hasBlock cX0_hasBlock 2 (some .boolean), Cond.methodLink RX5 70 yX0_exit, Cond.instanceMethod yX0_exit, Cond.selects RX0 yX0_exit yX0_exit, Cond.code yX0_exit cX0_exit 1 (some .int), Cond.methodLink RX5 73 yX0_isFull, Cond.instanceMethod yX0_isFull, Cond.selects RX0 yX0_isFull yX0_isFull, Cond.code yX0_isFull cX0_isFull 1 (some .boolean), Cond.methodLink RX5 77 yX0_addEdge, Cond.instanceMethod yX0_addEdge, Cond.selects RX0 yX0_addEdge yX0_addEdge, Cond.code yX0_addEdge cX0_addEdge 4 none, Cond.methodLink RX0 36 yX0_isFull, Cond.methodLink RX0 40 yX0_hasBlock, Cond.methodLink RX5 59 yX5_takeAbort, Cond.instanceMethod yX5_takeAbort, Cond.selects RX5 yX5_takeAbort yX5_takeAbort, Cond.code yX5_takeAbort cX5_takeAbort 3 (some .int)]
def wsX6_init_r9 : List Cond := [Cond.static yX6_holds, Cond.code yX6_holds cX6_holds 2 (some .boolean), Cond.methodLink RX6 85 yX5_reason, Cond.instanceMethod yX5_reason, Cond.selects RX5 yX5_reason yX5_reason, Cond.code yX5_reason cX5_reason 1 (some .int), Cond.methodLink RX6 80 yX1_length, Cond.methodLink RX6 91 yX0_isComplete, Cond.instanceMethod yX0_isComplete, Cond.selects RX0 yX0_isComplete yX0_isComplete, Cond.code yX0_isComplete cX0_isComplete 3 (some .boolean), Cond.methodLink RX0 50 yX0_exit, Cond.methodLink RX0 47 yX0_leavingCount, Cond.instanceMethod yX0_leavingCount, Cond.selects RX0 yX0_leavingCount yX0_leavingCount, Cond.code yX0_leavingCount cX0_leavingCount 2 (some .int), Cond.methodLink RX0 54 yX0_reach, Cond.instanceMethod yX0_reach, Cond.selects RX0 yX0_reach yX0_reach, Cond.code yX0_reach cX0_reach 7 (some .int), Cond.methodLink RX0 58 yX0_spread, Cond.instanceMethod yX0_spread, Cond.selects RX0 yX0_spread yX0_spread, Cond.code yX0_spread cX0_spread 3 (some .int)]
def wsX6_init_r10 : List Cond := [Cond.methodLink RX0 65 yX0_source, Cond.instanceMethod yX0_source, Cond.selects RX0 yX0_source yX0_source, Cond.code yX0_source cX0_source 2 (some .int), Cond.methodLink RX0 44 yX0_hasEdge, Cond.instanceMethod yX0_hasEdge, Cond.selects RX0 yX0_hasEdge yX0_hasEdge, Cond.code yX0_hasEdge cX0_hasEdge 2 (some .boolean), Cond.methodLink RX0 67 yX0_target, Cond.instanceMethod yX0_target, Cond.selects RX0 yX0_target yX0_target, Cond.code yX0_target cX0_target 2 (some .int), Cond.methodLink RX6 94 yX6_takeDraft, Cond.instanceMethod yX6_takeDraft, Cond.selects RX6 yX6_takeDraft yX6_takeDraft, Cond.code yX6_takeDraft cX6_takeDraft 2 none, Cond.methodLink RX6 97 yX3_begin, Cond.instanceMethod yX3_begin, Cond.selects RX3 yX3_begin yX3_begin, Cond.code yX3_begin cX3_begin 3 none, Cond.methodLink RX3 18 yX0_statedWeight, Cond.instanceMethod yX0_statedWeight, Cond.selects RX0 yX0_statedWeight yX0_statedWeight, Cond.code yX0_statedWeight cX0_statedWeight 2 (some .int)]
def wsX6_init_r11 : List Cond := [Cond.methodLink RX3 24 yX3_findTree, Cond.instanceMethod yX3_findTree, Cond.selects RX3 yX3_findTree yX3_findTree, Cond.code yX3_findTree cX3_findTree 5 none, Cond.fieldLink RX3 28 "EdgeCounterPlacer$Placement" "tree" "I", Cond.methodLink RX3 36 yX0_edges, Cond.instanceMethod yX0_edges, Cond.selects RX0 yX0_edges yX0_edges, Cond.code yX0_edges cX0_edges 1 (some .int), Cond.methodLink RX3 40 yX3_heaviestEdge, Cond.instanceMethod yX3_heaviestEdge, Cond.selects RX3 yX3_heaviestEdge yX3_heaviestEdge, Cond.code yX3_heaviestEdge cX3_heaviestEdge 6 (some .int), Cond.methodLink RX3 56 yX3_weight, Cond.instanceMethod yX3_weight, Cond.selects RX3 yX3_weight yX3_weight, Cond.code yX3_weight cX3_weight 2 (some .int), Cond.methodLink RX3 44 yX0_source, Cond.methodLink RX3 47 yX0_reach, Cond.methodLink RX3 50 yX0_target, Cond.methodLink RX3 53 yX3_findSides, Cond.instanceMethod yX3_findSides, Cond.selects RX3 yX3_findSides yX3_findSides, Cond.code yX3_findSides cX3_findSides 3 none]
def wsX6_init_r12 : List Cond := [Cond.methodLink RX3 58 yX3_isInTree, Cond.instanceMethod yX3_isInTree, Cond.selects RX3 yX3_isInTree yX3_isInTree, Cond.code yX3_isInTree cX3_isInTree 2 (some .boolean), Cond.methodLink RX6 101 yX4_begin, Cond.instanceMethod yX4_begin, Cond.selects RX4 yX4_begin yX4_begin, Cond.code yX4_begin cX4_begin 1 none, Cond.constant RX4 18 (60000), Cond.fieldLink RX4 19 "EdgeCounterPlacer$Simulation" "limit" "I", Cond.methodLink RX4 23 yX4_restart, Cond.instanceMethod yX4_restart, Cond.selects RX4 yX4_restart yX4_restart, Cond.code yX4_restart cX4_restart 2 none, Cond.fieldLink RX4 26 "EdgeCounterPlacer$Simulation" "present" "I", Cond.fieldLink RX4 29 "EdgeCounterPlacer$Simulation" "finished" "I", Cond.methodLink RX6 103 yX2_forget, Cond.instanceMethod yX2_forget, Cond.selects RX2 yX2_forget yX2_forget, Cond.code yX2_forget cX2_forget 1 none, Cond.fieldLink RX2 25 "EdgeCounterPlacer$History" "size" "I", Cond.methodLink RX6 106 yX0_edges, Cond.methodLink RX6 73 yX1_clear, Cond.instanceMethod yX1_clear]
def wsX6_init_r13 : List Cond := [Cond.selects RX1 yX1_clear yX1_clear, Cond.code yX1_clear cX1_clear 1 none]
def wsX6_init : List Cond := .code yX6_init cX6_init 2 none :: ((wsX6_init_r1 ++ (wsX6_init_r2 ++ (wsX6_init_r3 ++ (wsX6_init_r4 ++ (wsX6_init_r5 ++ (wsX6_init_r6 ++ (wsX6_init_r7 ++ (wsX6_init_r8 ++ (wsX6_init_r9 ++ (wsX6_init_r10 ++ (wsX6_init_r11 ++ (wsX6_init_r12 ++ wsX6_init_r13)))))))))))) ++ wsX10 ++ wsX60 ++ wsX50 ++ wsX30 ++ wsX40 ++ wsX20 ++ wsX00)
def wsX6_append : List Cond := .code yX6_append cX6_append 2 (some .int) :: ([.fieldLink RX6 10 "EdgeCounterPlacer" "text" "LEdgeCounterPlacer$GraphText;", .methodLink RX6 76 yX1_isFull, .instanceMethod yX1_isFull, .selects RX1 yX1_isFull yX1_isFull, .initialized RX1, .code yX1_isFull cX1_isFull 1 (some .boolean), .fieldLink RX1 15 "EdgeCounterPlacer$GraphText" "length" "I", .methodLink RX6 66 yX1_add, .instanceMethod yX1_add, .selects RX1 yX1_add yX1_add, .code yX1_add cX1_add 2 none, .fieldLink RX1 9 "EdgeCounterPlacer$GraphText" "characters" "[C", .methodLink RX1 19 yX1_isFull, .methodLink RX6 80 yX1_length, .instanceMethod yX1_length, .selects RX1 yX1_length yX1_length, .code yX1_length cX1_length 1 (some .int)] ++ wsX60 ++ wsX10)
def wsX6_clearText : List Cond := .code yX6_clearText cX6_clearText 2 (some .int) :: ([.fieldLink RX6 10 "EdgeCounterPlacer" "text" "LEdgeCounterPlacer$GraphText;", .methodLink RX6 80 yX1_length, .instanceMethod yX1_length, .selects RX1 yX1_length yX1_length, .initialized RX1, .code yX1_length cX1_length 1 (some .int), .fieldLink RX1 15 "EdgeCounterPlacer$GraphText" "length" "I", .methodLink RX6 73 yX1_clear, .instanceMethod yX1_clear, .selects RX1 yX1_clear yX1_clear, .code yX1_clear cX1_clear 1 none] ++ wsX60 ++ wsX10)
def wsX6_firstError_r1 : List Cond := [Cond.fieldLink RX6 19 "EdgeCounterPlacer" "reader" "LEdgeCounterPlacer$TextReader;", Cond.fieldLink RX6 10 "EdgeCounterPlacer" "text" "LEdgeCounterPlacer$GraphText;", Cond.fieldLink RX6 51 "EdgeCounterPlacer" "draft" "LEdgeCounterPlacer$Graph;", Cond.methodLink RX6 81 yX5_read, Cond.instanceMethod yX5_read, Cond.selects RX5 yX5_read yX5_read, Cond.initialized RX5, Cond.code yX5_read cX5_read 4 none, Cond.fieldLink RX5 28 "EdgeCounterPlacer$TextReader" "place" "I", Cond.fieldLink RX5 31 "EdgeCounterPlacer$TextReader" "aborting" "I", Cond.fieldLink RX5 19 "EdgeCounterPlacer$TextReader" "reason" "I", Cond.fieldLink RX5 15 "EdgeCounterPlacer$TextReader" "errorPlace" "I", Cond.methodLink RX5 22 yX0_begin, Cond.instanceMethod yX0_begin, Cond.selects RX0 yX0_begin yX0_begin, Cond.initialized RX0, Cond.code yX0_begin cX0_begin 3 none, Cond.fieldLink RX0 29 "EdgeCounterPlacer$Graph" "blocks" "I", Cond.fieldLink RX0 33 "EdgeCounterPlacer$Graph" "edges" "I", Cond.fieldLink RX0 26 "EdgeCounterPlacer$Graph" "leavingCount" "[I", Cond.methodLink RX5 34 yX1_length, Cond.instanceMethod yX1_length, Cond.selects RX1 yX1_length yX1_length, Cond.initialized RX1]
def wsX6_firstError_r2 : List Cond := [Cond.code yX1_length cX1_length 1 (some .int), Cond.fieldLink RX1 15 "EdgeCounterPlacer$GraphText" "length" "I", Cond.methodLink RX5 40 yX5_readStatement, Cond.instanceMethod yX5_readStatement, Cond.selects RX5 yX5_readStatement yX5_readStatement, Cond.code yX5_readStatement cX5_readStatement 5 (some .int), Cond.methodLink RX5 44 yX1_at, Cond.instanceMethod yX1_at, Cond.selects RX1 yX1_at yX1_at, Cond.code yX1_at cX1_at 2 (some .char), Cond.fieldLink RX1 9 "EdgeCounterPlacer$GraphText" "characters" "[C", Cond.methodLink RX5 48 yX5_readNumbers, Cond.instanceMethod yX5_readNumbers, Cond.selects RX5 yX5_readNumbers yX5_readNumbers, Cond.code yX5_readNumbers cX5_readNumbers 6 (some .boolean), Cond.fieldLink RX5 11 "EdgeCounterPlacer$TextReader" "numbers" "[I", Cond.methodLink RX5 62 yX5_readNumber, Cond.instanceMethod yX5_readNumber, Cond.selects RX5 yX5_readNumber yX5_readNumber, Cond.code yX5_readNumber cX5_readNumber 5 (some .int), Cond.methodLink RX5 52 yX5_takeBlocks, Cond.instanceMethod yX5_takeBlocks, Cond.selects RX5 yX5_takeBlocks yX5_takeBlocks, Cond.code yX5_takeBlocks cX5_takeBlocks 3 (some .int)]
def wsX6_firstError_r3 : List Cond := [Cond.methodLink RX5 56 yX5_takeEdge, Cond.instanceMethod yX5_takeEdge, Cond.selects RX5 yX5_takeEdge yX5_takeEdge, Cond.code yX5_takeEdge cX5_takeEdge 4 (some .int), Cond.methodLink RX5 66 yX0_hasBlock, Cond.instanceMethod yX0_hasBlock, Cond.selects RX0 yX0_hasBlock yX0_hasBlock, Cond.code yX0_hasBlock cX0_hasBlock 2 (some .boolean), Cond.methodLink RX5 70 yX0_exit, Cond.instanceMethod yX0_exit, Cond.selects RX0 yX0_exit yX0_exit, Cond.code yX0_exit cX0_exit 1 (some .int), Cond.methodLink RX5 73 yX0_isFull, Cond.instanceMethod yX0_isFull, Cond.selects RX0 yX0_isFull yX0_isFull, Cond.code yX0_isFull cX0_isFull 1 (some .boolean), Cond.methodLink RX5 77 yX0_addEdge, Cond.instanceMethod yX0_addEdge, Cond.selects RX0 yX0_addEdge yX0_addEdge, Cond.code yX0_addEdge cX0_addEdge 4 none, Cond.fieldLink RX0 9 "EdgeCounterPlacer$Graph" "source" "[I", Cond.fieldLink RX0 15 "EdgeCounterPlacer$Graph" "target" "[I", Cond.fieldLink RX0 18 "EdgeCounterPlacer$Graph" "statedWeight" "[I", Cond.fieldLink RX0 23 "EdgeCounterPlacer$Graph" "leaving" "[[I"]
def wsX6_firstError_r4 : List Cond := [Cond.methodLink RX0 36 yX0_isFull, Cond.methodLink RX0 40 yX0_hasBlock, Cond.methodLink RX5 59 yX5_takeAbort, Cond.instanceMethod yX5_takeAbort, Cond.selects RX5 yX5_takeAbort yX5_takeAbort, Cond.code yX5_takeAbort cX5_takeAbort 3 (some .int), Cond.static yX6_holds, Cond.initialized RX6, Cond.code yX6_holds cX6_holds 2 (some .boolean), Cond.methodLink RX6 85 yX5_reason, Cond.instanceMethod yX5_reason, Cond.selects RX5 yX5_reason yX5_reason, Cond.code yX5_reason cX5_reason 1 (some .int), Cond.methodLink RX6 88 yX5_errorPlace, Cond.instanceMethod yX5_errorPlace, Cond.selects RX5 yX5_errorPlace yX5_errorPlace, Cond.code yX5_errorPlace cX5_errorPlace 1 (some .int)]
def wsX6_firstError : List Cond := .code yX6_firstError cX6_firstError 1 (some .int) :: ((wsX6_firstError_r1 ++ (wsX6_firstError_r2 ++ (wsX6_firstError_r3 ++ wsX6_firstError_r4))) ++ wsX60 ++ wsX50 ++ wsX00 ++ wsX10)
def wsX6_errorReason_r1 : List Cond := [Cond.fieldLink RX6 19 "EdgeCounterPlacer" "reader" "LEdgeCounterPlacer$TextReader;", Cond.fieldLink RX6 10 "EdgeCounterPlacer" "text" "LEdgeCounterPlacer$GraphText;", Cond.fieldLink RX6 51 "EdgeCounterPlacer" "draft" "LEdgeCounterPlacer$Graph;", Cond.methodLink RX6 81 yX5_read, Cond.instanceMethod yX5_read, Cond.selects RX5 yX5_read yX5_read, Cond.initialized RX5, Cond.code yX5_read cX5_read 4 none, Cond.fieldLink RX5 28 "EdgeCounterPlacer$TextReader" "place" "I", Cond.fieldLink RX5 31 "EdgeCounterPlacer$TextReader" "aborting" "I", Cond.fieldLink RX5 19 "EdgeCounterPlacer$TextReader" "reason" "I", Cond.fieldLink RX5 15 "EdgeCounterPlacer$TextReader" "errorPlace" "I", Cond.methodLink RX5 22 yX0_begin, Cond.instanceMethod yX0_begin, Cond.selects RX0 yX0_begin yX0_begin, Cond.initialized RX0, Cond.code yX0_begin cX0_begin 3 none, Cond.fieldLink RX0 29 "EdgeCounterPlacer$Graph" "blocks" "I", Cond.fieldLink RX0 33 "EdgeCounterPlacer$Graph" "edges" "I", Cond.fieldLink RX0 26 "EdgeCounterPlacer$Graph" "leavingCount" "[I", Cond.methodLink RX5 34 yX1_length, Cond.instanceMethod yX1_length, Cond.selects RX1 yX1_length yX1_length, Cond.initialized RX1]
def wsX6_errorReason_r2 : List Cond := [Cond.code yX1_length cX1_length 1 (some .int), Cond.fieldLink RX1 15 "EdgeCounterPlacer$GraphText" "length" "I", Cond.methodLink RX5 40 yX5_readStatement, Cond.instanceMethod yX5_readStatement, Cond.selects RX5 yX5_readStatement yX5_readStatement, Cond.code yX5_readStatement cX5_readStatement 5 (some .int), Cond.methodLink RX5 44 yX1_at, Cond.instanceMethod yX1_at, Cond.selects RX1 yX1_at yX1_at, Cond.code yX1_at cX1_at 2 (some .char), Cond.fieldLink RX1 9 "EdgeCounterPlacer$GraphText" "characters" "[C", Cond.methodLink RX5 48 yX5_readNumbers, Cond.instanceMethod yX5_readNumbers, Cond.selects RX5 yX5_readNumbers yX5_readNumbers, Cond.code yX5_readNumbers cX5_readNumbers 6 (some .boolean), Cond.fieldLink RX5 11 "EdgeCounterPlacer$TextReader" "numbers" "[I", Cond.methodLink RX5 62 yX5_readNumber, Cond.instanceMethod yX5_readNumber, Cond.selects RX5 yX5_readNumber yX5_readNumber, Cond.code yX5_readNumber cX5_readNumber 5 (some .int), Cond.methodLink RX5 52 yX5_takeBlocks, Cond.instanceMethod yX5_takeBlocks, Cond.selects RX5 yX5_takeBlocks yX5_takeBlocks, Cond.code yX5_takeBlocks cX5_takeBlocks 3 (some .int)]
def wsX6_errorReason_r3 : List Cond := [Cond.methodLink RX5 56 yX5_takeEdge, Cond.instanceMethod yX5_takeEdge, Cond.selects RX5 yX5_takeEdge yX5_takeEdge, Cond.code yX5_takeEdge cX5_takeEdge 4 (some .int), Cond.methodLink RX5 66 yX0_hasBlock, Cond.instanceMethod yX0_hasBlock, Cond.selects RX0 yX0_hasBlock yX0_hasBlock, Cond.code yX0_hasBlock cX0_hasBlock 2 (some .boolean), Cond.methodLink RX5 70 yX0_exit, Cond.instanceMethod yX0_exit, Cond.selects RX0 yX0_exit yX0_exit, Cond.code yX0_exit cX0_exit 1 (some .int), Cond.methodLink RX5 73 yX0_isFull, Cond.instanceMethod yX0_isFull, Cond.selects RX0 yX0_isFull yX0_isFull, Cond.code yX0_isFull cX0_isFull 1 (some .boolean), Cond.methodLink RX5 77 yX0_addEdge, Cond.instanceMethod yX0_addEdge, Cond.selects RX0 yX0_addEdge yX0_addEdge, Cond.code yX0_addEdge cX0_addEdge 4 none, Cond.fieldLink RX0 9 "EdgeCounterPlacer$Graph" "source" "[I", Cond.fieldLink RX0 15 "EdgeCounterPlacer$Graph" "target" "[I", Cond.fieldLink RX0 18 "EdgeCounterPlacer$Graph" "statedWeight" "[I", Cond.fieldLink RX0 23 "EdgeCounterPlacer$Graph" "leaving" "[[I"]
def wsX6_errorReason_r4 : List Cond := [Cond.methodLink RX0 36 yX0_isFull, Cond.methodLink RX0 40 yX0_hasBlock, Cond.methodLink RX5 59 yX5_takeAbort, Cond.instanceMethod yX5_takeAbort, Cond.selects RX5 yX5_takeAbort yX5_takeAbort, Cond.code yX5_takeAbort cX5_takeAbort 3 (some .int), Cond.static yX6_holds, Cond.initialized RX6, Cond.code yX6_holds cX6_holds 2 (some .boolean), Cond.methodLink RX6 85 yX5_reason, Cond.instanceMethod yX5_reason, Cond.selects RX5 yX5_reason yX5_reason, Cond.code yX5_reason cX5_reason 1 (some .int)]
def wsX6_errorReason : List Cond := .code yX6_errorReason cX6_errorReason 1 (some .int) :: ((wsX6_errorReason_r1 ++ (wsX6_errorReason_r2 ++ (wsX6_errorReason_r3 ++ wsX6_errorReason_r4))) ++ wsX60 ++ wsX50 ++ wsX00 ++ wsX10)
def wsX6_setWeight_r1 : List Cond := [Cond.fieldLink RX6 47 "EdgeCounterPlacer" "graph" "LEdgeCounterPlacer$Graph;", Cond.fieldLink RX6 40 "EdgeCounterPlacer" "history" "LEdgeCounterPlacer$History;", Cond.fieldLink RX6 26 "EdgeCounterPlacer" "placement" "LEdgeCounterPlacer$Placement;", Cond.fieldLink RX6 33 "EdgeCounterPlacer" "simulation" "LEdgeCounterPlacer$Simulation;", Cond.methodLink RX6 109 yX0_hasEdge, Cond.instanceMethod yX0_hasEdge, Cond.selects RX0 yX0_hasEdge yX0_hasEdge, Cond.initialized RX0, Cond.code yX0_hasEdge cX0_hasEdge 2 (some .boolean), Cond.fieldLink RX0 33 "EdgeCounterPlacer$Graph" "edges" "I", Cond.methodLink RX6 113 yX2_remember, Cond.instanceMethod yX2_remember, Cond.selects RX2 yX2_remember yX2_remember, Cond.initialized RX2, Cond.code yX2_remember cX2_remember 3 none, Cond.fieldLink RX2 29 "EdgeCounterPlacer$History" "newest" "I", Cond.fieldLink RX2 11 "EdgeCounterPlacer$History" "placements" "[LEdgeCounterPlacer$Placement;", Cond.fieldLink RX2 19 "EdgeCounterPlacer$History" "simulations" "[LEdgeCounterPlacer$Simulation;", Cond.fieldLink RX2 25 "EdgeCounterPlacer$History" "size" "I", Cond.methodLink RX2 39 Lib.Math.min.name, Cond.static Lib.Math.min.name, Cond.initialized "java/lang/Math", Cond.code Lib.Math.min.name Lib.Math.min.code 2 (some .int), Cond.methodLink RX2 32 yX3_copyFrom]
def wsX6_setWeight_r2 : List Cond := [Cond.instanceMethod yX3_copyFrom, Cond.selects RX3 yX3_copyFrom yX3_copyFrom, Cond.initialized RX3, Cond.code yX3_copyFrom cX3_copyFrom 3 none, Cond.fieldLink RX3 9 "EdgeCounterPlacer$Placement" "weight" "[I", Cond.fieldLink RX3 15 "EdgeCounterPlacer$Placement" "sourceSide" "[I", Cond.fieldLink RX3 28 "EdgeCounterPlacer$Placement" "tree" "I", Cond.methodLink RX2 36 yX4_copyFrom, Cond.instanceMethod yX4_copyFrom, Cond.selects RX4 yX4_copyFrom yX4_copyFrom, Cond.initialized RX4, Cond.code yX4_copyFrom cX4_copyFrom 3 none, Cond.fieldLink RX4 9 "EdgeCounterPlacer$Simulation" "counterValue" "[I", Cond.fieldLink RX4 15 "EdgeCounterPlacer$Simulation" "passes" "[I", Cond.fieldLink RX4 19 "EdgeCounterPlacer$Simulation" "limit" "I", Cond.fieldLink RX4 26 "EdgeCounterPlacer$Simulation" "present" "I", Cond.fieldLink RX4 29 "EdgeCounterPlacer$Simulation" "finished" "I", Cond.methodLink RX6 117 yX3_weight, Cond.instanceMethod yX3_weight, Cond.selects RX3 yX3_weight yX3_weight, Cond.code yX3_weight cX3_weight 2 (some .int), Cond.methodLink RX6 121 yX3_putWeight, Cond.instanceMethod yX3_putWeight, Cond.selects RX3 yX3_putWeight yX3_putWeight]
def wsX6_setWeight_r3 : List Cond := [Cond.code yX3_putWeight cX3_putWeight 3 none, Cond.methodLink RX6 125 yX3_findTree, Cond.instanceMethod yX3_findTree, Cond.selects RX3 yX3_findTree yX3_findTree, Cond.code yX3_findTree cX3_findTree 5 none, Cond.methodLink RX3 36 yX0_edges, Cond.instanceMethod yX0_edges, Cond.selects RX0 yX0_edges yX0_edges, Cond.code yX0_edges cX0_edges 1 (some .int), Cond.methodLink RX3 40 yX3_heaviestEdge, Cond.instanceMethod yX3_heaviestEdge, Cond.selects RX3 yX3_heaviestEdge yX3_heaviestEdge, Cond.code yX3_heaviestEdge cX3_heaviestEdge 6 (some .int), Cond.static yX6_holds, Cond.initialized RX6, Cond.code yX6_holds cX6_holds 2 (some .boolean), Cond.methodLink RX3 56 yX3_weight, Cond.methodLink RX3 44 yX0_source, Cond.instanceMethod yX0_source, Cond.selects RX0 yX0_source yX0_source, Cond.code yX0_source cX0_source 2 (some .int), Cond.fieldLink RX0 9 "EdgeCounterPlacer$Graph" "source" "[I", Cond.methodLink RX0 44 yX0_hasEdge, Cond.methodLink RX3 47 yX0_reach]
def wsX6_setWeight_r4 : List Cond := [Cond.instanceMethod yX0_reach, Cond.selects RX0 yX0_reach yX0_reach, Cond.code yX0_reach cX0_reach 7 (some .int), Cond.fieldLink RX0 29 "EdgeCounterPlacer$Graph" "blocks" "I", Cond.methodLink RX0 50 yX0_exit, Cond.instanceMethod yX0_exit, Cond.selects RX0 yX0_exit yX0_exit, Cond.code yX0_exit cX0_exit 1 (some .int), Cond.methodLink RX0 58 yX0_spread, Cond.instanceMethod yX0_spread, Cond.selects RX0 yX0_spread yX0_spread, Cond.code yX0_spread cX0_spread 3 (some .int), Cond.methodLink RX0 65 yX0_source, Cond.methodLink RX0 67 yX0_target, Cond.instanceMethod yX0_target, Cond.selects RX0 yX0_target yX0_target, Cond.code yX0_target cX0_target 2 (some .int), Cond.fieldLink RX0 15 "EdgeCounterPlacer$Graph" "target" "[I", Cond.methodLink RX3 50 yX0_target, Cond.methodLink RX3 53 yX3_findSides, Cond.instanceMethod yX3_findSides, Cond.selects RX3 yX3_findSides yX3_findSides, Cond.code yX3_findSides cX3_findSides 3 none, Cond.methodLink RX3 58 yX3_isInTree]
def wsX6_setWeight_r5 : List Cond := [Cond.instanceMethod yX3_isInTree, Cond.selects RX3 yX3_isInTree yX3_isInTree, Cond.code yX3_isInTree cX3_isInTree 2 (some .boolean), Cond.methodLink RX6 128 yX4_restart, Cond.instanceMethod yX4_restart, Cond.selects RX4 yX4_restart yX4_restart, Cond.code yX4_restart cX4_restart 2 none]
def wsX6_setWeight : List Cond := .code yX6_setWeight cX6_setWeight 4 (some .int) :: ((wsX6_setWeight_r1 ++ (wsX6_setWeight_r2 ++ (wsX6_setWeight_r3 ++ (wsX6_setWeight_r4 ++ wsX6_setWeight_r5)))) ++ wsX60 ++ wsX00 ++ wsX20 ++ wsX30 ++ wsX40)
def wsX6_setCounterLimit_r1 : List Cond := [Cond.constant RX6 131 (60000), Cond.fieldLink RX6 40 "EdgeCounterPlacer" "history" "LEdgeCounterPlacer$History;", Cond.fieldLink RX6 26 "EdgeCounterPlacer" "placement" "LEdgeCounterPlacer$Placement;", Cond.fieldLink RX6 33 "EdgeCounterPlacer" "simulation" "LEdgeCounterPlacer$Simulation;", Cond.methodLink RX6 113 yX2_remember, Cond.instanceMethod yX2_remember, Cond.selects RX2 yX2_remember yX2_remember, Cond.initialized RX2, Cond.code yX2_remember cX2_remember 3 none, Cond.fieldLink RX2 29 "EdgeCounterPlacer$History" "newest" "I", Cond.fieldLink RX2 11 "EdgeCounterPlacer$History" "placements" "[LEdgeCounterPlacer$Placement;", Cond.fieldLink RX2 19 "EdgeCounterPlacer$History" "simulations" "[LEdgeCounterPlacer$Simulation;", Cond.fieldLink RX2 25 "EdgeCounterPlacer$History" "size" "I", Cond.methodLink RX2 39 Lib.Math.min.name, Cond.static Lib.Math.min.name, Cond.initialized "java/lang/Math", Cond.code Lib.Math.min.name Lib.Math.min.code 2 (some .int), Cond.methodLink RX2 32 yX3_copyFrom, Cond.instanceMethod yX3_copyFrom, Cond.selects RX3 yX3_copyFrom yX3_copyFrom, Cond.initialized RX3, Cond.code yX3_copyFrom cX3_copyFrom 3 none, Cond.fieldLink RX3 9 "EdgeCounterPlacer$Placement" "weight" "[I", Cond.fieldLink RX3 15 "EdgeCounterPlacer$Placement" "sourceSide" "[I"]
def wsX6_setCounterLimit_r2 : List Cond := [Cond.fieldLink RX3 28 "EdgeCounterPlacer$Placement" "tree" "I", Cond.methodLink RX2 36 yX4_copyFrom, Cond.instanceMethod yX4_copyFrom, Cond.selects RX4 yX4_copyFrom yX4_copyFrom, Cond.initialized RX4, Cond.code yX4_copyFrom cX4_copyFrom 3 none, Cond.fieldLink RX4 9 "EdgeCounterPlacer$Simulation" "counterValue" "[I", Cond.fieldLink RX4 15 "EdgeCounterPlacer$Simulation" "passes" "[I", Cond.fieldLink RX4 19 "EdgeCounterPlacer$Simulation" "limit" "I", Cond.fieldLink RX4 26 "EdgeCounterPlacer$Simulation" "present" "I", Cond.fieldLink RX4 29 "EdgeCounterPlacer$Simulation" "finished" "I", Cond.methodLink RX6 132 yX4_limit, Cond.instanceMethod yX4_limit, Cond.selects RX4 yX4_limit yX4_limit, Cond.code yX4_limit cX4_limit 1 (some .int), Cond.methodLink RX6 135 yX4_putLimit, Cond.instanceMethod yX4_putLimit, Cond.selects RX4 yX4_putLimit yX4_putLimit, Cond.code yX4_putLimit cX4_putLimit 2 none, Cond.methodLink RX6 128 yX4_restart, Cond.instanceMethod yX4_restart, Cond.selects RX4 yX4_restart yX4_restart, Cond.code yX4_restart cX4_restart 2 none]
def wsX6_setCounterLimit : List Cond := .code yX6_setCounterLimit cX6_setCounterLimit 3 (some .int) :: ((wsX6_setCounterLimit_r1 ++ wsX6_setCounterLimit_r2) ++ wsX60 ++ wsX20 ++ wsX30 ++ wsX40)
def wsX6_follow_r1 : List Cond := [Cond.fieldLink RX6 47 "EdgeCounterPlacer" "graph" "LEdgeCounterPlacer$Graph;", Cond.fieldLink RX6 33 "EdgeCounterPlacer" "simulation" "LEdgeCounterPlacer$Simulation;", Cond.fieldLink RX6 40 "EdgeCounterPlacer" "history" "LEdgeCounterPlacer$History;", Cond.fieldLink RX6 26 "EdgeCounterPlacer" "placement" "LEdgeCounterPlacer$Placement;", Cond.methodLink RX6 109 yX0_hasEdge, Cond.instanceMethod yX0_hasEdge, Cond.selects RX0 yX0_hasEdge yX0_hasEdge, Cond.initialized RX0, Cond.code yX0_hasEdge cX0_hasEdge 2 (some .boolean), Cond.fieldLink RX0 33 "EdgeCounterPlacer$Graph" "edges" "I", Cond.methodLink RX6 139 yX0_source, Cond.instanceMethod yX0_source, Cond.selects RX0 yX0_source yX0_source, Cond.code yX0_source cX0_source 2 (some .int), Cond.fieldLink RX0 9 "EdgeCounterPlacer$Graph" "source" "[I", Cond.methodLink RX0 44 yX0_hasEdge, Cond.methodLink RX6 142 yX4_present, Cond.instanceMethod yX4_present, Cond.selects RX4 yX4_present yX4_present, Cond.initialized RX4, Cond.code yX4_present cX4_present 1 (some .int), Cond.fieldLink RX4 26 "EdgeCounterPlacer$Simulation" "present" "I", Cond.methodLink RX6 113 yX2_remember, Cond.instanceMethod yX2_remember]
def wsX6_follow_r2 : List Cond := [Cond.selects RX2 yX2_remember yX2_remember, Cond.initialized RX2, Cond.code yX2_remember cX2_remember 3 none, Cond.fieldLink RX2 29 "EdgeCounterPlacer$History" "newest" "I", Cond.fieldLink RX2 11 "EdgeCounterPlacer$History" "placements" "[LEdgeCounterPlacer$Placement;", Cond.fieldLink RX2 19 "EdgeCounterPlacer$History" "simulations" "[LEdgeCounterPlacer$Simulation;", Cond.fieldLink RX2 25 "EdgeCounterPlacer$History" "size" "I", Cond.methodLink RX2 39 Lib.Math.min.name, Cond.static Lib.Math.min.name, Cond.initialized "java/lang/Math", Cond.code Lib.Math.min.name Lib.Math.min.code 2 (some .int), Cond.methodLink RX2 32 yX3_copyFrom, Cond.instanceMethod yX3_copyFrom, Cond.selects RX3 yX3_copyFrom yX3_copyFrom, Cond.initialized RX3, Cond.code yX3_copyFrom cX3_copyFrom 3 none, Cond.fieldLink RX3 9 "EdgeCounterPlacer$Placement" "weight" "[I", Cond.fieldLink RX3 15 "EdgeCounterPlacer$Placement" "sourceSide" "[I", Cond.fieldLink RX3 28 "EdgeCounterPlacer$Placement" "tree" "I", Cond.methodLink RX2 36 yX4_copyFrom, Cond.instanceMethod yX4_copyFrom, Cond.selects RX4 yX4_copyFrom yX4_copyFrom, Cond.code yX4_copyFrom cX4_copyFrom 3 none, Cond.fieldLink RX4 9 "EdgeCounterPlacer$Simulation" "counterValue" "[I"]
def wsX6_follow_r3 : List Cond := [Cond.fieldLink RX4 15 "EdgeCounterPlacer$Simulation" "passes" "[I", Cond.fieldLink RX4 19 "EdgeCounterPlacer$Simulation" "limit" "I", Cond.fieldLink RX4 29 "EdgeCounterPlacer$Simulation" "finished" "I", Cond.methodLink RX6 145 yX4_pass, Cond.instanceMethod yX4_pass, Cond.selects RX4 yX4_pass yX4_pass, Cond.code yX4_pass cX4_pass 4 none, Cond.methodLink RX4 35 yX0_hasEdge, Cond.methodLink RX4 41 yX3_isInTree, Cond.instanceMethod yX3_isInTree, Cond.selects RX3 yX3_isInTree yX3_isInTree, Cond.code yX3_isInTree cX3_isInTree 2 (some .boolean), Cond.static yX6_holds, Cond.initialized RX6, Cond.code yX6_holds cX6_holds 2 (some .boolean), Cond.methodLink RX4 46 yX4_isAtLimit, Cond.instanceMethod yX4_isAtLimit, Cond.selects RX4 yX4_isAtLimit yX4_isAtLimit, Cond.code yX4_isAtLimit cX4_isAtLimit 2 (some .boolean), Cond.methodLink RX4 32 yX4_counterValue, Cond.instanceMethod yX4_counterValue, Cond.selects RX4 yX4_counterValue yX4_counterValue, Cond.code yX4_counterValue cX4_counterValue 2 (some .int), Cond.methodLink RX4 49 yX0_target]
def wsX6_follow_r4 : List Cond := [Cond.instanceMethod yX0_target, Cond.selects RX0 yX0_target yX0_target, Cond.code yX0_target cX0_target 2 (some .int), Cond.fieldLink RX0 15 "EdgeCounterPlacer$Graph" "target" "[I", Cond.methodLink RX4 52 yX0_exit, Cond.instanceMethod yX0_exit, Cond.selects RX0 yX0_exit yX0_exit, Cond.code yX0_exit cX0_exit 1 (some .int), Cond.fieldLink RX0 29 "EdgeCounterPlacer$Graph" "blocks" "I"]
def wsX6_follow : List Cond := .code yX6_follow cX6_follow 2 (some .int) :: ((wsX6_follow_r1 ++ (wsX6_follow_r2 ++ (wsX6_follow_r3 ++ wsX6_follow_r4))) ++ wsX60 ++ wsX00 ++ wsX40 ++ wsX20 ++ wsX30)
def wsX6_chosenEdge_r1 : List Cond := [Cond.constantLong RX6 210 (7919), Cond.constantLong RX6 212 (6151), Cond.constantLong RX6 214 (65521), Cond.fieldLink RX6 47 "EdgeCounterPlacer" "graph" "LEdgeCounterPlacer$Graph;", Cond.fieldLink RX6 33 "EdgeCounterPlacer" "simulation" "LEdgeCounterPlacer$Simulation;", Cond.methodLink RX6 142 yX4_present, Cond.instanceMethod yX4_present, Cond.selects RX4 yX4_present yX4_present, Cond.initialized RX4, Cond.code yX4_present cX4_present 1 (some .int), Cond.fieldLink RX4 26 "EdgeCounterPlacer$Simulation" "present" "I", Cond.methodLink RX6 216 yX0_leavingCount, Cond.instanceMethod yX0_leavingCount, Cond.selects RX0 yX0_leavingCount yX0_leavingCount, Cond.initialized RX0, Cond.code yX0_leavingCount cX0_leavingCount 2 (some .int), Cond.fieldLink RX0 26 "EdgeCounterPlacer$Graph" "leavingCount" "[I", Cond.methodLink RX0 40 yX0_hasBlock, Cond.instanceMethod yX0_hasBlock, Cond.selects RX0 yX0_hasBlock yX0_hasBlock, Cond.code yX0_hasBlock cX0_hasBlock 2 (some .boolean), Cond.fieldLink RX0 29 "EdgeCounterPlacer$Graph" "blocks" "I", Cond.methodLink RX6 219 yX0_leavingEdge, Cond.instanceMethod yX0_leavingEdge]
def wsX6_chosenEdge_r2 : List Cond := [Cond.selects RX0 yX0_leavingEdge yX0_leavingEdge, Cond.code yX0_leavingEdge cX0_leavingEdge 3 (some .int), Cond.fieldLink RX0 23 "EdgeCounterPlacer$Graph" "leaving" "[[I", Cond.methodLink RX0 47 yX0_leavingCount]
def wsX6_chosenEdge : List Cond := .code yX6_chosenEdge cX6_chosenEdge 8 (some .int) :: ((wsX6_chosenEdge_r1 ++ wsX6_chosenEdge_r2) ++ wsX60 ++ wsX40 ++ wsX00)
def wsX6_drive_r1 : List Cond := [Cond.fieldLink RX6 40 "EdgeCounterPlacer" "history" "LEdgeCounterPlacer$History;", Cond.fieldLink RX6 26 "EdgeCounterPlacer" "placement" "LEdgeCounterPlacer$Placement;", Cond.fieldLink RX6 33 "EdgeCounterPlacer" "simulation" "LEdgeCounterPlacer$Simulation;", Cond.fieldLink RX6 47 "EdgeCounterPlacer" "graph" "LEdgeCounterPlacer$Graph;", Cond.methodLink RX6 113 yX2_remember, Cond.instanceMethod yX2_remember, Cond.selects RX2 yX2_remember yX2_remember, Cond.initialized RX2, Cond.code yX2_remember cX2_remember 3 none, Cond.fieldLink RX2 29 "EdgeCounterPlacer$History" "newest" "I", Cond.fieldLink RX2 11 "EdgeCounterPlacer$History" "placements" "[LEdgeCounterPlacer$Placement;", Cond.fieldLink RX2 19 "EdgeCounterPlacer$History" "simulations" "[LEdgeCounterPlacer$Simulation;", Cond.fieldLink RX2 25 "EdgeCounterPlacer$History" "size" "I", Cond.methodLink RX2 39 Lib.Math.min.name, Cond.static Lib.Math.min.name, Cond.initialized "java/lang/Math", Cond.code Lib.Math.min.name Lib.Math.min.code 2 (some .int), Cond.methodLink RX2 32 yX3_copyFrom, Cond.instanceMethod yX3_copyFrom, Cond.selects RX3 yX3_copyFrom yX3_copyFrom, Cond.initialized RX3, Cond.code yX3_copyFrom cX3_copyFrom 3 none, Cond.fieldLink RX3 9 "EdgeCounterPlacer$Placement" "weight" "[I", Cond.fieldLink RX3 15 "EdgeCounterPlacer$Placement" "sourceSide" "[I"]
def wsX6_drive_r2 : List Cond := [Cond.fieldLink RX3 28 "EdgeCounterPlacer$Placement" "tree" "I", Cond.methodLink RX2 36 yX4_copyFrom, Cond.instanceMethod yX4_copyFrom, Cond.selects RX4 yX4_copyFrom yX4_copyFrom, Cond.initialized RX4, Cond.code yX4_copyFrom cX4_copyFrom 3 none, Cond.fieldLink RX4 9 "EdgeCounterPlacer$Simulation" "counterValue" "[I", Cond.fieldLink RX4 15 "EdgeCounterPlacer$Simulation" "passes" "[I", Cond.fieldLink RX4 19 "EdgeCounterPlacer$Simulation" "limit" "I", Cond.fieldLink RX4 26 "EdgeCounterPlacer$Simulation" "present" "I", Cond.fieldLink RX4 29 "EdgeCounterPlacer$Simulation" "finished" "I", Cond.methodLink RX6 149 yX4_finished, Cond.instanceMethod yX4_finished, Cond.selects RX4 yX4_finished yX4_finished, Cond.code yX4_finished cX4_finished 1 (some .int), Cond.methodLink RX6 152 yX6_chosenEdge, Cond.instanceMethod yX6_chosenEdge, Cond.selects RX6 yX6_chosenEdge yX6_chosenEdge, Cond.initialized RX6, Cond.code yX6_chosenEdge cX6_chosenEdge 8 (some .int), Cond.constantLong RX6 210 (7919), Cond.constantLong RX6 212 (6151), Cond.constantLong RX6 214 (65521), Cond.methodLink RX6 142 yX4_present]
def wsX6_drive_r3 : List Cond := [Cond.instanceMethod yX4_present, Cond.selects RX4 yX4_present yX4_present, Cond.code yX4_present cX4_present 1 (some .int), Cond.methodLink RX6 216 yX0_leavingCount, Cond.instanceMethod yX0_leavingCount, Cond.selects RX0 yX0_leavingCount yX0_leavingCount, Cond.initialized RX0, Cond.code yX0_leavingCount cX0_leavingCount 2 (some .int), Cond.fieldLink RX0 26 "EdgeCounterPlacer$Graph" "leavingCount" "[I", Cond.methodLink RX0 40 yX0_hasBlock, Cond.instanceMethod yX0_hasBlock, Cond.selects RX0 yX0_hasBlock yX0_hasBlock, Cond.code yX0_hasBlock cX0_hasBlock 2 (some .boolean), Cond.fieldLink RX0 29 "EdgeCounterPlacer$Graph" "blocks" "I", Cond.methodLink RX6 219 yX0_leavingEdge, Cond.instanceMethod yX0_leavingEdge, Cond.selects RX0 yX0_leavingEdge yX0_leavingEdge, Cond.code yX0_leavingEdge cX0_leavingEdge 3 (some .int), Cond.fieldLink RX0 23 "EdgeCounterPlacer$Graph" "leaving" "[[I", Cond.methodLink RX0 47 yX0_leavingCount, Cond.methodLink RX6 145 yX4_pass, Cond.instanceMethod yX4_pass, Cond.selects RX4 yX4_pass yX4_pass, Cond.code yX4_pass cX4_pass 4 none]
def wsX6_drive_r4 : List Cond := [Cond.methodLink RX4 35 yX0_hasEdge, Cond.instanceMethod yX0_hasEdge, Cond.selects RX0 yX0_hasEdge yX0_hasEdge, Cond.code yX0_hasEdge cX0_hasEdge 2 (some .boolean), Cond.fieldLink RX0 33 "EdgeCounterPlacer$Graph" "edges" "I", Cond.methodLink RX4 41 yX3_isInTree, Cond.instanceMethod yX3_isInTree, Cond.selects RX3 yX3_isInTree yX3_isInTree, Cond.code yX3_isInTree cX3_isInTree 2 (some .boolean), Cond.static yX6_holds, Cond.code yX6_holds cX6_holds 2 (some .boolean), Cond.methodLink RX4 46 yX4_isAtLimit, Cond.instanceMethod yX4_isAtLimit, Cond.selects RX4 yX4_isAtLimit yX4_isAtLimit, Cond.code yX4_isAtLimit cX4_isAtLimit 2 (some .boolean), Cond.methodLink RX4 32 yX4_counterValue, Cond.instanceMethod yX4_counterValue, Cond.selects RX4 yX4_counterValue yX4_counterValue, Cond.code yX4_counterValue cX4_counterValue 2 (some .int), Cond.methodLink RX4 49 yX0_target, Cond.instanceMethod yX0_target, Cond.selects RX0 yX0_target yX0_target, Cond.code yX0_target cX0_target 2 (some .int), Cond.fieldLink RX0 15 "EdgeCounterPlacer$Graph" "target" "[I"]
def wsX6_drive_r5 : List Cond := [Cond.methodLink RX0 44 yX0_hasEdge, Cond.methodLink RX4 52 yX0_exit, Cond.instanceMethod yX0_exit, Cond.selects RX0 yX0_exit yX0_exit, Cond.code yX0_exit cX0_exit 1 (some .int)]
def wsX6_drive : List Cond := .code yX6_drive cX6_drive 5 (some .int) :: ((wsX6_drive_r1 ++ (wsX6_drive_r2 ++ (wsX6_drive_r3 ++ (wsX6_drive_r4 ++ wsX6_drive_r5)))) ++ wsX60 ++ wsX20 ++ wsX30 ++ wsX40 ++ wsX00)
def wsX6_isSaturatedChord : List Cond := .code yX6_isSaturatedChord cX6_isSaturatedChord 2 (some .boolean) :: ([.fieldLink RX6 26 "EdgeCounterPlacer" "placement" "LEdgeCounterPlacer$Placement;", .fieldLink RX6 33 "EdgeCounterPlacer" "simulation" "LEdgeCounterPlacer$Simulation;", .methodLink RX6 182 yX3_isInTree, .instanceMethod yX3_isInTree, .selects RX3 yX3_isInTree yX3_isInTree, .initialized RX3, .code yX3_isInTree cX3_isInTree 2 (some .boolean), .fieldLink RX3 28 "EdgeCounterPlacer$Placement" "tree" "I", .static yX6_holds, .initialized RX6, .code yX6_holds cX6_holds 2 (some .boolean), .methodLink RX6 226 yX4_isAtLimit, .instanceMethod yX4_isAtLimit, .selects RX4 yX4_isAtLimit yX4_isAtLimit, .initialized RX4, .code yX4_isAtLimit cX4_isAtLimit 2 (some .boolean), .fieldLink RX4 19 "EdgeCounterPlacer$Simulation" "limit" "I", .methodLink RX4 32 yX4_counterValue, .instanceMethod yX4_counterValue, .selects RX4 yX4_counterValue yX4_counterValue, .code yX4_counterValue cX4_counterValue 2 (some .int), .fieldLink RX4 9 "EdgeCounterPlacer$Simulation" "counterValue" "[I"] ++ wsX60 ++ wsX30 ++ wsX40)
def wsX6_factorOfChord_r1 : List Cond := [Cond.fieldLink RX6 26 "EdgeCounterPlacer" "placement" "LEdgeCounterPlacer$Placement;", Cond.fieldLink RX6 47 "EdgeCounterPlacer" "graph" "LEdgeCounterPlacer$Graph;", Cond.methodLink RX6 139 yX0_source, Cond.instanceMethod yX0_source, Cond.selects RX0 yX0_source yX0_source, Cond.initialized RX0, Cond.code yX0_source cX0_source 2 (some .int), Cond.fieldLink RX0 9 "EdgeCounterPlacer$Graph" "source" "[I", Cond.methodLink RX0 44 yX0_hasEdge, Cond.instanceMethod yX0_hasEdge, Cond.selects RX0 yX0_hasEdge yX0_hasEdge, Cond.code yX0_hasEdge cX0_hasEdge 2 (some .boolean), Cond.fieldLink RX0 33 "EdgeCounterPlacer$Graph" "edges" "I", Cond.methodLink RX6 179 yX0_target, Cond.instanceMethod yX0_target, Cond.selects RX0 yX0_target yX0_target, Cond.code yX0_target cX0_target 2 (some .int), Cond.fieldLink RX0 15 "EdgeCounterPlacer$Graph" "target" "[I", Cond.methodLink RX6 222 yX3_factor, Cond.instanceMethod yX3_factor, Cond.selects RX3 yX3_factor yX3_factor, Cond.initialized RX3, Cond.code yX3_factor cX3_factor 6 (some .int), Cond.fieldLink RX3 15 "EdgeCounterPlacer$Placement" "sourceSide" "[I"]
def wsX6_factorOfChord_r2 : List Cond := [Cond.static yX6_holds, Cond.initialized RX6, Cond.code yX6_holds cX6_holds 2 (some .boolean)]
def wsX6_factorOfChord : List Cond := .code yX6_factorOfChord cX6_factorOfChord 3 (some .int) :: ((wsX6_factorOfChord_r1 ++ wsX6_factorOfChord_r2) ++ wsX60 ++ wsX00 ++ wsX30)
def wsX6_isUncertain_r1 : List Cond := [Cond.fieldLink RX6 26 "EdgeCounterPlacer" "placement" "LEdgeCounterPlacer$Placement;", Cond.fieldLink RX6 47 "EdgeCounterPlacer" "graph" "LEdgeCounterPlacer$Graph;", Cond.methodLink RX6 182 yX3_isInTree, Cond.instanceMethod yX3_isInTree, Cond.selects RX3 yX3_isInTree yX3_isInTree, Cond.initialized RX3, Cond.code yX3_isInTree cX3_isInTree 2 (some .boolean), Cond.fieldLink RX3 28 "EdgeCounterPlacer$Placement" "tree" "I", Cond.static yX6_holds, Cond.initialized RX6, Cond.code yX6_holds cX6_holds 2 (some .boolean), Cond.methodLink RX6 207 yX6_isSaturatedChord, Cond.instanceMethod yX6_isSaturatedChord, Cond.selects RX6 yX6_isSaturatedChord yX6_isSaturatedChord, Cond.code yX6_isSaturatedChord cX6_isSaturatedChord 2 (some .boolean), Cond.fieldLink RX6 33 "EdgeCounterPlacer" "simulation" "LEdgeCounterPlacer$Simulation;", Cond.methodLink RX6 226 yX4_isAtLimit, Cond.instanceMethod yX4_isAtLimit, Cond.selects RX4 yX4_isAtLimit yX4_isAtLimit, Cond.initialized RX4, Cond.code yX4_isAtLimit cX4_isAtLimit 2 (some .boolean), Cond.fieldLink RX4 19 "EdgeCounterPlacer$Simulation" "limit" "I", Cond.methodLink RX4 32 yX4_counterValue, Cond.instanceMethod yX4_counterValue]
def wsX6_isUncertain_r2 : List Cond := [Cond.selects RX4 yX4_counterValue yX4_counterValue, Cond.code yX4_counterValue cX4_counterValue 2 (some .int), Cond.fieldLink RX4 9 "EdgeCounterPlacer$Simulation" "counterValue" "[I", Cond.methodLink RX6 106 yX0_edges, Cond.instanceMethod yX0_edges, Cond.selects RX0 yX0_edges yX0_edges, Cond.initialized RX0, Cond.code yX0_edges cX0_edges 1 (some .int), Cond.fieldLink RX0 33 "EdgeCounterPlacer$Graph" "edges" "I", Cond.methodLink RX6 201 yX6_factorOfChord, Cond.instanceMethod yX6_factorOfChord, Cond.selects RX6 yX6_factorOfChord yX6_factorOfChord, Cond.code yX6_factorOfChord cX6_factorOfChord 3 (some .int), Cond.methodLink RX6 139 yX0_source, Cond.instanceMethod yX0_source, Cond.selects RX0 yX0_source yX0_source, Cond.code yX0_source cX0_source 2 (some .int), Cond.fieldLink RX0 9 "EdgeCounterPlacer$Graph" "source" "[I", Cond.methodLink RX0 44 yX0_hasEdge, Cond.instanceMethod yX0_hasEdge, Cond.selects RX0 yX0_hasEdge yX0_hasEdge, Cond.code yX0_hasEdge cX0_hasEdge 2 (some .boolean), Cond.methodLink RX6 179 yX0_target, Cond.instanceMethod yX0_target]
def wsX6_isUncertain_r3 : List Cond := [Cond.selects RX0 yX0_target yX0_target, Cond.code yX0_target cX0_target 2 (some .int), Cond.fieldLink RX0 15 "EdgeCounterPlacer$Graph" "target" "[I", Cond.methodLink RX6 222 yX3_factor, Cond.instanceMethod yX3_factor, Cond.selects RX3 yX3_factor yX3_factor, Cond.code yX3_factor cX3_factor 6 (some .int), Cond.fieldLink RX3 15 "EdgeCounterPlacer$Placement" "sourceSide" "[I"]
def wsX6_isUncertain : List Cond := .code yX6_isUncertain cX6_isUncertain 3 (some .boolean) :: ((wsX6_isUncertain_r1 ++ (wsX6_isUncertain_r2 ++ wsX6_isUncertain_r3)) ++ wsX60 ++ wsX30 ++ wsX40 ++ wsX00)
def wsX6_anyIsUncertain_r1 : List Cond := [Cond.fieldLink RX6 47 "EdgeCounterPlacer" "graph" "LEdgeCounterPlacer$Graph;", Cond.methodLink RX6 106 yX0_edges, Cond.instanceMethod yX0_edges, Cond.selects RX0 yX0_edges yX0_edges, Cond.initialized RX0, Cond.code yX0_edges cX0_edges 1 (some .int), Cond.fieldLink RX0 33 "EdgeCounterPlacer$Graph" "edges" "I", Cond.methodLink RX6 198 yX6_isUncertain, Cond.instanceMethod yX6_isUncertain, Cond.selects RX6 yX6_isUncertain yX6_isUncertain, Cond.initialized RX6, Cond.code yX6_isUncertain cX6_isUncertain 3 (some .boolean), Cond.fieldLink RX6 26 "EdgeCounterPlacer" "placement" "LEdgeCounterPlacer$Placement;", Cond.methodLink RX6 182 yX3_isInTree, Cond.instanceMethod yX3_isInTree, Cond.selects RX3 yX3_isInTree yX3_isInTree, Cond.initialized RX3, Cond.code yX3_isInTree cX3_isInTree 2 (some .boolean), Cond.fieldLink RX3 28 "EdgeCounterPlacer$Placement" "tree" "I", Cond.static yX6_holds, Cond.code yX6_holds cX6_holds 2 (some .boolean), Cond.methodLink RX6 207 yX6_isSaturatedChord, Cond.instanceMethod yX6_isSaturatedChord, Cond.selects RX6 yX6_isSaturatedChord yX6_isSaturatedChord]
def wsX6_anyIsUncertain_r2 : List Cond := [Cond.code yX6_isSaturatedChord cX6_isSaturatedChord 2 (some .boolean), Cond.fieldLink RX6 33 "EdgeCounterPlacer" "simulation" "LEdgeCounterPlacer$Simulation;", Cond.methodLink RX6 226 yX4_isAtLimit, Cond.instanceMethod yX4_isAtLimit, Cond.selects RX4 yX4_isAtLimit yX4_isAtLimit, Cond.initialized RX4, Cond.code yX4_isAtLimit cX4_isAtLimit 2 (some .boolean), Cond.fieldLink RX4 19 "EdgeCounterPlacer$Simulation" "limit" "I", Cond.methodLink RX4 32 yX4_counterValue, Cond.instanceMethod yX4_counterValue, Cond.selects RX4 yX4_counterValue yX4_counterValue, Cond.code yX4_counterValue cX4_counterValue 2 (some .int), Cond.fieldLink RX4 9 "EdgeCounterPlacer$Simulation" "counterValue" "[I", Cond.methodLink RX6 201 yX6_factorOfChord, Cond.instanceMethod yX6_factorOfChord, Cond.selects RX6 yX6_factorOfChord yX6_factorOfChord, Cond.code yX6_factorOfChord cX6_factorOfChord 3 (some .int), Cond.methodLink RX6 139 yX0_source, Cond.instanceMethod yX0_source, Cond.selects RX0 yX0_source yX0_source, Cond.code yX0_source cX0_source 2 (some .int), Cond.fieldLink RX0 9 "EdgeCounterPlacer$Graph" "source" "[I", Cond.methodLink RX0 44 yX0_hasEdge, Cond.instanceMethod yX0_hasEdge]
def wsX6_anyIsUncertain_r3 : List Cond := [Cond.selects RX0 yX0_hasEdge yX0_hasEdge, Cond.code yX0_hasEdge cX0_hasEdge 2 (some .boolean), Cond.methodLink RX6 179 yX0_target, Cond.instanceMethod yX0_target, Cond.selects RX0 yX0_target yX0_target, Cond.code yX0_target cX0_target 2 (some .int), Cond.fieldLink RX0 15 "EdgeCounterPlacer$Graph" "target" "[I", Cond.methodLink RX6 222 yX3_factor, Cond.instanceMethod yX3_factor, Cond.selects RX3 yX3_factor yX3_factor, Cond.code yX3_factor cX3_factor 6 (some .int), Cond.fieldLink RX3 15 "EdgeCounterPlacer$Placement" "sourceSide" "[I"]
def wsX6_anyIsUncertain : List Cond := .code yX6_anyIsUncertain cX6_anyIsUncertain 2 (some .boolean) :: ((wsX6_anyIsUncertain_r1 ++ (wsX6_anyIsUncertain_r2 ++ wsX6_anyIsUncertain_r3)) ++ wsX60 ++ wsX00 ++ wsX30 ++ wsX40)
def wsX6_openEdgeShare : List Cond := .code yX6_openEdgeShare cX6_openEdgeShare 2 (some .int) :: ([.fieldLink RX6 33 "EdgeCounterPlacer" "simulation" "LEdgeCounterPlacer$Simulation;", .fieldLink RX6 26 "EdgeCounterPlacer" "placement" "LEdgeCounterPlacer$Placement;", .fieldLink RX6 47 "EdgeCounterPlacer" "graph" "LEdgeCounterPlacer$Graph;", .methodLink RX6 142 yX4_present, .instanceMethod yX4_present, .selects RX4 yX4_present yX4_present, .initialized RX4, .code yX4_present cX4_present 1 (some .int), .fieldLink RX4 26 "EdgeCounterPlacer$Simulation" "present" "I", .methodLink RX6 232 yX0_exit, .instanceMethod yX0_exit, .selects RX0 yX0_exit yX0_exit, .initialized RX0, .code yX0_exit cX0_exit 1 (some .int), .fieldLink RX0 29 "EdgeCounterPlacer$Graph" "blocks" "I", .methodLink RX6 222 yX3_factor, .instanceMethod yX3_factor, .selects RX3 yX3_factor yX3_factor, .initialized RX3, .code yX3_factor cX3_factor 6 (some .int), .fieldLink RX3 15 "EdgeCounterPlacer$Placement" "sourceSide" "[I", .static yX6_holds, .initialized RX6, .code yX6_holds cX6_holds 2 (some .boolean)] ++ wsX60 ++ wsX40 ++ wsX00 ++ wsX30)
def wsX6_reconstructedCount_r1 : List Cond := [Cond.fieldLink RX6 26 "EdgeCounterPlacer" "placement" "LEdgeCounterPlacer$Placement;", Cond.fieldLink RX6 33 "EdgeCounterPlacer" "simulation" "LEdgeCounterPlacer$Simulation;", Cond.fieldLink RX6 47 "EdgeCounterPlacer" "graph" "LEdgeCounterPlacer$Graph;", Cond.methodLink RX6 182 yX3_isInTree, Cond.instanceMethod yX3_isInTree, Cond.selects RX3 yX3_isInTree yX3_isInTree, Cond.initialized RX3, Cond.code yX3_isInTree cX3_isInTree 2 (some .boolean), Cond.fieldLink RX3 28 "EdgeCounterPlacer$Placement" "tree" "I", Cond.static yX6_holds, Cond.initialized RX6, Cond.code yX6_holds cX6_holds 2 (some .boolean), Cond.methodLink RX6 192 yX4_counterValue, Cond.instanceMethod yX4_counterValue, Cond.selects RX4 yX4_counterValue yX4_counterValue, Cond.initialized RX4, Cond.code yX4_counterValue cX4_counterValue 2 (some .int), Cond.fieldLink RX4 9 "EdgeCounterPlacer$Simulation" "counterValue" "[I", Cond.methodLink RX6 229 yX6_openEdgeShare, Cond.instanceMethod yX6_openEdgeShare, Cond.selects RX6 yX6_openEdgeShare yX6_openEdgeShare, Cond.code yX6_openEdgeShare cX6_openEdgeShare 2 (some .int), Cond.methodLink RX6 142 yX4_present, Cond.instanceMethod yX4_present]
def wsX6_reconstructedCount_r2 : List Cond := [Cond.selects RX4 yX4_present yX4_present, Cond.code yX4_present cX4_present 1 (some .int), Cond.fieldLink RX4 26 "EdgeCounterPlacer$Simulation" "present" "I", Cond.methodLink RX6 232 yX0_exit, Cond.instanceMethod yX0_exit, Cond.selects RX0 yX0_exit yX0_exit, Cond.initialized RX0, Cond.code yX0_exit cX0_exit 1 (some .int), Cond.fieldLink RX0 29 "EdgeCounterPlacer$Graph" "blocks" "I", Cond.methodLink RX6 222 yX3_factor, Cond.instanceMethod yX3_factor, Cond.selects RX3 yX3_factor yX3_factor, Cond.code yX3_factor cX3_factor 6 (some .int), Cond.fieldLink RX3 15 "EdgeCounterPlacer$Placement" "sourceSide" "[I", Cond.methodLink RX6 106 yX0_edges, Cond.instanceMethod yX0_edges, Cond.selects RX0 yX0_edges yX0_edges, Cond.code yX0_edges cX0_edges 1 (some .int), Cond.fieldLink RX0 33 "EdgeCounterPlacer$Graph" "edges" "I", Cond.methodLink RX6 201 yX6_factorOfChord, Cond.instanceMethod yX6_factorOfChord, Cond.selects RX6 yX6_factorOfChord yX6_factorOfChord, Cond.code yX6_factorOfChord cX6_factorOfChord 3 (some .int), Cond.methodLink RX6 139 yX0_source]
def wsX6_reconstructedCount_r3 : List Cond := [Cond.instanceMethod yX0_source, Cond.selects RX0 yX0_source yX0_source, Cond.code yX0_source cX0_source 2 (some .int), Cond.fieldLink RX0 9 "EdgeCounterPlacer$Graph" "source" "[I", Cond.methodLink RX0 44 yX0_hasEdge, Cond.instanceMethod yX0_hasEdge, Cond.selects RX0 yX0_hasEdge yX0_hasEdge, Cond.code yX0_hasEdge cX0_hasEdge 2 (some .boolean), Cond.methodLink RX6 179 yX0_target, Cond.instanceMethod yX0_target, Cond.selects RX0 yX0_target yX0_target, Cond.code yX0_target cX0_target 2 (some .int), Cond.fieldLink RX0 15 "EdgeCounterPlacer$Graph" "target" "[I"]
def wsX6_reconstructedCount : List Cond := .code yX6_reconstructedCount cX6_reconstructedCount 4 (some .int) :: ((wsX6_reconstructedCount_r1 ++ (wsX6_reconstructedCount_r2 ++ wsX6_reconstructedCount_r3)) ++ wsX60 ++ wsX30 ++ wsX40 ++ wsX00)
def wsX6_adoptCounts_r1 : List Cond := [Cond.fieldLink RX6 40 "EdgeCounterPlacer" "history" "LEdgeCounterPlacer$History;", Cond.fieldLink RX6 26 "EdgeCounterPlacer" "placement" "LEdgeCounterPlacer$Placement;", Cond.fieldLink RX6 33 "EdgeCounterPlacer" "simulation" "LEdgeCounterPlacer$Simulation;", Cond.fieldLink RX6 47 "EdgeCounterPlacer" "graph" "LEdgeCounterPlacer$Graph;", Cond.methodLink RX6 162 Lib.Math.min.name, Cond.static Lib.Math.min.name, Cond.initialized "java/lang/Math", Cond.code Lib.Math.min.name Lib.Math.min.code 2 (some .int), Cond.methodLink RX6 156 yX6_anyIsUncertain, Cond.instanceMethod yX6_anyIsUncertain, Cond.selects RX6 yX6_anyIsUncertain yX6_anyIsUncertain, Cond.initialized RX6, Cond.code yX6_anyIsUncertain cX6_anyIsUncertain 2 (some .boolean), Cond.methodLink RX6 106 yX0_edges, Cond.instanceMethod yX0_edges, Cond.selects RX0 yX0_edges yX0_edges, Cond.initialized RX0, Cond.code yX0_edges cX0_edges 1 (some .int), Cond.fieldLink RX0 33 "EdgeCounterPlacer$Graph" "edges" "I", Cond.methodLink RX6 198 yX6_isUncertain, Cond.instanceMethod yX6_isUncertain, Cond.selects RX6 yX6_isUncertain yX6_isUncertain, Cond.code yX6_isUncertain cX6_isUncertain 3 (some .boolean), Cond.methodLink RX6 182 yX3_isInTree]
def wsX6_adoptCounts_r2 : List Cond := [Cond.instanceMethod yX3_isInTree, Cond.selects RX3 yX3_isInTree yX3_isInTree, Cond.initialized RX3, Cond.code yX3_isInTree cX3_isInTree 2 (some .boolean), Cond.fieldLink RX3 28 "EdgeCounterPlacer$Placement" "tree" "I", Cond.static yX6_holds, Cond.code yX6_holds cX6_holds 2 (some .boolean), Cond.methodLink RX6 207 yX6_isSaturatedChord, Cond.instanceMethod yX6_isSaturatedChord, Cond.selects RX6 yX6_isSaturatedChord yX6_isSaturatedChord, Cond.code yX6_isSaturatedChord cX6_isSaturatedChord 2 (some .boolean), Cond.methodLink RX6 226 yX4_isAtLimit, Cond.instanceMethod yX4_isAtLimit, Cond.selects RX4 yX4_isAtLimit yX4_isAtLimit, Cond.initialized RX4, Cond.code yX4_isAtLimit cX4_isAtLimit 2 (some .boolean), Cond.fieldLink RX4 19 "EdgeCounterPlacer$Simulation" "limit" "I", Cond.methodLink RX4 32 yX4_counterValue, Cond.instanceMethod yX4_counterValue, Cond.selects RX4 yX4_counterValue yX4_counterValue, Cond.code yX4_counterValue cX4_counterValue 2 (some .int), Cond.fieldLink RX4 9 "EdgeCounterPlacer$Simulation" "counterValue" "[I", Cond.methodLink RX6 201 yX6_factorOfChord, Cond.instanceMethod yX6_factorOfChord]
def wsX6_adoptCounts_r3 : List Cond := [Cond.selects RX6 yX6_factorOfChord yX6_factorOfChord, Cond.code yX6_factorOfChord cX6_factorOfChord 3 (some .int), Cond.methodLink RX6 139 yX0_source, Cond.instanceMethod yX0_source, Cond.selects RX0 yX0_source yX0_source, Cond.code yX0_source cX0_source 2 (some .int), Cond.fieldLink RX0 9 "EdgeCounterPlacer$Graph" "source" "[I", Cond.methodLink RX0 44 yX0_hasEdge, Cond.instanceMethod yX0_hasEdge, Cond.selects RX0 yX0_hasEdge yX0_hasEdge, Cond.code yX0_hasEdge cX0_hasEdge 2 (some .boolean), Cond.methodLink RX6 179 yX0_target, Cond.instanceMethod yX0_target, Cond.selects RX0 yX0_target yX0_target, Cond.code yX0_target cX0_target 2 (some .int), Cond.fieldLink RX0 15 "EdgeCounterPlacer$Graph" "target" "[I", Cond.methodLink RX6 222 yX3_factor, Cond.instanceMethod yX3_factor, Cond.selects RX3 yX3_factor yX3_factor, Cond.code yX3_factor cX3_factor 6 (some .int), Cond.fieldLink RX3 15 "EdgeCounterPlacer$Placement" "sourceSide" "[I", Cond.methodLink RX6 113 yX2_remember, Cond.instanceMethod yX2_remember, Cond.selects RX2 yX2_remember yX2_remember]
def wsX6_adoptCounts_r4 : List Cond := [Cond.initialized RX2, Cond.code yX2_remember cX2_remember 3 none, Cond.fieldLink RX2 29 "EdgeCounterPlacer$History" "newest" "I", Cond.fieldLink RX2 11 "EdgeCounterPlacer$History" "placements" "[LEdgeCounterPlacer$Placement;", Cond.fieldLink RX2 19 "EdgeCounterPlacer$History" "simulations" "[LEdgeCounterPlacer$Simulation;", Cond.fieldLink RX2 25 "EdgeCounterPlacer$History" "size" "I", Cond.methodLink RX2 39 Lib.Math.min.name, Cond.methodLink RX2 32 yX3_copyFrom, Cond.instanceMethod yX3_copyFrom, Cond.selects RX3 yX3_copyFrom yX3_copyFrom, Cond.code yX3_copyFrom cX3_copyFrom 3 none, Cond.fieldLink RX3 9 "EdgeCounterPlacer$Placement" "weight" "[I", Cond.methodLink RX2 36 yX4_copyFrom, Cond.instanceMethod yX4_copyFrom, Cond.selects RX4 yX4_copyFrom yX4_copyFrom, Cond.code yX4_copyFrom cX4_copyFrom 3 none, Cond.fieldLink RX4 15 "EdgeCounterPlacer$Simulation" "passes" "[I", Cond.fieldLink RX4 26 "EdgeCounterPlacer$Simulation" "present" "I", Cond.fieldLink RX4 29 "EdgeCounterPlacer$Simulation" "finished" "I", Cond.methodLink RX6 159 yX6_reconstructedCount, Cond.instanceMethod yX6_reconstructedCount, Cond.selects RX6 yX6_reconstructedCount yX6_reconstructedCount, Cond.code yX6_reconstructedCount cX6_reconstructedCount 4 (some .int), Cond.methodLink RX6 192 yX4_counterValue]
def wsX6_adoptCounts_r5 : List Cond := [Cond.methodLink RX6 229 yX6_openEdgeShare, Cond.instanceMethod yX6_openEdgeShare, Cond.selects RX6 yX6_openEdgeShare yX6_openEdgeShare, Cond.code yX6_openEdgeShare cX6_openEdgeShare 2 (some .int), Cond.methodLink RX6 142 yX4_present, Cond.instanceMethod yX4_present, Cond.selects RX4 yX4_present yX4_present, Cond.code yX4_present cX4_present 1 (some .int), Cond.methodLink RX6 232 yX0_exit, Cond.instanceMethod yX0_exit, Cond.selects RX0 yX0_exit yX0_exit, Cond.code yX0_exit cX0_exit 1 (some .int), Cond.fieldLink RX0 29 "EdgeCounterPlacer$Graph" "blocks" "I", Cond.methodLink RX6 117 yX3_weight, Cond.instanceMethod yX3_weight, Cond.selects RX3 yX3_weight yX3_weight, Cond.code yX3_weight cX3_weight 2 (some .int), Cond.methodLink RX6 121 yX3_putWeight, Cond.instanceMethod yX3_putWeight, Cond.selects RX3 yX3_putWeight yX3_putWeight, Cond.code yX3_putWeight cX3_putWeight 3 none, Cond.methodLink RX6 125 yX3_findTree, Cond.instanceMethod yX3_findTree, Cond.selects RX3 yX3_findTree yX3_findTree]
def wsX6_adoptCounts_r6 : List Cond := [Cond.code yX3_findTree cX3_findTree 5 none, Cond.methodLink RX3 36 yX0_edges, Cond.methodLink RX3 40 yX3_heaviestEdge, Cond.instanceMethod yX3_heaviestEdge, Cond.selects RX3 yX3_heaviestEdge yX3_heaviestEdge, Cond.code yX3_heaviestEdge cX3_heaviestEdge 6 (some .int), Cond.methodLink RX3 56 yX3_weight, Cond.methodLink RX3 44 yX0_source, Cond.methodLink RX3 47 yX0_reach, Cond.instanceMethod yX0_reach, Cond.selects RX0 yX0_reach yX0_reach, Cond.code yX0_reach cX0_reach 7 (some .int), Cond.methodLink RX0 50 yX0_exit, Cond.methodLink RX0 58 yX0_spread, Cond.instanceMethod yX0_spread, Cond.selects RX0 yX0_spread yX0_spread, Cond.code yX0_spread cX0_spread 3 (some .int), Cond.methodLink RX0 65 yX0_source, Cond.methodLink RX0 67 yX0_target, Cond.methodLink RX3 50 yX0_target, Cond.methodLink RX3 53 yX3_findSides, Cond.instanceMethod yX3_findSides, Cond.selects RX3 yX3_findSides yX3_findSides, Cond.code yX3_findSides cX3_findSides 3 none]
def wsX6_adoptCounts_r7 : List Cond := [Cond.methodLink RX3 58 yX3_isInTree, Cond.methodLink RX6 128 yX4_restart, Cond.instanceMethod yX4_restart, Cond.selects RX4 yX4_restart yX4_restart, Cond.code yX4_restart cX4_restart 2 none]
def wsX6_adoptCounts : List Cond := .code yX6_adoptCounts cX6_adoptCounts 4 (some .int) :: ((wsX6_adoptCounts_r1 ++ (wsX6_adoptCounts_r2 ++ (wsX6_adoptCounts_r3 ++ (wsX6_adoptCounts_r4 ++ (wsX6_adoptCounts_r5 ++ (wsX6_adoptCounts_r6 ++ wsX6_adoptCounts_r7)))))) ++ wsX60 ++ wsX00 ++ wsX30 ++ wsX40 ++ wsX20)
def wsX6_undo_r1 : List Cond := [Cond.fieldLink RX6 40 "EdgeCounterPlacer" "history" "LEdgeCounterPlacer$History;", Cond.fieldLink RX6 26 "EdgeCounterPlacer" "placement" "LEdgeCounterPlacer$Placement;", Cond.fieldLink RX6 33 "EdgeCounterPlacer" "simulation" "LEdgeCounterPlacer$Simulation;", Cond.methodLink RX6 167 yX2_isEmpty, Cond.instanceMethod yX2_isEmpty, Cond.selects RX2 yX2_isEmpty yX2_isEmpty, Cond.initialized RX2, Cond.code yX2_isEmpty cX2_isEmpty 1 (some .boolean), Cond.fieldLink RX2 25 "EdgeCounterPlacer$History" "size" "I", Cond.methodLink RX6 170 yX2_takeBack, Cond.instanceMethod yX2_takeBack, Cond.selects RX2 yX2_takeBack yX2_takeBack, Cond.code yX2_takeBack cX2_takeBack 3 none, Cond.fieldLink RX2 11 "EdgeCounterPlacer$History" "placements" "[LEdgeCounterPlacer$Placement;", Cond.fieldLink RX2 29 "EdgeCounterPlacer$History" "newest" "I", Cond.fieldLink RX2 19 "EdgeCounterPlacer$History" "simulations" "[LEdgeCounterPlacer$Simulation;", Cond.methodLink RX2 45 yX2_isEmpty, Cond.methodLink RX2 32 yX3_copyFrom, Cond.instanceMethod yX3_copyFrom, Cond.selects RX3 yX3_copyFrom yX3_copyFrom, Cond.initialized RX3, Cond.code yX3_copyFrom cX3_copyFrom 3 none, Cond.fieldLink RX3 9 "EdgeCounterPlacer$Placement" "weight" "[I", Cond.fieldLink RX3 15 "EdgeCounterPlacer$Placement" "sourceSide" "[I"]
def wsX6_undo_r2 : List Cond := [Cond.fieldLink RX3 28 "EdgeCounterPlacer$Placement" "tree" "I", Cond.methodLink RX2 36 yX4_copyFrom, Cond.instanceMethod yX4_copyFrom, Cond.selects RX4 yX4_copyFrom yX4_copyFrom, Cond.initialized RX4, Cond.code yX4_copyFrom cX4_copyFrom 3 none, Cond.fieldLink RX4 9 "EdgeCounterPlacer$Simulation" "counterValue" "[I", Cond.fieldLink RX4 15 "EdgeCounterPlacer$Simulation" "passes" "[I", Cond.fieldLink RX4 19 "EdgeCounterPlacer$Simulation" "limit" "I", Cond.fieldLink RX4 26 "EdgeCounterPlacer$Simulation" "present" "I", Cond.fieldLink RX4 29 "EdgeCounterPlacer$Simulation" "finished" "I", Cond.methodLink RX6 173 yX2_size, Cond.instanceMethod yX2_size, Cond.selects RX2 yX2_size yX2_size, Cond.code yX2_size cX2_size 1 (some .int)]
def wsX6_undo : List Cond := .code yX6_undo cX6_undo 1 (some .int) :: ((wsX6_undo_r1 ++ wsX6_undo_r2) ++ wsX60 ++ wsX20 ++ wsX30 ++ wsX40)
def wsX6_blockCount : List Cond := .code yX6_blockCount cX6_blockCount 1 (some .int) :: ([.fieldLink RX6 47 "EdgeCounterPlacer" "graph" "LEdgeCounterPlacer$Graph;", .methodLink RX6 176 yX0_blocks, .instanceMethod yX0_blocks, .selects RX0 yX0_blocks yX0_blocks, .initialized RX0, .code yX0_blocks cX0_blocks 1 (some .int), .fieldLink RX0 29 "EdgeCounterPlacer$Graph" "blocks" "I"] ++ wsX60 ++ wsX00)
def wsX6_sourceOf : List Cond := .code yX6_sourceOf cX6_sourceOf 2 (some .int) :: ([.fieldLink RX6 47 "EdgeCounterPlacer" "graph" "LEdgeCounterPlacer$Graph;", .methodLink RX6 109 yX0_hasEdge, .instanceMethod yX0_hasEdge, .selects RX0 yX0_hasEdge yX0_hasEdge, .initialized RX0, .code yX0_hasEdge cX0_hasEdge 2 (some .boolean), .fieldLink RX0 33 "EdgeCounterPlacer$Graph" "edges" "I", .methodLink RX6 139 yX0_source, .instanceMethod yX0_source, .selects RX0 yX0_source yX0_source, .code yX0_source cX0_source 2 (some .int), .fieldLink RX0 9 "EdgeCounterPlacer$Graph" "source" "[I", .methodLink RX0 44 yX0_hasEdge] ++ wsX60 ++ wsX00)
def wsX6_targetOf : List Cond := .code yX6_targetOf cX6_targetOf 2 (some .int) :: ([.fieldLink RX6 47 "EdgeCounterPlacer" "graph" "LEdgeCounterPlacer$Graph;", .methodLink RX6 109 yX0_hasEdge, .instanceMethod yX0_hasEdge, .selects RX0 yX0_hasEdge yX0_hasEdge, .initialized RX0, .code yX0_hasEdge cX0_hasEdge 2 (some .boolean), .fieldLink RX0 33 "EdgeCounterPlacer$Graph" "edges" "I", .methodLink RX6 179 yX0_target, .instanceMethod yX0_target, .selects RX0 yX0_target yX0_target, .code yX0_target cX0_target 2 (some .int), .fieldLink RX0 15 "EdgeCounterPlacer$Graph" "target" "[I", .methodLink RX0 44 yX0_hasEdge] ++ wsX60 ++ wsX00)
def wsX6_weightOf : List Cond := .code yX6_weightOf cX6_weightOf 2 (some .int) :: ([.fieldLink RX6 47 "EdgeCounterPlacer" "graph" "LEdgeCounterPlacer$Graph;", .fieldLink RX6 26 "EdgeCounterPlacer" "placement" "LEdgeCounterPlacer$Placement;", .methodLink RX6 109 yX0_hasEdge, .instanceMethod yX0_hasEdge, .selects RX0 yX0_hasEdge yX0_hasEdge, .initialized RX0, .code yX0_hasEdge cX0_hasEdge 2 (some .boolean), .fieldLink RX0 33 "EdgeCounterPlacer$Graph" "edges" "I", .methodLink RX6 117 yX3_weight, .instanceMethod yX3_weight, .selects RX3 yX3_weight yX3_weight, .initialized RX3, .code yX3_weight cX3_weight 2 (some .int), .fieldLink RX3 9 "EdgeCounterPlacer$Placement" "weight" "[I"] ++ wsX60 ++ wsX00 ++ wsX30)
def wsX6_hasCounter : List Cond := .code yX6_hasCounter cX6_hasCounter 2 (some .int) :: ([.fieldLink RX6 47 "EdgeCounterPlacer" "graph" "LEdgeCounterPlacer$Graph;", .fieldLink RX6 26 "EdgeCounterPlacer" "placement" "LEdgeCounterPlacer$Placement;", .methodLink RX6 109 yX0_hasEdge, .instanceMethod yX0_hasEdge, .selects RX0 yX0_hasEdge yX0_hasEdge, .initialized RX0, .code yX0_hasEdge cX0_hasEdge 2 (some .boolean), .fieldLink RX0 33 "EdgeCounterPlacer$Graph" "edges" "I", .methodLink RX6 182 yX3_isInTree, .instanceMethod yX3_isInTree, .selects RX3 yX3_isInTree yX3_isInTree, .initialized RX3, .code yX3_isInTree cX3_isInTree 2 (some .boolean), .fieldLink RX3 28 "EdgeCounterPlacer$Placement" "tree" "I", .static yX6_holds, .initialized RX6, .code yX6_holds cX6_holds 2 (some .boolean)] ++ wsX60 ++ wsX00 ++ wsX30)
def wsX6_counterCount : List Cond := .code yX6_counterCount cX6_counterCount 3 (some .int) :: ([.fieldLink RX6 47 "EdgeCounterPlacer" "graph" "LEdgeCounterPlacer$Graph;", .fieldLink RX6 26 "EdgeCounterPlacer" "placement" "LEdgeCounterPlacer$Placement;", .methodLink RX6 106 yX0_edges, .instanceMethod yX0_edges, .selects RX0 yX0_edges yX0_edges, .initialized RX0, .code yX0_edges cX0_edges 1 (some .int), .fieldLink RX0 33 "EdgeCounterPlacer$Graph" "edges" "I", .methodLink RX6 182 yX3_isInTree, .instanceMethod yX3_isInTree, .selects RX3 yX3_isInTree yX3_isInTree, .initialized RX3, .code yX3_isInTree cX3_isInTree 2 (some .boolean), .fieldLink RX3 28 "EdgeCounterPlacer$Placement" "tree" "I", .static yX6_holds, .initialized RX6, .code yX6_holds cX6_holds 2 (some .boolean)] ++ wsX60 ++ wsX00 ++ wsX30)
def wsX6_placementCost : List Cond := .code yX6_placementCost cX6_placementCost 3 (some .int) :: ([.fieldLink RX6 47 "EdgeCounterPlacer" "graph" "LEdgeCounterPlacer$Graph;", .fieldLink RX6 26 "EdgeCounterPlacer" "placement" "LEdgeCounterPlacer$Placement;", .methodLink RX6 106 yX0_edges, .instanceMethod yX0_edges, .selects RX0 yX0_edges yX0_edges, .initialized RX0, .code yX0_edges cX0_edges 1 (some .int), .fieldLink RX0 33 "EdgeCounterPlacer$Graph" "edges" "I", .methodLink RX6 182 yX3_isInTree, .instanceMethod yX3_isInTree, .selects RX3 yX3_isInTree yX3_isInTree, .initialized RX3, .code yX3_isInTree cX3_isInTree 2 (some .boolean), .fieldLink RX3 28 "EdgeCounterPlacer$Placement" "tree" "I", .static yX6_holds, .initialized RX6, .code yX6_holds cX6_holds 2 (some .boolean), .methodLink RX6 117 yX3_weight, .instanceMethod yX3_weight, .selects RX3 yX3_weight yX3_weight, .code yX3_weight cX3_weight 2 (some .int), .fieldLink RX3 9 "EdgeCounterPlacer$Placement" "weight" "[I"] ++ wsX60 ++ wsX00 ++ wsX30)
def wsX6_bitsOfShare : List Cond := .code yX6_bitsOfShare cX6_bitsOfShare 3 (some .int) :: ([.constantFloat RX6 235 (1258291200)])
def wsX6_costShareBits_r1 : List Cond := [Cond.fieldLink RX6 47 "EdgeCounterPlacer" "graph" "LEdgeCounterPlacer$Graph;", Cond.fieldLink RX6 26 "EdgeCounterPlacer" "placement" "LEdgeCounterPlacer$Placement;", Cond.methodLink RX6 106 yX0_edges, Cond.instanceMethod yX0_edges, Cond.selects RX0 yX0_edges yX0_edges, Cond.initialized RX0, Cond.code yX0_edges cX0_edges 1 (some .int), Cond.fieldLink RX0 33 "EdgeCounterPlacer$Graph" "edges" "I", Cond.methodLink RX6 117 yX3_weight, Cond.instanceMethod yX3_weight, Cond.selects RX3 yX3_weight yX3_weight, Cond.initialized RX3, Cond.code yX3_weight cX3_weight 2 (some .int), Cond.fieldLink RX3 9 "EdgeCounterPlacer$Placement" "weight" "[I", Cond.methodLink RX6 185 yX6_placementCost, Cond.instanceMethod yX6_placementCost, Cond.selects RX6 yX6_placementCost yX6_placementCost, Cond.initialized RX6, Cond.code yX6_placementCost cX6_placementCost 3 (some .int), Cond.methodLink RX6 182 yX3_isInTree, Cond.instanceMethod yX3_isInTree, Cond.selects RX3 yX3_isInTree yX3_isInTree, Cond.code yX3_isInTree cX3_isInTree 2 (some .boolean), Cond.fieldLink RX3 28 "EdgeCounterPlacer$Placement" "tree" "I"]
def wsX6_costShareBits_r2 : List Cond := [Cond.static yX6_holds, Cond.code yX6_holds cX6_holds 2 (some .boolean), Cond.methodLink RX6 188 yX6_bitsOfShare, Cond.static yX6_bitsOfShare, Cond.code yX6_bitsOfShare cX6_bitsOfShare 3 (some .int), Cond.constantFloat RX6 235 (1258291200)]
def wsX6_costShareBits : List Cond := .code yX6_costShareBits cX6_costShareBits 3 (some .int) :: ((wsX6_costShareBits_r1 ++ wsX6_costShareBits_r2) ++ wsX60 ++ wsX00 ++ wsX30)
def wsX6_counter : List Cond := .code yX6_counter cX6_counter 2 (some .int) :: ([.fieldLink RX6 47 "EdgeCounterPlacer" "graph" "LEdgeCounterPlacer$Graph;", .fieldLink RX6 26 "EdgeCounterPlacer" "placement" "LEdgeCounterPlacer$Placement;", .fieldLink RX6 33 "EdgeCounterPlacer" "simulation" "LEdgeCounterPlacer$Simulation;", .methodLink RX6 109 yX0_hasEdge, .instanceMethod yX0_hasEdge, .selects RX0 yX0_hasEdge yX0_hasEdge, .initialized RX0, .code yX0_hasEdge cX0_hasEdge 2 (some .boolean), .fieldLink RX0 33 "EdgeCounterPlacer$Graph" "edges" "I", .methodLink RX6 182 yX3_isInTree, .instanceMethod yX3_isInTree, .selects RX3 yX3_isInTree yX3_isInTree, .initialized RX3, .code yX3_isInTree cX3_isInTree 2 (some .boolean), .fieldLink RX3 28 "EdgeCounterPlacer$Placement" "tree" "I", .static yX6_holds, .initialized RX6, .code yX6_holds cX6_holds 2 (some .boolean), .methodLink RX6 192 yX4_counterValue, .instanceMethod yX4_counterValue, .selects RX4 yX4_counterValue yX4_counterValue, .initialized RX4, .code yX4_counterValue cX4_counterValue 2 (some .int), .fieldLink RX4 9 "EdgeCounterPlacer$Simulation" "counterValue" "[I"] ++ wsX60 ++ wsX00 ++ wsX30 ++ wsX40)
def wsX6_trueCount : List Cond := .code yX6_trueCount cX6_trueCount 2 (some .int) :: ([.fieldLink RX6 47 "EdgeCounterPlacer" "graph" "LEdgeCounterPlacer$Graph;", .fieldLink RX6 33 "EdgeCounterPlacer" "simulation" "LEdgeCounterPlacer$Simulation;", .methodLink RX6 109 yX0_hasEdge, .instanceMethod yX0_hasEdge, .selects RX0 yX0_hasEdge yX0_hasEdge, .initialized RX0, .code yX0_hasEdge cX0_hasEdge 2 (some .boolean), .fieldLink RX0 33 "EdgeCounterPlacer$Graph" "edges" "I", .methodLink RX6 195 yX4_passes, .instanceMethod yX4_passes, .selects RX4 yX4_passes yX4_passes, .initialized RX4, .code yX4_passes cX4_passes 2 (some .int), .fieldLink RX4 15 "EdgeCounterPlacer$Simulation" "passes" "[I"] ++ wsX60 ++ wsX00 ++ wsX40)
def wsX6_reconstruct_r1 : List Cond := [Cond.fieldLink RX6 47 "EdgeCounterPlacer" "graph" "LEdgeCounterPlacer$Graph;", Cond.methodLink RX6 109 yX0_hasEdge, Cond.instanceMethod yX0_hasEdge, Cond.selects RX0 yX0_hasEdge yX0_hasEdge, Cond.initialized RX0, Cond.code yX0_hasEdge cX0_hasEdge 2 (some .boolean), Cond.fieldLink RX0 33 "EdgeCounterPlacer$Graph" "edges" "I", Cond.methodLink RX6 198 yX6_isUncertain, Cond.instanceMethod yX6_isUncertain, Cond.selects RX6 yX6_isUncertain yX6_isUncertain, Cond.initialized RX6, Cond.code yX6_isUncertain cX6_isUncertain 3 (some .boolean), Cond.fieldLink RX6 26 "EdgeCounterPlacer" "placement" "LEdgeCounterPlacer$Placement;", Cond.methodLink RX6 182 yX3_isInTree, Cond.instanceMethod yX3_isInTree, Cond.selects RX3 yX3_isInTree yX3_isInTree, Cond.initialized RX3, Cond.code yX3_isInTree cX3_isInTree 2 (some .boolean), Cond.fieldLink RX3 28 "EdgeCounterPlacer$Placement" "tree" "I", Cond.static yX6_holds, Cond.code yX6_holds cX6_holds 2 (some .boolean), Cond.methodLink RX6 207 yX6_isSaturatedChord, Cond.instanceMethod yX6_isSaturatedChord, Cond.selects RX6 yX6_isSaturatedChord yX6_isSaturatedChord]
def wsX6_reconstruct_r2 : List Cond := [Cond.code yX6_isSaturatedChord cX6_isSaturatedChord 2 (some .boolean), Cond.fieldLink RX6 33 "EdgeCounterPlacer" "simulation" "LEdgeCounterPlacer$Simulation;", Cond.methodLink RX6 226 yX4_isAtLimit, Cond.instanceMethod yX4_isAtLimit, Cond.selects RX4 yX4_isAtLimit yX4_isAtLimit, Cond.initialized RX4, Cond.code yX4_isAtLimit cX4_isAtLimit 2 (some .boolean), Cond.fieldLink RX4 19 "EdgeCounterPlacer$Simulation" "limit" "I", Cond.methodLink RX4 32 yX4_counterValue, Cond.instanceMethod yX4_counterValue, Cond.selects RX4 yX4_counterValue yX4_counterValue, Cond.code yX4_counterValue cX4_counterValue 2 (some .int), Cond.fieldLink RX4 9 "EdgeCounterPlacer$Simulation" "counterValue" "[I", Cond.methodLink RX6 106 yX0_edges, Cond.instanceMethod yX0_edges, Cond.selects RX0 yX0_edges yX0_edges, Cond.code yX0_edges cX0_edges 1 (some .int), Cond.methodLink RX6 201 yX6_factorOfChord, Cond.instanceMethod yX6_factorOfChord, Cond.selects RX6 yX6_factorOfChord yX6_factorOfChord, Cond.code yX6_factorOfChord cX6_factorOfChord 3 (some .int), Cond.methodLink RX6 139 yX0_source, Cond.instanceMethod yX0_source, Cond.selects RX0 yX0_source yX0_source]
def wsX6_reconstruct_r3 : List Cond := [Cond.code yX0_source cX0_source 2 (some .int), Cond.fieldLink RX0 9 "EdgeCounterPlacer$Graph" "source" "[I", Cond.methodLink RX0 44 yX0_hasEdge, Cond.methodLink RX6 179 yX0_target, Cond.instanceMethod yX0_target, Cond.selects RX0 yX0_target yX0_target, Cond.code yX0_target cX0_target 2 (some .int), Cond.fieldLink RX0 15 "EdgeCounterPlacer$Graph" "target" "[I", Cond.methodLink RX6 222 yX3_factor, Cond.instanceMethod yX3_factor, Cond.selects RX3 yX3_factor yX3_factor, Cond.code yX3_factor cX3_factor 6 (some .int), Cond.fieldLink RX3 15 "EdgeCounterPlacer$Placement" "sourceSide" "[I", Cond.methodLink RX6 159 yX6_reconstructedCount, Cond.instanceMethod yX6_reconstructedCount, Cond.selects RX6 yX6_reconstructedCount yX6_reconstructedCount, Cond.code yX6_reconstructedCount cX6_reconstructedCount 4 (some .int), Cond.methodLink RX6 192 yX4_counterValue, Cond.methodLink RX6 229 yX6_openEdgeShare, Cond.instanceMethod yX6_openEdgeShare, Cond.selects RX6 yX6_openEdgeShare yX6_openEdgeShare, Cond.code yX6_openEdgeShare cX6_openEdgeShare 2 (some .int), Cond.methodLink RX6 142 yX4_present, Cond.instanceMethod yX4_present]
def wsX6_reconstruct_r4 : List Cond := [Cond.selects RX4 yX4_present yX4_present, Cond.code yX4_present cX4_present 1 (some .int), Cond.fieldLink RX4 26 "EdgeCounterPlacer$Simulation" "present" "I", Cond.methodLink RX6 232 yX0_exit, Cond.instanceMethod yX0_exit, Cond.selects RX0 yX0_exit yX0_exit, Cond.code yX0_exit cX0_exit 1 (some .int), Cond.fieldLink RX0 29 "EdgeCounterPlacer$Graph" "blocks" "I"]
def wsX6_reconstruct : List Cond := .code yX6_reconstruct cX6_reconstruct 2 (some .int) :: ((wsX6_reconstruct_r1 ++ (wsX6_reconstruct_r2 ++ (wsX6_reconstruct_r3 ++ wsX6_reconstruct_r4))) ++ wsX60 ++ wsX00 ++ wsX30 ++ wsX40)
def wsX6_coefficient_r1 : List Cond := [Cond.fieldLink RX6 47 "EdgeCounterPlacer" "graph" "LEdgeCounterPlacer$Graph;", Cond.fieldLink RX6 26 "EdgeCounterPlacer" "placement" "LEdgeCounterPlacer$Placement;", Cond.methodLink RX6 109 yX0_hasEdge, Cond.instanceMethod yX0_hasEdge, Cond.selects RX0 yX0_hasEdge yX0_hasEdge, Cond.initialized RX0, Cond.code yX0_hasEdge cX0_hasEdge 2 (some .boolean), Cond.fieldLink RX0 33 "EdgeCounterPlacer$Graph" "edges" "I", Cond.methodLink RX6 182 yX3_isInTree, Cond.instanceMethod yX3_isInTree, Cond.selects RX3 yX3_isInTree yX3_isInTree, Cond.initialized RX3, Cond.code yX3_isInTree cX3_isInTree 2 (some .boolean), Cond.fieldLink RX3 28 "EdgeCounterPlacer$Placement" "tree" "I", Cond.static yX6_holds, Cond.initialized RX6, Cond.code yX6_holds cX6_holds 2 (some .boolean), Cond.methodLink RX6 201 yX6_factorOfChord, Cond.instanceMethod yX6_factorOfChord, Cond.selects RX6 yX6_factorOfChord yX6_factorOfChord, Cond.code yX6_factorOfChord cX6_factorOfChord 3 (some .int), Cond.methodLink RX6 139 yX0_source, Cond.instanceMethod yX0_source, Cond.selects RX0 yX0_source yX0_source]
def wsX6_coefficient_r2 : List Cond := [Cond.code yX0_source cX0_source 2 (some .int), Cond.fieldLink RX0 9 "EdgeCounterPlacer$Graph" "source" "[I", Cond.methodLink RX0 44 yX0_hasEdge, Cond.methodLink RX6 179 yX0_target, Cond.instanceMethod yX0_target, Cond.selects RX0 yX0_target yX0_target, Cond.code yX0_target cX0_target 2 (some .int), Cond.fieldLink RX0 15 "EdgeCounterPlacer$Graph" "target" "[I", Cond.methodLink RX6 222 yX3_factor, Cond.instanceMethod yX3_factor, Cond.selects RX3 yX3_factor yX3_factor, Cond.code yX3_factor cX3_factor 6 (some .int), Cond.fieldLink RX3 15 "EdgeCounterPlacer$Placement" "sourceSide" "[I"]
def wsX6_coefficient : List Cond := .code yX6_coefficient cX6_coefficient 3 (some .int) :: ((wsX6_coefficient_r1 ++ wsX6_coefficient_r2) ++ wsX60 ++ wsX00 ++ wsX30)
def wsX6_executions_r1 : List Cond := [Cond.fieldLink RX6 47 "EdgeCounterPlacer" "graph" "LEdgeCounterPlacer$Graph;", Cond.fieldLink RX6 33 "EdgeCounterPlacer" "simulation" "LEdgeCounterPlacer$Simulation;", Cond.methodLink RX6 204 yX0_hasBlock, Cond.instanceMethod yX0_hasBlock, Cond.selects RX0 yX0_hasBlock yX0_hasBlock, Cond.initialized RX0, Cond.code yX0_hasBlock cX0_hasBlock 2 (some .boolean), Cond.fieldLink RX0 29 "EdgeCounterPlacer$Graph" "blocks" "I", Cond.methodLink RX6 149 yX4_finished, Cond.instanceMethod yX4_finished, Cond.selects RX4 yX4_finished yX4_finished, Cond.initialized RX4, Cond.code yX4_finished cX4_finished 1 (some .int), Cond.fieldLink RX4 29 "EdgeCounterPlacer$Simulation" "finished" "I", Cond.methodLink RX6 142 yX4_present, Cond.instanceMethod yX4_present, Cond.selects RX4 yX4_present yX4_present, Cond.code yX4_present cX4_present 1 (some .int), Cond.fieldLink RX4 26 "EdgeCounterPlacer$Simulation" "present" "I", Cond.methodLink RX6 106 yX0_edges, Cond.instanceMethod yX0_edges, Cond.selects RX0 yX0_edges yX0_edges, Cond.code yX0_edges cX0_edges 1 (some .int), Cond.fieldLink RX0 33 "EdgeCounterPlacer$Graph" "edges" "I"]
def wsX6_executions_r2 : List Cond := [Cond.methodLink RX6 179 yX0_target, Cond.instanceMethod yX0_target, Cond.selects RX0 yX0_target yX0_target, Cond.code yX0_target cX0_target 2 (some .int), Cond.fieldLink RX0 15 "EdgeCounterPlacer$Graph" "target" "[I", Cond.methodLink RX0 44 yX0_hasEdge, Cond.instanceMethod yX0_hasEdge, Cond.selects RX0 yX0_hasEdge yX0_hasEdge, Cond.code yX0_hasEdge cX0_hasEdge 2 (some .boolean), Cond.methodLink RX6 198 yX6_isUncertain, Cond.instanceMethod yX6_isUncertain, Cond.selects RX6 yX6_isUncertain yX6_isUncertain, Cond.initialized RX6, Cond.code yX6_isUncertain cX6_isUncertain 3 (some .boolean), Cond.fieldLink RX6 26 "EdgeCounterPlacer" "placement" "LEdgeCounterPlacer$Placement;", Cond.methodLink RX6 182 yX3_isInTree, Cond.instanceMethod yX3_isInTree, Cond.selects RX3 yX3_isInTree yX3_isInTree, Cond.initialized RX3, Cond.code yX3_isInTree cX3_isInTree 2 (some .boolean), Cond.fieldLink RX3 28 "EdgeCounterPlacer$Placement" "tree" "I", Cond.static yX6_holds, Cond.code yX6_holds cX6_holds 2 (some .boolean), Cond.methodLink RX6 207 yX6_isSaturatedChord]
def wsX6_executions_r3 : List Cond := [Cond.instanceMethod yX6_isSaturatedChord, Cond.selects RX6 yX6_isSaturatedChord yX6_isSaturatedChord, Cond.code yX6_isSaturatedChord cX6_isSaturatedChord 2 (some .boolean), Cond.methodLink RX6 226 yX4_isAtLimit, Cond.instanceMethod yX4_isAtLimit, Cond.selects RX4 yX4_isAtLimit yX4_isAtLimit, Cond.code yX4_isAtLimit cX4_isAtLimit 2 (some .boolean), Cond.fieldLink RX4 19 "EdgeCounterPlacer$Simulation" "limit" "I", Cond.methodLink RX4 32 yX4_counterValue, Cond.instanceMethod yX4_counterValue, Cond.selects RX4 yX4_counterValue yX4_counterValue, Cond.code yX4_counterValue cX4_counterValue 2 (some .int), Cond.fieldLink RX4 9 "EdgeCounterPlacer$Simulation" "counterValue" "[I", Cond.methodLink RX6 201 yX6_factorOfChord, Cond.instanceMethod yX6_factorOfChord, Cond.selects RX6 yX6_factorOfChord yX6_factorOfChord, Cond.code yX6_factorOfChord cX6_factorOfChord 3 (some .int), Cond.methodLink RX6 139 yX0_source, Cond.instanceMethod yX0_source, Cond.selects RX0 yX0_source yX0_source, Cond.code yX0_source cX0_source 2 (some .int), Cond.fieldLink RX0 9 "EdgeCounterPlacer$Graph" "source" "[I", Cond.methodLink RX6 222 yX3_factor, Cond.instanceMethod yX3_factor]
def wsX6_executions_r4 : List Cond := [Cond.selects RX3 yX3_factor yX3_factor, Cond.code yX3_factor cX3_factor 6 (some .int), Cond.fieldLink RX3 15 "EdgeCounterPlacer$Placement" "sourceSide" "[I", Cond.methodLink RX6 159 yX6_reconstructedCount, Cond.instanceMethod yX6_reconstructedCount, Cond.selects RX6 yX6_reconstructedCount yX6_reconstructedCount, Cond.code yX6_reconstructedCount cX6_reconstructedCount 4 (some .int), Cond.methodLink RX6 192 yX4_counterValue, Cond.methodLink RX6 229 yX6_openEdgeShare, Cond.instanceMethod yX6_openEdgeShare, Cond.selects RX6 yX6_openEdgeShare yX6_openEdgeShare, Cond.code yX6_openEdgeShare cX6_openEdgeShare 2 (some .int), Cond.methodLink RX6 232 yX0_exit, Cond.instanceMethod yX0_exit, Cond.selects RX0 yX0_exit yX0_exit, Cond.code yX0_exit cX0_exit 1 (some .int)]
def wsX6_executions : List Cond := .code yX6_executions cX6_executions 4 (some .int) :: ((wsX6_executions_r1 ++ (wsX6_executions_r2 ++ (wsX6_executions_r3 ++ wsX6_executions_r4))) ++ wsX60 ++ wsX00 ++ wsX40 ++ wsX30)
def wsX6_dependents_r1 : List Cond := [Cond.fieldLink RX6 47 "EdgeCounterPlacer" "graph" "LEdgeCounterPlacer$Graph;", Cond.fieldLink RX6 26 "EdgeCounterPlacer" "placement" "LEdgeCounterPlacer$Placement;", Cond.methodLink RX6 109 yX0_hasEdge, Cond.instanceMethod yX0_hasEdge, Cond.selects RX0 yX0_hasEdge yX0_hasEdge, Cond.initialized RX0, Cond.code yX0_hasEdge cX0_hasEdge 2 (some .boolean), Cond.fieldLink RX0 33 "EdgeCounterPlacer$Graph" "edges" "I", Cond.methodLink RX6 182 yX3_isInTree, Cond.instanceMethod yX3_isInTree, Cond.selects RX3 yX3_isInTree yX3_isInTree, Cond.initialized RX3, Cond.code yX3_isInTree cX3_isInTree 2 (some .boolean), Cond.fieldLink RX3 28 "EdgeCounterPlacer$Placement" "tree" "I", Cond.static yX6_holds, Cond.initialized RX6, Cond.code yX6_holds cX6_holds 2 (some .boolean), Cond.methodLink RX6 106 yX0_edges, Cond.instanceMethod yX0_edges, Cond.selects RX0 yX0_edges yX0_edges, Cond.code yX0_edges cX0_edges 1 (some .int), Cond.methodLink RX6 201 yX6_factorOfChord, Cond.instanceMethod yX6_factorOfChord, Cond.selects RX6 yX6_factorOfChord yX6_factorOfChord]
def wsX6_dependents_r2 : List Cond := [Cond.code yX6_factorOfChord cX6_factorOfChord 3 (some .int), Cond.methodLink RX6 139 yX0_source, Cond.instanceMethod yX0_source, Cond.selects RX0 yX0_source yX0_source, Cond.code yX0_source cX0_source 2 (some .int), Cond.fieldLink RX0 9 "EdgeCounterPlacer$Graph" "source" "[I", Cond.methodLink RX0 44 yX0_hasEdge, Cond.methodLink RX6 179 yX0_target, Cond.instanceMethod yX0_target, Cond.selects RX0 yX0_target yX0_target, Cond.code yX0_target cX0_target 2 (some .int), Cond.fieldLink RX0 15 "EdgeCounterPlacer$Graph" "target" "[I", Cond.methodLink RX6 222 yX3_factor, Cond.instanceMethod yX3_factor, Cond.selects RX3 yX3_factor yX3_factor, Cond.code yX3_factor cX3_factor 6 (some .int), Cond.fieldLink RX3 15 "EdgeCounterPlacer$Placement" "sourceSide" "[I"]
def wsX6_dependents : List Cond := .code yX6_dependents cX6_dependents 4 (some .int) :: ((wsX6_dependents_r1 ++ wsX6_dependents_r2) ++ wsX60 ++ wsX00 ++ wsX30)
def wsX6_saturatedCount_r1 : List Cond := [Cond.fieldLink RX6 47 "EdgeCounterPlacer" "graph" "LEdgeCounterPlacer$Graph;", Cond.methodLink RX6 106 yX0_edges, Cond.instanceMethod yX0_edges, Cond.selects RX0 yX0_edges yX0_edges, Cond.initialized RX0, Cond.code yX0_edges cX0_edges 1 (some .int), Cond.fieldLink RX0 33 "EdgeCounterPlacer$Graph" "edges" "I", Cond.methodLink RX6 207 yX6_isSaturatedChord, Cond.instanceMethod yX6_isSaturatedChord, Cond.selects RX6 yX6_isSaturatedChord yX6_isSaturatedChord, Cond.initialized RX6, Cond.code yX6_isSaturatedChord cX6_isSaturatedChord 2 (some .boolean), Cond.fieldLink RX6 26 "EdgeCounterPlacer" "placement" "LEdgeCounterPlacer$Placement;", Cond.fieldLink RX6 33 "EdgeCounterPlacer" "simulation" "LEdgeCounterPlacer$Simulation;", Cond.methodLink RX6 182 yX3_isInTree, Cond.instanceMethod yX3_isInTree, Cond.selects RX3 yX3_isInTree yX3_isInTree, Cond.initialized RX3, Cond.code yX3_isInTree cX3_isInTree 2 (some .boolean), Cond.fieldLink RX3 28 "EdgeCounterPlacer$Placement" "tree" "I", Cond.static yX6_holds, Cond.code yX6_holds cX6_holds 2 (some .boolean), Cond.methodLink RX6 226 yX4_isAtLimit, Cond.instanceMethod yX4_isAtLimit]
def wsX6_saturatedCount_r2 : List Cond := [Cond.selects RX4 yX4_isAtLimit yX4_isAtLimit, Cond.initialized RX4, Cond.code yX4_isAtLimit cX4_isAtLimit 2 (some .boolean), Cond.fieldLink RX4 19 "EdgeCounterPlacer$Simulation" "limit" "I", Cond.methodLink RX4 32 yX4_counterValue, Cond.instanceMethod yX4_counterValue, Cond.selects RX4 yX4_counterValue yX4_counterValue, Cond.code yX4_counterValue cX4_counterValue 2 (some .int), Cond.fieldLink RX4 9 "EdgeCounterPlacer$Simulation" "counterValue" "[I"]
def wsX6_saturatedCount : List Cond := .code yX6_saturatedCount cX6_saturatedCount 3 (some .int) :: ((wsX6_saturatedCount_r1 ++ wsX6_saturatedCount_r2) ++ wsX60 ++ wsX00 ++ wsX30 ++ wsX40)
def wsX6_presentBlock : List Cond := .code yX6_presentBlock cX6_presentBlock 1 (some .int) :: ([.fieldLink RX6 33 "EdgeCounterPlacer" "simulation" "LEdgeCounterPlacer$Simulation;", .methodLink RX6 142 yX4_present, .instanceMethod yX4_present, .selects RX4 yX4_present yX4_present, .initialized RX4, .code yX4_present cX4_present 1 (some .int), .fieldLink RX4 26 "EdgeCounterPlacer$Simulation" "present" "I"] ++ wsX60 ++ wsX40)
def wsX6_finishedRuns : List Cond := .code yX6_finishedRuns cX6_finishedRuns 1 (some .int) :: ([.fieldLink RX6 33 "EdgeCounterPlacer" "simulation" "LEdgeCounterPlacer$Simulation;", .methodLink RX6 149 yX4_finished, .instanceMethod yX4_finished, .selects RX4 yX4_finished yX4_finished, .initialized RX4, .code yX4_finished cX4_finished 1 (some .int), .fieldLink RX4 29 "EdgeCounterPlacer$Simulation" "finished" "I"] ++ wsX60 ++ wsX40)
def wsX7_putEdge : List Cond := .code yX7_putEdge cX7_putEdge 4 none :: ([.fieldLink RX7 25 "EdgeCounterPlacerModel" "readSource" "[I", .fieldLink RX7 51 "EdgeCounterPlacerModel" "readEdges" "I", .fieldLink RX7 28 "EdgeCounterPlacerModel" "readTarget" "[I", .fieldLink RX7 31 "EdgeCounterPlacerModel" "readWeight" "[I"] ++ wsX70)
def wsX7_sideOf : List Cond := .code yX7_sideOf cX7_sideOf 9 (some .int) :: ([.fieldLink RX7 92 "EdgeCounterPlacerModel" "blocks" "I", .fieldLink RX7 95 "EdgeCounterPlacerModel" "edges" "I", .fieldLink RX7 13 "EdgeCounterPlacerModel" "source" "[I", .fieldLink RX7 16 "EdgeCounterPlacerModel" "target" "[I", .fieldLink RX7 19 "EdgeCounterPlacerModel" "now" "[I"] ++ wsX70)
def wsX7_has : List Cond := .code yX7_has cX7_has 2 (some .boolean) :: ([])
def wsX7_findTree : List Cond := .code yX7_findTree cX7_findTree 4 none :: ([.fieldLink RX7 19 "EdgeCounterPlacerModel" "now" "[I", .fieldLink RX7 95 "EdgeCounterPlacerModel" "edges" "I", .fieldLink RX7 13 "EdgeCounterPlacerModel" "source" "[I", .fieldLink RX7 16 "EdgeCounterPlacerModel" "target" "[I", .methodLink RX7 111 yX7_sideOf, .instanceMethod yX7_sideOf, .selects RX7 yX7_sideOf yX7_sideOf, .initialized RX7, .code yX7_sideOf cX7_sideOf 9 (some .int), .fieldLink RX7 92 "EdgeCounterPlacerModel" "blocks" "I", .methodLink RX7 78 yX7_has, .static yX7_has, .code yX7_has cX7_has 2 (some .boolean)] ++ wsX70)
def wsX7_resetCounts : List Cond := .code yX7_resetCounts cX7_resetCounts 2 none :: ([.fieldLink RX7 19 "EdgeCounterPlacerModel" "now" "[I"] ++ wsX70)
def wsX7_takeGraph_r1 : List Cond := [Cond.fieldLink RX7 40 "EdgeCounterPlacerModel" "readBlocks" "I", Cond.fieldLink RX7 92 "EdgeCounterPlacerModel" "blocks" "I", Cond.fieldLink RX7 51 "EdgeCounterPlacerModel" "readEdges" "I", Cond.fieldLink RX7 95 "EdgeCounterPlacerModel" "edges" "I", Cond.fieldLink RX7 13 "EdgeCounterPlacerModel" "source" "[I", Cond.fieldLink RX7 25 "EdgeCounterPlacerModel" "readSource" "[I", Cond.fieldLink RX7 16 "EdgeCounterPlacerModel" "target" "[I", Cond.fieldLink RX7 28 "EdgeCounterPlacerModel" "readTarget" "[I", Cond.fieldLink RX7 19 "EdgeCounterPlacerModel" "now" "[I", Cond.fieldLink RX7 31 "EdgeCounterPlacerModel" "readWeight" "[I", Cond.constant RX7 98 (60000), Cond.fieldLink RX7 99 "EdgeCounterPlacerModel" "undoable" "I", Cond.methodLink RX7 102 yX7_findTree, Cond.instanceMethod yX7_findTree, Cond.selects RX7 yX7_findTree yX7_findTree, Cond.initialized RX7, Cond.code yX7_findTree cX7_findTree 4 none, Cond.methodLink RX7 111 yX7_sideOf, Cond.instanceMethod yX7_sideOf, Cond.selects RX7 yX7_sideOf yX7_sideOf, Cond.code yX7_sideOf cX7_sideOf 9 (some .int), Cond.methodLink RX7 78 yX7_has, Cond.static yX7_has, Cond.code yX7_has cX7_has 2 (some .boolean)]
def wsX7_takeGraph_r2 : List Cond := [Cond.methodLink RX7 105 yX7_resetCounts, Cond.instanceMethod yX7_resetCounts, Cond.selects RX7 yX7_resetCounts yX7_resetCounts, Cond.code yX7_resetCounts cX7_resetCounts 2 none]
def wsX7_takeGraph : List Cond := .code yX7_takeGraph cX7_takeGraph 2 none :: ((wsX7_takeGraph_r1 ++ wsX7_takeGraph_r2) ++ wsX70)
def wsX7_init_r1 : List Cond := [Cond.methodLink RX7 1 objectInit, Cond.instanceMethod objectInit, Cond.code objectInit ⟨#[0xb1]⟩ 1 none, Cond.arrayClass .int, Cond.fieldLink RX7 7 "EdgeCounterPlacerModel" "text" "[I", Cond.fieldLink RX7 13 "EdgeCounterPlacerModel" "source" "[I", Cond.fieldLink RX7 16 "EdgeCounterPlacerModel" "target" "[I", Cond.fieldLink RX7 19 "EdgeCounterPlacerModel" "now" "[I", Cond.fieldLink RX7 22 "EdgeCounterPlacerModel" "history" "[I", Cond.fieldLink RX7 25 "EdgeCounterPlacerModel" "readSource" "[I", Cond.fieldLink RX7 28 "EdgeCounterPlacerModel" "readTarget" "[I", Cond.fieldLink RX7 31 "EdgeCounterPlacerModel" "readWeight" "[I", Cond.fieldLink RX7 34 "EdgeCounterPlacerModel" "numbers" "[I", Cond.fieldLink RX7 37 "EdgeCounterPlacerModel" "adopted" "[I", Cond.fieldLink RX7 40 "EdgeCounterPlacerModel" "readBlocks" "I", Cond.methodLink RX7 44 yX7_putEdge, Cond.instanceMethod yX7_putEdge, Cond.selects RX7 yX7_putEdge yX7_putEdge, Cond.initialized RX7, Cond.code yX7_putEdge cX7_putEdge 4 none, Cond.fieldLink RX7 51 "EdgeCounterPlacerModel" "readEdges" "I", Cond.methodLink RX7 48 yX7_takeGraph, Cond.instanceMethod yX7_takeGraph, Cond.selects RX7 yX7_takeGraph yX7_takeGraph]
def wsX7_init_r2 : List Cond := [Cond.code yX7_takeGraph cX7_takeGraph 2 none, Cond.fieldLink RX7 92 "EdgeCounterPlacerModel" "blocks" "I", Cond.fieldLink RX7 95 "EdgeCounterPlacerModel" "edges" "I", Cond.constant RX7 98 (60000), Cond.fieldLink RX7 99 "EdgeCounterPlacerModel" "undoable" "I", Cond.methodLink RX7 102 yX7_findTree, Cond.instanceMethod yX7_findTree, Cond.selects RX7 yX7_findTree yX7_findTree, Cond.code yX7_findTree cX7_findTree 4 none, Cond.methodLink RX7 111 yX7_sideOf, Cond.instanceMethod yX7_sideOf, Cond.selects RX7 yX7_sideOf yX7_sideOf, Cond.code yX7_sideOf cX7_sideOf 9 (some .int), Cond.methodLink RX7 78 yX7_has, Cond.static yX7_has, Cond.code yX7_has cX7_has 2 (some .boolean), Cond.methodLink RX7 105 yX7_resetCounts, Cond.instanceMethod yX7_resetCounts, Cond.selects RX7 yX7_resetCounts yX7_resetCounts, Cond.code yX7_resetCounts cX7_resetCounts 2 none]
def wsX7_init : List Cond := .code yX7_init cX7_init 1 none :: ((wsX7_init_r1 ++ wsX7_init_r2) ++ wsX70)
def wsX7_in : List Cond := .code yX7_in cX7_in 3 (some .boolean) :: ([])
def wsX7_isDigit : List Cond := .code yX7_isDigit cX7_isDigit 1 (some .boolean) :: ([.fieldLink RX7 54 "EdgeCounterPlacerModel" "at" "I", .fieldLink RX7 57 "EdgeCounterPlacerModel" "length" "I", .fieldLink RX7 7 "EdgeCounterPlacerModel" "text" "[I", .methodLink RX7 60 yX7_in, .static yX7_in, .initialized RX7, .code yX7_in cX7_in 3 (some .boolean)] ++ wsX70)
def wsX7_readNumbers : List Cond := .code yX7_readNumbers cX7_readNumbers 5 (some .boolean) :: ([.fieldLink RX7 54 "EdgeCounterPlacerModel" "at" "I", .fieldLink RX7 7 "EdgeCounterPlacerModel" "text" "[I", .fieldLink RX7 57 "EdgeCounterPlacerModel" "length" "I", .fieldLink RX7 34 "EdgeCounterPlacerModel" "numbers" "[I", .methodLink RX7 64 yX7_isDigit, .instanceMethod yX7_isDigit, .selects RX7 yX7_isDigit yX7_isDigit, .initialized RX7, .code yX7_isDigit cX7_isDigit 1 (some .boolean), .methodLink RX7 60 yX7_in, .static yX7_in, .code yX7_in cX7_in 3 (some .boolean)] ++ wsX70)
def wsX7_isBlockButExit : List Cond := .code yX7_isBlockButExit cX7_isBlockButExit 2 (some .boolean) :: ([.fieldLink RX7 40 "EdgeCounterPlacerModel" "readBlocks" "I", .methodLink RX7 60 yX7_in, .static yX7_in, .initialized RX7, .code yX7_in cX7_in 3 (some .boolean)] ++ wsX70)
def wsX7_readStatement_r1 : List Cond := [Cond.fieldLink RX7 7 "EdgeCounterPlacerModel" "text" "[I", Cond.fieldLink RX7 54 "EdgeCounterPlacerModel" "at" "I", Cond.fieldLink RX7 34 "EdgeCounterPlacerModel" "numbers" "[I", Cond.fieldLink RX7 40 "EdgeCounterPlacerModel" "readBlocks" "I", Cond.fieldLink RX7 75 "EdgeCounterPlacerModel" "aborting" "I", Cond.fieldLink RX7 51 "EdgeCounterPlacerModel" "readEdges" "I", Cond.methodLink RX7 68 yX7_readNumbers, Cond.instanceMethod yX7_readNumbers, Cond.selects RX7 yX7_readNumbers yX7_readNumbers, Cond.initialized RX7, Cond.code yX7_readNumbers cX7_readNumbers 5 (some .boolean), Cond.fieldLink RX7 57 "EdgeCounterPlacerModel" "length" "I", Cond.methodLink RX7 64 yX7_isDigit, Cond.instanceMethod yX7_isDigit, Cond.selects RX7 yX7_isDigit yX7_isDigit, Cond.code yX7_isDigit cX7_isDigit 1 (some .boolean), Cond.methodLink RX7 60 yX7_in, Cond.static yX7_in, Cond.code yX7_in cX7_in 3 (some .boolean), Cond.methodLink RX7 72 yX7_isBlockButExit, Cond.instanceMethod yX7_isBlockButExit, Cond.selects RX7 yX7_isBlockButExit yX7_isBlockButExit, Cond.code yX7_isBlockButExit cX7_isBlockButExit 2 (some .boolean), Cond.methodLink RX7 78 yX7_has]
def wsX7_readStatement_r2 : List Cond := [Cond.static yX7_has, Cond.code yX7_has cX7_has 2 (some .boolean), Cond.methodLink RX7 44 yX7_putEdge, Cond.instanceMethod yX7_putEdge, Cond.selects RX7 yX7_putEdge yX7_putEdge, Cond.code yX7_putEdge cX7_putEdge 4 none, Cond.fieldLink RX7 25 "EdgeCounterPlacerModel" "readSource" "[I", Cond.fieldLink RX7 28 "EdgeCounterPlacerModel" "readTarget" "[I", Cond.fieldLink RX7 31 "EdgeCounterPlacerModel" "readWeight" "[I"]
def wsX7_readStatement : List Cond := .code yX7_readStatement cX7_readStatement 6 (some .int) :: ((wsX7_readStatement_r1 ++ wsX7_readStatement_r2) ++ wsX70)
def wsX7_readText_r1 : List Cond := [Cond.fieldLink RX7 40 "EdgeCounterPlacerModel" "readBlocks" "I", Cond.fieldLink RX7 51 "EdgeCounterPlacerModel" "readEdges" "I", Cond.fieldLink RX7 75 "EdgeCounterPlacerModel" "aborting" "I", Cond.fieldLink RX7 82 "EdgeCounterPlacerModel" "reason" "I", Cond.fieldLink RX7 54 "EdgeCounterPlacerModel" "at" "I", Cond.fieldLink RX7 57 "EdgeCounterPlacerModel" "length" "I", Cond.methodLink RX7 85 yX7_readStatement, Cond.instanceMethod yX7_readStatement, Cond.selects RX7 yX7_readStatement yX7_readStatement, Cond.initialized RX7, Cond.code yX7_readStatement cX7_readStatement 6 (some .int), Cond.fieldLink RX7 7 "EdgeCounterPlacerModel" "text" "[I", Cond.fieldLink RX7 34 "EdgeCounterPlacerModel" "numbers" "[I", Cond.methodLink RX7 68 yX7_readNumbers, Cond.instanceMethod yX7_readNumbers, Cond.selects RX7 yX7_readNumbers yX7_readNumbers, Cond.code yX7_readNumbers cX7_readNumbers 5 (some .boolean), Cond.methodLink RX7 64 yX7_isDigit, Cond.instanceMethod yX7_isDigit, Cond.selects RX7 yX7_isDigit yX7_isDigit, Cond.code yX7_isDigit cX7_isDigit 1 (some .boolean), Cond.methodLink RX7 60 yX7_in, Cond.static yX7_in, Cond.code yX7_in cX7_in 3 (some .boolean)]
def wsX7_readText_r2 : List Cond := [Cond.methodLink RX7 72 yX7_isBlockButExit, Cond.instanceMethod yX7_isBlockButExit, Cond.selects RX7 yX7_isBlockButExit yX7_isBlockButExit, Cond.code yX7_isBlockButExit cX7_isBlockButExit 2 (some .boolean), Cond.methodLink RX7 78 yX7_has, Cond.static yX7_has, Cond.code yX7_has cX7_has 2 (some .boolean), Cond.methodLink RX7 44 yX7_putEdge, Cond.instanceMethod yX7_putEdge, Cond.selects RX7 yX7_putEdge yX7_putEdge, Cond.code yX7_putEdge cX7_putEdge 4 none, Cond.fieldLink RX7 25 "EdgeCounterPlacerModel" "readSource" "[I", Cond.fieldLink RX7 28 "EdgeCounterPlacerModel" "readTarget" "[I", Cond.fieldLink RX7 31 "EdgeCounterPlacerModel" "readWeight" "[I"]
def wsX7_readText : List Cond := .code yX7_readText cX7_readText 2 (some .int) :: ((wsX7_readText_r1 ++ wsX7_readText_r2) ++ wsX70)
def wsX7_append : List Cond := .code yX7_append cX7_append 2 (some .int) :: ([.fieldLink RX7 57 "EdgeCounterPlacerModel" "length" "I", .fieldLink RX7 7 "EdgeCounterPlacerModel" "text" "[I", .methodLink RX7 60 yX7_in, .static yX7_in, .initialized RX7, .code yX7_in cX7_in 3 (some .boolean)] ++ wsX70)
def wsX7_clearText : List Cond := .code yX7_clearText cX7_clearText 2 (some .int) :: ([.fieldLink RX7 57 "EdgeCounterPlacerModel" "length" "I"] ++ wsX70)
def wsX7_firstError_r1 : List Cond := [Cond.methodLink RX7 89 yX7_readText, Cond.instanceMethod yX7_readText, Cond.selects RX7 yX7_readText yX7_readText, Cond.initialized RX7, Cond.code yX7_readText cX7_readText 2 (some .int), Cond.fieldLink RX7 40 "EdgeCounterPlacerModel" "readBlocks" "I", Cond.fieldLink RX7 51 "EdgeCounterPlacerModel" "readEdges" "I", Cond.fieldLink RX7 75 "EdgeCounterPlacerModel" "aborting" "I", Cond.fieldLink RX7 82 "EdgeCounterPlacerModel" "reason" "I", Cond.fieldLink RX7 54 "EdgeCounterPlacerModel" "at" "I", Cond.fieldLink RX7 57 "EdgeCounterPlacerModel" "length" "I", Cond.methodLink RX7 85 yX7_readStatement, Cond.instanceMethod yX7_readStatement, Cond.selects RX7 yX7_readStatement yX7_readStatement, Cond.code yX7_readStatement cX7_readStatement 6 (some .int), Cond.fieldLink RX7 7 "EdgeCounterPlacerModel" "text" "[I", Cond.fieldLink RX7 34 "EdgeCounterPlacerModel" "numbers" "[I", Cond.methodLink RX7 68 yX7_readNumbers, Cond.instanceMethod yX7_readNumbers, Cond.selects RX7 yX7_readNumbers yX7_readNumbers, Cond.code yX7_readNumbers cX7_readNumbers 5 (some .boolean), Cond.methodLink RX7 64 yX7_isDigit, Cond.instanceMethod yX7_isDigit, Cond.selects RX7 yX7_isDigit yX7_isDigit]
def wsX7_firstError_r2 : List Cond := [Cond.code yX7_isDigit cX7_isDigit 1 (some .boolean), Cond.methodLink RX7 60 yX7_in, Cond.static yX7_in, Cond.code yX7_in cX7_in 3 (some .boolean), Cond.methodLink RX7 72 yX7_isBlockButExit, Cond.instanceMethod yX7_isBlockButExit, Cond.selects RX7 yX7_isBlockButExit yX7_isBlockButExit, Cond.code yX7_isBlockButExit cX7_isBlockButExit 2 (some .boolean), Cond.methodLink RX7 78 yX7_has, Cond.static yX7_has, Cond.code yX7_has cX7_has 2 (some .boolean), Cond.methodLink RX7 44 yX7_putEdge, Cond.instanceMethod yX7_putEdge, Cond.selects RX7 yX7_putEdge yX7_putEdge, Cond.code yX7_putEdge cX7_putEdge 4 none, Cond.fieldLink RX7 25 "EdgeCounterPlacerModel" "readSource" "[I", Cond.fieldLink RX7 28 "EdgeCounterPlacerModel" "readTarget" "[I", Cond.fieldLink RX7 31 "EdgeCounterPlacerModel" "readWeight" "[I"]
def wsX7_firstError : List Cond := .code yX7_firstError cX7_firstError 1 (some .int) :: ((wsX7_firstError_r1 ++ wsX7_firstError_r2) ++ wsX70)
def wsX7_errorReason_r1 : List Cond := [Cond.fieldLink RX7 82 "EdgeCounterPlacerModel" "reason" "I", Cond.methodLink RX7 89 yX7_readText, Cond.instanceMethod yX7_readText, Cond.selects RX7 yX7_readText yX7_readText, Cond.initialized RX7, Cond.code yX7_readText cX7_readText 2 (some .int), Cond.fieldLink RX7 40 "EdgeCounterPlacerModel" "readBlocks" "I", Cond.fieldLink RX7 51 "EdgeCounterPlacerModel" "readEdges" "I", Cond.fieldLink RX7 75 "EdgeCounterPlacerModel" "aborting" "I", Cond.fieldLink RX7 54 "EdgeCounterPlacerModel" "at" "I", Cond.fieldLink RX7 57 "EdgeCounterPlacerModel" "length" "I", Cond.methodLink RX7 85 yX7_readStatement, Cond.instanceMethod yX7_readStatement, Cond.selects RX7 yX7_readStatement yX7_readStatement, Cond.code yX7_readStatement cX7_readStatement 6 (some .int), Cond.fieldLink RX7 7 "EdgeCounterPlacerModel" "text" "[I", Cond.fieldLink RX7 34 "EdgeCounterPlacerModel" "numbers" "[I", Cond.methodLink RX7 68 yX7_readNumbers, Cond.instanceMethod yX7_readNumbers, Cond.selects RX7 yX7_readNumbers yX7_readNumbers, Cond.code yX7_readNumbers cX7_readNumbers 5 (some .boolean), Cond.methodLink RX7 64 yX7_isDigit, Cond.instanceMethod yX7_isDigit, Cond.selects RX7 yX7_isDigit yX7_isDigit]
def wsX7_errorReason_r2 : List Cond := [Cond.code yX7_isDigit cX7_isDigit 1 (some .boolean), Cond.methodLink RX7 60 yX7_in, Cond.static yX7_in, Cond.code yX7_in cX7_in 3 (some .boolean), Cond.methodLink RX7 72 yX7_isBlockButExit, Cond.instanceMethod yX7_isBlockButExit, Cond.selects RX7 yX7_isBlockButExit yX7_isBlockButExit, Cond.code yX7_isBlockButExit cX7_isBlockButExit 2 (some .boolean), Cond.methodLink RX7 78 yX7_has, Cond.static yX7_has, Cond.code yX7_has cX7_has 2 (some .boolean), Cond.methodLink RX7 44 yX7_putEdge, Cond.instanceMethod yX7_putEdge, Cond.selects RX7 yX7_putEdge yX7_putEdge, Cond.code yX7_putEdge cX7_putEdge 4 none, Cond.fieldLink RX7 25 "EdgeCounterPlacerModel" "readSource" "[I", Cond.fieldLink RX7 28 "EdgeCounterPlacerModel" "readTarget" "[I", Cond.fieldLink RX7 31 "EdgeCounterPlacerModel" "readWeight" "[I"]
def wsX7_errorReason : List Cond := .code yX7_errorReason cX7_errorReason 2 (some .int) :: ((wsX7_errorReason_r1 ++ wsX7_errorReason_r2) ++ wsX70)
def wsX7_isComplete : List Cond := .code yX7_isComplete cX7_isComplete 6 (some .boolean) :: ([.fieldLink RX7 40 "EdgeCounterPlacerModel" "readBlocks" "I", .fieldLink RX7 51 "EdgeCounterPlacerModel" "readEdges" "I", .fieldLink RX7 25 "EdgeCounterPlacerModel" "readSource" "[I", .fieldLink RX7 28 "EdgeCounterPlacerModel" "readTarget" "[I"] ++ wsX70)
def wsX7_configure_r1 : List Cond := [Cond.fieldLink RX7 57 "EdgeCounterPlacerModel" "length" "I", Cond.fieldLink RX7 95 "EdgeCounterPlacerModel" "edges" "I", Cond.methodLink RX7 89 yX7_readText, Cond.instanceMethod yX7_readText, Cond.selects RX7 yX7_readText yX7_readText, Cond.initialized RX7, Cond.code yX7_readText cX7_readText 2 (some .int), Cond.fieldLink RX7 40 "EdgeCounterPlacerModel" "readBlocks" "I", Cond.fieldLink RX7 51 "EdgeCounterPlacerModel" "readEdges" "I", Cond.fieldLink RX7 75 "EdgeCounterPlacerModel" "aborting" "I", Cond.fieldLink RX7 82 "EdgeCounterPlacerModel" "reason" "I", Cond.fieldLink RX7 54 "EdgeCounterPlacerModel" "at" "I", Cond.methodLink RX7 85 yX7_readStatement, Cond.instanceMethod yX7_readStatement, Cond.selects RX7 yX7_readStatement yX7_readStatement, Cond.code yX7_readStatement cX7_readStatement 6 (some .int), Cond.fieldLink RX7 7 "EdgeCounterPlacerModel" "text" "[I", Cond.fieldLink RX7 34 "EdgeCounterPlacerModel" "numbers" "[I", Cond.methodLink RX7 68 yX7_readNumbers, Cond.instanceMethod yX7_readNumbers, Cond.selects RX7 yX7_readNumbers yX7_readNumbers, Cond.code yX7_readNumbers cX7_readNumbers 5 (some .boolean), Cond.methodLink RX7 64 yX7_isDigit, Cond.instanceMethod yX7_isDigit]
def wsX7_configure_r2 : List Cond := [Cond.selects RX7 yX7_isDigit yX7_isDigit, Cond.code yX7_isDigit cX7_isDigit 1 (some .boolean), Cond.methodLink RX7 60 yX7_in, Cond.static yX7_in, Cond.code yX7_in cX7_in 3 (some .boolean), Cond.methodLink RX7 72 yX7_isBlockButExit, Cond.instanceMethod yX7_isBlockButExit, Cond.selects RX7 yX7_isBlockButExit yX7_isBlockButExit, Cond.code yX7_isBlockButExit cX7_isBlockButExit 2 (some .boolean), Cond.methodLink RX7 78 yX7_has, Cond.static yX7_has, Cond.code yX7_has cX7_has 2 (some .boolean), Cond.methodLink RX7 44 yX7_putEdge, Cond.instanceMethod yX7_putEdge, Cond.selects RX7 yX7_putEdge yX7_putEdge, Cond.code yX7_putEdge cX7_putEdge 4 none, Cond.fieldLink RX7 25 "EdgeCounterPlacerModel" "readSource" "[I", Cond.fieldLink RX7 28 "EdgeCounterPlacerModel" "readTarget" "[I", Cond.fieldLink RX7 31 "EdgeCounterPlacerModel" "readWeight" "[I", Cond.methodLink RX7 108 yX7_isComplete, Cond.instanceMethod yX7_isComplete, Cond.selects RX7 yX7_isComplete yX7_isComplete, Cond.code yX7_isComplete cX7_isComplete 6 (some .boolean), Cond.methodLink RX7 48 yX7_takeGraph]
def wsX7_configure_r3 : List Cond := [Cond.instanceMethod yX7_takeGraph, Cond.selects RX7 yX7_takeGraph yX7_takeGraph, Cond.code yX7_takeGraph cX7_takeGraph 2 none, Cond.fieldLink RX7 92 "EdgeCounterPlacerModel" "blocks" "I", Cond.fieldLink RX7 13 "EdgeCounterPlacerModel" "source" "[I", Cond.fieldLink RX7 16 "EdgeCounterPlacerModel" "target" "[I", Cond.fieldLink RX7 19 "EdgeCounterPlacerModel" "now" "[I", Cond.constant RX7 98 (60000), Cond.fieldLink RX7 99 "EdgeCounterPlacerModel" "undoable" "I", Cond.methodLink RX7 102 yX7_findTree, Cond.instanceMethod yX7_findTree, Cond.selects RX7 yX7_findTree yX7_findTree, Cond.code yX7_findTree cX7_findTree 4 none, Cond.methodLink RX7 111 yX7_sideOf, Cond.instanceMethod yX7_sideOf, Cond.selects RX7 yX7_sideOf yX7_sideOf, Cond.code yX7_sideOf cX7_sideOf 9 (some .int), Cond.methodLink RX7 105 yX7_resetCounts, Cond.instanceMethod yX7_resetCounts, Cond.selects RX7 yX7_resetCounts yX7_resetCounts, Cond.code yX7_resetCounts cX7_resetCounts 2 none]
def wsX7_configure : List Cond := .code yX7_configure cX7_configure 1 (some .int) :: ((wsX7_configure_r1 ++ (wsX7_configure_r2 ++ wsX7_configure_r3)) ++ wsX70)
def wsX7_save : List Cond := .code yX7_save cX7_save 2 none :: ([.fieldLink RX7 99 "EdgeCounterPlacerModel" "undoable" "I", .fieldLink RX7 22 "EdgeCounterPlacerModel" "history" "[I", .fieldLink RX7 19 "EdgeCounterPlacerModel" "now" "[I"] ++ wsX70)
def wsX7_undo : List Cond := .code yX7_undo cX7_undo 2 (some .int) :: ([.fieldLink RX7 99 "EdgeCounterPlacerModel" "undoable" "I", .fieldLink RX7 19 "EdgeCounterPlacerModel" "now" "[I", .fieldLink RX7 22 "EdgeCounterPlacerModel" "history" "[I"] ++ wsX70)
def wsX7_isEdge : List Cond := .code yX7_isEdge cX7_isEdge 2 (some .boolean) :: ([.fieldLink RX7 95 "EdgeCounterPlacerModel" "edges" "I", .methodLink RX7 60 yX7_in, .static yX7_in, .initialized RX7, .code yX7_in cX7_in 3 (some .boolean)] ++ wsX70)
def wsX7_isTree : List Cond := .code yX7_isTree cX7_isTree 2 (some .boolean) :: ([.fieldLink RX7 19 "EdgeCounterPlacerModel" "now" "[I"] ++ wsX70)
def wsX7_setWeight_r1 : List Cond := [Cond.fieldLink RX7 19 "EdgeCounterPlacerModel" "now" "[I", Cond.methodLink RX7 115 yX7_isEdge, Cond.instanceMethod yX7_isEdge, Cond.selects RX7 yX7_isEdge yX7_isEdge, Cond.initialized RX7, Cond.code yX7_isEdge cX7_isEdge 2 (some .boolean), Cond.fieldLink RX7 95 "EdgeCounterPlacerModel" "edges" "I", Cond.methodLink RX7 60 yX7_in, Cond.static yX7_in, Cond.code yX7_in cX7_in 3 (some .boolean), Cond.methodLink RX7 118 yX7_save, Cond.instanceMethod yX7_save, Cond.selects RX7 yX7_save yX7_save, Cond.code yX7_save cX7_save 2 none, Cond.fieldLink RX7 99 "EdgeCounterPlacerModel" "undoable" "I", Cond.fieldLink RX7 22 "EdgeCounterPlacerModel" "history" "[I", Cond.methodLink RX7 102 yX7_findTree, Cond.instanceMethod yX7_findTree, Cond.selects RX7 yX7_findTree yX7_findTree, Cond.code yX7_findTree cX7_findTree 4 none, Cond.fieldLink RX7 13 "EdgeCounterPlacerModel" "source" "[I", Cond.fieldLink RX7 16 "EdgeCounterPlacerModel" "target" "[I", Cond.methodLink RX7 111 yX7_sideOf, Cond.instanceMethod yX7_sideOf]
def wsX7_setWeight_r2 : List Cond := [Cond.selects RX7 yX7_sideOf yX7_sideOf, Cond.code yX7_sideOf cX7_sideOf 9 (some .int), Cond.fieldLink RX7 92 "EdgeCounterPlacerModel" "blocks" "I", Cond.methodLink RX7 78 yX7_has, Cond.static yX7_has, Cond.code yX7_has cX7_has 2 (some .boolean), Cond.methodLink RX7 105 yX7_resetCounts, Cond.instanceMethod yX7_resetCounts, Cond.selects RX7 yX7_resetCounts yX7_resetCounts, Cond.code yX7_resetCounts cX7_resetCounts 2 none]
def wsX7_setWeight : List Cond := .code yX7_setWeight cX7_setWeight 4 (some .int) :: ((wsX7_setWeight_r1 ++ wsX7_setWeight_r2) ++ wsX70)
def wsX7_setCounterLimit : List Cond := .code yX7_setCounterLimit cX7_setCounterLimit 3 (some .int) :: ([.constant RX7 98 (60000), .fieldLink RX7 19 "EdgeCounterPlacerModel" "now" "[I", .methodLink RX7 60 yX7_in, .static yX7_in, .initialized RX7, .code yX7_in cX7_in 3 (some .boolean), .methodLink RX7 118 yX7_save, .instanceMethod yX7_save, .selects RX7 yX7_save yX7_save, .code yX7_save cX7_save 2 none, .fieldLink RX7 99 "EdgeCounterPlacerModel" "undoable" "I", .fieldLink RX7 22 "EdgeCounterPlacerModel" "history" "[I", .methodLink RX7 105 yX7_resetCounts, .instanceMethod yX7_resetCounts, .selects RX7 yX7_resetCounts yX7_resetCounts, .code yX7_resetCounts cX7_resetCounts 2 none] ++ wsX70)
def wsX7_pass : List Cond := .code yX7_pass cX7_pass 3 none :: ([.fieldLink RX7 19 "EdgeCounterPlacerModel" "now" "[I", .fieldLink RX7 16 "EdgeCounterPlacerModel" "target" "[I", .fieldLink RX7 92 "EdgeCounterPlacerModel" "blocks" "I", .methodLink RX7 121 yX7_isTree, .instanceMethod yX7_isTree, .selects RX7 yX7_isTree yX7_isTree, .initialized RX7, .code yX7_isTree cX7_isTree 2 (some .boolean)] ++ wsX70)
def wsX7_follow_r1 : List Cond := [Cond.fieldLink RX7 13 "EdgeCounterPlacerModel" "source" "[I", Cond.fieldLink RX7 19 "EdgeCounterPlacerModel" "now" "[I", Cond.methodLink RX7 115 yX7_isEdge, Cond.instanceMethod yX7_isEdge, Cond.selects RX7 yX7_isEdge yX7_isEdge, Cond.initialized RX7, Cond.code yX7_isEdge cX7_isEdge 2 (some .boolean), Cond.fieldLink RX7 95 "EdgeCounterPlacerModel" "edges" "I", Cond.methodLink RX7 60 yX7_in, Cond.static yX7_in, Cond.code yX7_in cX7_in 3 (some .boolean), Cond.methodLink RX7 118 yX7_save, Cond.instanceMethod yX7_save, Cond.selects RX7 yX7_save yX7_save, Cond.code yX7_save cX7_save 2 none, Cond.fieldLink RX7 99 "EdgeCounterPlacerModel" "undoable" "I", Cond.fieldLink RX7 22 "EdgeCounterPlacerModel" "history" "[I", Cond.methodLink RX7 124 yX7_pass, Cond.instanceMethod yX7_pass, Cond.selects RX7 yX7_pass yX7_pass, Cond.code yX7_pass cX7_pass 3 none, Cond.fieldLink RX7 16 "EdgeCounterPlacerModel" "target" "[I", Cond.fieldLink RX7 92 "EdgeCounterPlacerModel" "blocks" "I", Cond.methodLink RX7 121 yX7_isTree]
def wsX7_follow_r2 : List Cond := [Cond.instanceMethod yX7_isTree, Cond.selects RX7 yX7_isTree yX7_isTree, Cond.code yX7_isTree cX7_isTree 2 (some .boolean)]
def wsX7_follow : List Cond := .code yX7_follow cX7_follow 2 (some .int) :: ((wsX7_follow_r1 ++ wsX7_follow_r2) ++ wsX70)
def wsX7_leavingEdge : List Cond := .code yX7_leavingEdge cX7_leavingEdge 4 (some .int) :: ([.fieldLink RX7 95 "EdgeCounterPlacerModel" "edges" "I", .fieldLink RX7 13 "EdgeCounterPlacerModel" "source" "[I", .fieldLink RX7 19 "EdgeCounterPlacerModel" "now" "[I"] ++ wsX70)
def wsX7_leavingCount : List Cond := .code yX7_leavingCount cX7_leavingCount 3 (some .int) :: ([.fieldLink RX7 95 "EdgeCounterPlacerModel" "edges" "I", .fieldLink RX7 13 "EdgeCounterPlacerModel" "source" "[I", .fieldLink RX7 19 "EdgeCounterPlacerModel" "now" "[I"] ++ wsX70)
def wsX7_drive_r1 : List Cond := [Cond.fieldLink RX7 19 "EdgeCounterPlacerModel" "now" "[I", Cond.constantLong RX7 128 (7919), Cond.constantLong RX7 130 (6151), Cond.constantLong RX7 132 (65521), Cond.methodLink RX7 60 yX7_in, Cond.static yX7_in, Cond.initialized RX7, Cond.code yX7_in cX7_in 3 (some .boolean), Cond.methodLink RX7 118 yX7_save, Cond.instanceMethod yX7_save, Cond.selects RX7 yX7_save yX7_save, Cond.code yX7_save cX7_save 2 none, Cond.fieldLink RX7 99 "EdgeCounterPlacerModel" "undoable" "I", Cond.fieldLink RX7 22 "EdgeCounterPlacerModel" "history" "[I", Cond.methodLink RX7 134 yX7_leavingCount, Cond.instanceMethod yX7_leavingCount, Cond.selects RX7 yX7_leavingCount yX7_leavingCount, Cond.code yX7_leavingCount cX7_leavingCount 3 (some .int), Cond.fieldLink RX7 95 "EdgeCounterPlacerModel" "edges" "I", Cond.fieldLink RX7 13 "EdgeCounterPlacerModel" "source" "[I", Cond.methodLink RX7 137 yX7_leavingEdge, Cond.instanceMethod yX7_leavingEdge, Cond.selects RX7 yX7_leavingEdge yX7_leavingEdge, Cond.code yX7_leavingEdge cX7_leavingEdge 4 (some .int)]
def wsX7_drive_r2 : List Cond := [Cond.methodLink RX7 124 yX7_pass, Cond.instanceMethod yX7_pass, Cond.selects RX7 yX7_pass yX7_pass, Cond.code yX7_pass cX7_pass 3 none, Cond.fieldLink RX7 16 "EdgeCounterPlacerModel" "target" "[I", Cond.fieldLink RX7 92 "EdgeCounterPlacerModel" "blocks" "I", Cond.methodLink RX7 121 yX7_isTree, Cond.instanceMethod yX7_isTree, Cond.selects RX7 yX7_isTree yX7_isTree, Cond.code yX7_isTree cX7_isTree 2 (some .boolean)]
def wsX7_drive : List Cond := .code yX7_drive cX7_drive 9 (some .int) :: ((wsX7_drive_r1 ++ wsX7_drive_r2) ++ wsX70)
def wsX7_isSaturated : List Cond := .code yX7_isSaturated cX7_isSaturated 2 (some .boolean) :: ([.fieldLink RX7 19 "EdgeCounterPlacerModel" "now" "[I", .methodLink RX7 121 yX7_isTree, .instanceMethod yX7_isTree, .selects RX7 yX7_isTree yX7_isTree, .initialized RX7, .code yX7_isTree cX7_isTree 2 (some .boolean)] ++ wsX70)
def wsX7_factor : List Cond := .code yX7_factor cX7_factor 3 (some .int) :: ([])
def wsX7_factorOf : List Cond := .code yX7_factorOf cX7_factorOf 3 (some .int) :: ([.fieldLink RX7 16 "EdgeCounterPlacerModel" "target" "[I", .fieldLink RX7 13 "EdgeCounterPlacerModel" "source" "[I", .methodLink RX7 111 yX7_sideOf, .instanceMethod yX7_sideOf, .selects RX7 yX7_sideOf yX7_sideOf, .initialized RX7, .code yX7_sideOf cX7_sideOf 9 (some .int), .fieldLink RX7 92 "EdgeCounterPlacerModel" "blocks" "I", .fieldLink RX7 95 "EdgeCounterPlacerModel" "edges" "I", .fieldLink RX7 19 "EdgeCounterPlacerModel" "now" "[I", .methodLink RX7 147 yX7_factor, .static yX7_factor, .code yX7_factor cX7_factor 3 (some .int)] ++ wsX70)
def wsX7_isUncertain_r1 : List Cond := [Cond.fieldLink RX7 95 "EdgeCounterPlacerModel" "edges" "I", Cond.methodLink RX7 121 yX7_isTree, Cond.instanceMethod yX7_isTree, Cond.selects RX7 yX7_isTree yX7_isTree, Cond.initialized RX7, Cond.code yX7_isTree cX7_isTree 2 (some .boolean), Cond.fieldLink RX7 19 "EdgeCounterPlacerModel" "now" "[I", Cond.methodLink RX7 151 yX7_isSaturated, Cond.instanceMethod yX7_isSaturated, Cond.selects RX7 yX7_isSaturated yX7_isSaturated, Cond.code yX7_isSaturated cX7_isSaturated 2 (some .boolean), Cond.methodLink RX7 154 yX7_factorOf, Cond.instanceMethod yX7_factorOf, Cond.selects RX7 yX7_factorOf yX7_factorOf, Cond.code yX7_factorOf cX7_factorOf 3 (some .int), Cond.fieldLink RX7 16 "EdgeCounterPlacerModel" "target" "[I", Cond.fieldLink RX7 13 "EdgeCounterPlacerModel" "source" "[I", Cond.methodLink RX7 111 yX7_sideOf, Cond.instanceMethod yX7_sideOf, Cond.selects RX7 yX7_sideOf yX7_sideOf, Cond.code yX7_sideOf cX7_sideOf 9 (some .int), Cond.fieldLink RX7 92 "EdgeCounterPlacerModel" "blocks" "I", Cond.methodLink RX7 147 yX7_factor, Cond.static yX7_factor]
def wsX7_isUncertain_r2 : List Cond := [Cond.code yX7_factor cX7_factor 3 (some .int)]
def wsX7_isUncertain : List Cond := .code yX7_isUncertain cX7_isUncertain 4 (some .boolean) :: ((wsX7_isUncertain_r1 ++ wsX7_isUncertain_r2) ++ wsX70)
def wsX7_countOf : List Cond := .code yX7_countOf cX7_countOf 5 (some .int) :: ([.fieldLink RX7 19 "EdgeCounterPlacerModel" "now" "[I", .fieldLink RX7 16 "EdgeCounterPlacerModel" "target" "[I", .fieldLink RX7 92 "EdgeCounterPlacerModel" "blocks" "I", .fieldLink RX7 95 "EdgeCounterPlacerModel" "edges" "I", .fieldLink RX7 13 "EdgeCounterPlacerModel" "source" "[I", .methodLink RX7 121 yX7_isTree, .instanceMethod yX7_isTree, .selects RX7 yX7_isTree yX7_isTree, .initialized RX7, .code yX7_isTree cX7_isTree 2 (some .boolean), .methodLink RX7 111 yX7_sideOf, .instanceMethod yX7_sideOf, .selects RX7 yX7_sideOf yX7_sideOf, .code yX7_sideOf cX7_sideOf 9 (some .int), .methodLink RX7 147 yX7_factor, .static yX7_factor, .code yX7_factor cX7_factor 3 (some .int)] ++ wsX70)
def wsX7_adoptCounts_r1 : List Cond := [Cond.fieldLink RX7 95 "EdgeCounterPlacerModel" "edges" "I", Cond.fieldLink RX7 37 "EdgeCounterPlacerModel" "adopted" "[I", Cond.fieldLink RX7 19 "EdgeCounterPlacerModel" "now" "[I", Cond.methodLink RX7 141 yX7_isUncertain, Cond.instanceMethod yX7_isUncertain, Cond.selects RX7 yX7_isUncertain yX7_isUncertain, Cond.initialized RX7, Cond.code yX7_isUncertain cX7_isUncertain 4 (some .boolean), Cond.methodLink RX7 121 yX7_isTree, Cond.instanceMethod yX7_isTree, Cond.selects RX7 yX7_isTree yX7_isTree, Cond.code yX7_isTree cX7_isTree 2 (some .boolean), Cond.methodLink RX7 151 yX7_isSaturated, Cond.instanceMethod yX7_isSaturated, Cond.selects RX7 yX7_isSaturated yX7_isSaturated, Cond.code yX7_isSaturated cX7_isSaturated 2 (some .boolean), Cond.methodLink RX7 154 yX7_factorOf, Cond.instanceMethod yX7_factorOf, Cond.selects RX7 yX7_factorOf yX7_factorOf, Cond.code yX7_factorOf cX7_factorOf 3 (some .int), Cond.fieldLink RX7 16 "EdgeCounterPlacerModel" "target" "[I", Cond.fieldLink RX7 13 "EdgeCounterPlacerModel" "source" "[I", Cond.methodLink RX7 111 yX7_sideOf, Cond.instanceMethod yX7_sideOf]
def wsX7_adoptCounts_r2 : List Cond := [Cond.selects RX7 yX7_sideOf yX7_sideOf, Cond.code yX7_sideOf cX7_sideOf 9 (some .int), Cond.fieldLink RX7 92 "EdgeCounterPlacerModel" "blocks" "I", Cond.methodLink RX7 147 yX7_factor, Cond.static yX7_factor, Cond.code yX7_factor cX7_factor 3 (some .int), Cond.methodLink RX7 118 yX7_save, Cond.instanceMethod yX7_save, Cond.selects RX7 yX7_save yX7_save, Cond.code yX7_save cX7_save 2 none, Cond.fieldLink RX7 99 "EdgeCounterPlacerModel" "undoable" "I", Cond.fieldLink RX7 22 "EdgeCounterPlacerModel" "history" "[I", Cond.methodLink RX7 144 yX7_countOf, Cond.instanceMethod yX7_countOf, Cond.selects RX7 yX7_countOf yX7_countOf, Cond.code yX7_countOf cX7_countOf 5 (some .int), Cond.methodLink RX7 102 yX7_findTree, Cond.instanceMethod yX7_findTree, Cond.selects RX7 yX7_findTree yX7_findTree, Cond.code yX7_findTree cX7_findTree 4 none, Cond.methodLink RX7 78 yX7_has, Cond.static yX7_has, Cond.code yX7_has cX7_has 2 (some .boolean), Cond.methodLink RX7 105 yX7_resetCounts]
def wsX7_adoptCounts_r3 : List Cond := [Cond.instanceMethod yX7_resetCounts, Cond.selects RX7 yX7_resetCounts yX7_resetCounts, Cond.code yX7_resetCounts cX7_resetCounts 2 none]
def wsX7_adoptCounts : List Cond := .code yX7_adoptCounts cX7_adoptCounts 4 (some .int) :: ((wsX7_adoptCounts_r1 ++ (wsX7_adoptCounts_r2 ++ wsX7_adoptCounts_r3)) ++ wsX70)
def wsX7_blockCount : List Cond := .code yX7_blockCount cX7_blockCount 1 (some .int) :: ([.fieldLink RX7 92 "EdgeCounterPlacerModel" "blocks" "I"] ++ wsX70)
def wsX7_sourceOf : List Cond := .code yX7_sourceOf cX7_sourceOf 2 (some .int) :: ([.fieldLink RX7 13 "EdgeCounterPlacerModel" "source" "[I", .methodLink RX7 115 yX7_isEdge, .instanceMethod yX7_isEdge, .selects RX7 yX7_isEdge yX7_isEdge, .initialized RX7, .code yX7_isEdge cX7_isEdge 2 (some .boolean), .fieldLink RX7 95 "EdgeCounterPlacerModel" "edges" "I", .methodLink RX7 60 yX7_in, .static yX7_in, .code yX7_in cX7_in 3 (some .boolean)] ++ wsX70)
def wsX7_targetOf : List Cond := .code yX7_targetOf cX7_targetOf 2 (some .int) :: ([.fieldLink RX7 16 "EdgeCounterPlacerModel" "target" "[I", .methodLink RX7 115 yX7_isEdge, .instanceMethod yX7_isEdge, .selects RX7 yX7_isEdge yX7_isEdge, .initialized RX7, .code yX7_isEdge cX7_isEdge 2 (some .boolean), .fieldLink RX7 95 "EdgeCounterPlacerModel" "edges" "I", .methodLink RX7 60 yX7_in, .static yX7_in, .code yX7_in cX7_in 3 (some .boolean)] ++ wsX70)
def wsX7_weightOf : List Cond := .code yX7_weightOf cX7_weightOf 2 (some .int) :: ([.fieldLink RX7 19 "EdgeCounterPlacerModel" "now" "[I", .methodLink RX7 115 yX7_isEdge, .instanceMethod yX7_isEdge, .selects RX7 yX7_isEdge yX7_isEdge, .initialized RX7, .code yX7_isEdge cX7_isEdge 2 (some .boolean), .fieldLink RX7 95 "EdgeCounterPlacerModel" "edges" "I", .methodLink RX7 60 yX7_in, .static yX7_in, .code yX7_in cX7_in 3 (some .boolean)] ++ wsX70)
def wsX7_hasCounter : List Cond := .code yX7_hasCounter cX7_hasCounter 2 (some .int) :: ([.methodLink RX7 115 yX7_isEdge, .instanceMethod yX7_isEdge, .selects RX7 yX7_isEdge yX7_isEdge, .initialized RX7, .code yX7_isEdge cX7_isEdge 2 (some .boolean), .fieldLink RX7 95 "EdgeCounterPlacerModel" "edges" "I", .methodLink RX7 60 yX7_in, .static yX7_in, .code yX7_in cX7_in 3 (some .boolean), .methodLink RX7 121 yX7_isTree, .instanceMethod yX7_isTree, .selects RX7 yX7_isTree yX7_isTree, .code yX7_isTree cX7_isTree 2 (some .boolean), .fieldLink RX7 19 "EdgeCounterPlacerModel" "now" "[I"] ++ wsX70)
def wsX7_counterCount : List Cond := .code yX7_counterCount cX7_counterCount 3 (some .int) :: ([.fieldLink RX7 95 "EdgeCounterPlacerModel" "edges" "I", .methodLink RX7 121 yX7_isTree, .instanceMethod yX7_isTree, .selects RX7 yX7_isTree yX7_isTree, .initialized RX7, .code yX7_isTree cX7_isTree 2 (some .boolean), .fieldLink RX7 19 "EdgeCounterPlacerModel" "now" "[I"] ++ wsX70)
def wsX7_weightSum : List Cond := .code yX7_weightSum cX7_weightSum 4 (some .int) :: ([.fieldLink RX7 95 "EdgeCounterPlacerModel" "edges" "I", .fieldLink RX7 19 "EdgeCounterPlacerModel" "now" "[I", .methodLink RX7 121 yX7_isTree, .instanceMethod yX7_isTree, .selects RX7 yX7_isTree yX7_isTree, .initialized RX7, .code yX7_isTree cX7_isTree 2 (some .boolean)] ++ wsX70)
def wsX7_placementCost : List Cond := .code yX7_placementCost cX7_placementCost 1 (some .int) :: ([.methodLink RX7 157 yX7_weightSum, .instanceMethod yX7_weightSum, .selects RX7 yX7_weightSum yX7_weightSum, .initialized RX7, .code yX7_weightSum cX7_weightSum 4 (some .int), .fieldLink RX7 95 "EdgeCounterPlacerModel" "edges" "I", .fieldLink RX7 19 "EdgeCounterPlacerModel" "now" "[I", .methodLink RX7 121 yX7_isTree, .instanceMethod yX7_isTree, .selects RX7 yX7_isTree yX7_isTree, .code yX7_isTree cX7_isTree 2 (some .boolean)] ++ wsX70)
def wsJxf58ca_isNaN_12338 : List Cond := .code yJxf58ca_isNaN_12338 cJxf58ca_isNaN_12338 1 (some .boolean) :: ([])
def wsJxf58ca_floatToIntBits_5c35a : List Cond := .code yJxf58ca_floatToIntBits_5c35a cJxf58ca_floatToIntBits_5c35a 1 (some .int) :: ([.methodLink RJxf58ca 74 ⟨"java/lang/Float", "floatToRawIntBits", "(F)I"⟩, .native ⟨"java/lang/Float", "floatToRawIntBits", "(F)I"⟩, .static ⟨"java/lang/Float", "floatToRawIntBits", "(F)I"⟩, .initialized "java/lang/Float", .constant RJxf58ca 77 (2143289344), .methodLink RJxf58ca 59 yJxf58ca_isNaN_12338, .static yJxf58ca_isNaN_12338, .initialized RJxf58ca, .code yJxf58ca_isNaN_12338 cJxf58ca_isNaN_12338 1 (some .boolean)])
def wsX7_costShareBits : List Cond := .code yX7_costShareBits cX7_costShareBits 2 (some .int) :: ([.methodLink RX7 157 yX7_weightSum, .instanceMethod yX7_weightSum, .selects RX7 yX7_weightSum yX7_weightSum, .initialized RX7, .code yX7_weightSum cX7_weightSum 4 (some .int), .fieldLink RX7 95 "EdgeCounterPlacerModel" "edges" "I", .fieldLink RX7 19 "EdgeCounterPlacerModel" "now" "[I", .methodLink RX7 121 yX7_isTree, .instanceMethod yX7_isTree, .selects RX7 yX7_isTree yX7_isTree, .code yX7_isTree cX7_isTree 2 (some .boolean), .methodLink RX7 161 yJxf58ca_floatToIntBits_5c35a, .static yJxf58ca_floatToIntBits_5c35a, .initialized RJxf58ca, .code yJxf58ca_floatToIntBits_5c35a cJxf58ca_floatToIntBits_5c35a 1 (some .int), .methodLink RJxf58ca 74 ⟨"java/lang/Float", "floatToRawIntBits", "(F)I"⟩, .native ⟨"java/lang/Float", "floatToRawIntBits", "(F)I"⟩, .static ⟨"java/lang/Float", "floatToRawIntBits", "(F)I"⟩, .initialized "java/lang/Float", .constant RJxf58ca 77 (2143289344), .methodLink RJxf58ca 59 yJxf58ca_isNaN_12338, .static yJxf58ca_isNaN_12338, .code yJxf58ca_isNaN_12338 cJxf58ca_isNaN_12338 1 (some .boolean)] ++ wsX70)
def wsX7_counter : List Cond := .code yX7_counter cX7_counter 2 (some .int) :: ([.fieldLink RX7 19 "EdgeCounterPlacerModel" "now" "[I", .methodLink RX7 115 yX7_isEdge, .instanceMethod yX7_isEdge, .selects RX7 yX7_isEdge yX7_isEdge, .initialized RX7, .code yX7_isEdge cX7_isEdge 2 (some .boolean), .fieldLink RX7 95 "EdgeCounterPlacerModel" "edges" "I", .methodLink RX7 60 yX7_in, .static yX7_in, .code yX7_in cX7_in 3 (some .boolean), .methodLink RX7 121 yX7_isTree, .instanceMethod yX7_isTree, .selects RX7 yX7_isTree yX7_isTree, .code yX7_isTree cX7_isTree 2 (some .boolean)] ++ wsX70)
def wsX7_trueCount : List Cond := .code yX7_trueCount cX7_trueCount 2 (some .int) :: ([.fieldLink RX7 19 "EdgeCounterPlacerModel" "now" "[I", .methodLink RX7 115 yX7_isEdge, .instanceMethod yX7_isEdge, .selects RX7 yX7_isEdge yX7_isEdge, .initialized RX7, .code yX7_isEdge cX7_isEdge 2 (some .boolean), .fieldLink RX7 95 "EdgeCounterPlacerModel" "edges" "I", .methodLink RX7 60 yX7_in, .static yX7_in, .code yX7_in cX7_in 3 (some .boolean)] ++ wsX70)
def wsX7_reconstruct_r1 : List Cond := [Cond.methodLink RX7 115 yX7_isEdge, Cond.instanceMethod yX7_isEdge, Cond.selects RX7 yX7_isEdge yX7_isEdge, Cond.initialized RX7, Cond.code yX7_isEdge cX7_isEdge 2 (some .boolean), Cond.fieldLink RX7 95 "EdgeCounterPlacerModel" "edges" "I", Cond.methodLink RX7 60 yX7_in, Cond.static yX7_in, Cond.code yX7_in cX7_in 3 (some .boolean), Cond.methodLink RX7 141 yX7_isUncertain, Cond.instanceMethod yX7_isUncertain, Cond.selects RX7 yX7_isUncertain yX7_isUncertain, Cond.code yX7_isUncertain cX7_isUncertain 4 (some .boolean), Cond.methodLink RX7 121 yX7_isTree, Cond.instanceMethod yX7_isTree, Cond.selects RX7 yX7_isTree yX7_isTree, Cond.code yX7_isTree cX7_isTree 2 (some .boolean), Cond.fieldLink RX7 19 "EdgeCounterPlacerModel" "now" "[I", Cond.methodLink RX7 151 yX7_isSaturated, Cond.instanceMethod yX7_isSaturated, Cond.selects RX7 yX7_isSaturated yX7_isSaturated, Cond.code yX7_isSaturated cX7_isSaturated 2 (some .boolean), Cond.methodLink RX7 154 yX7_factorOf, Cond.instanceMethod yX7_factorOf]
def wsX7_reconstruct_r2 : List Cond := [Cond.selects RX7 yX7_factorOf yX7_factorOf, Cond.code yX7_factorOf cX7_factorOf 3 (some .int), Cond.fieldLink RX7 16 "EdgeCounterPlacerModel" "target" "[I", Cond.fieldLink RX7 13 "EdgeCounterPlacerModel" "source" "[I", Cond.methodLink RX7 111 yX7_sideOf, Cond.instanceMethod yX7_sideOf, Cond.selects RX7 yX7_sideOf yX7_sideOf, Cond.code yX7_sideOf cX7_sideOf 9 (some .int), Cond.fieldLink RX7 92 "EdgeCounterPlacerModel" "blocks" "I", Cond.methodLink RX7 147 yX7_factor, Cond.static yX7_factor, Cond.code yX7_factor cX7_factor 3 (some .int), Cond.methodLink RX7 144 yX7_countOf, Cond.instanceMethod yX7_countOf, Cond.selects RX7 yX7_countOf yX7_countOf, Cond.code yX7_countOf cX7_countOf 5 (some .int)]
def wsX7_reconstruct : List Cond := .code yX7_reconstruct cX7_reconstruct 2 (some .int) :: ((wsX7_reconstruct_r1 ++ wsX7_reconstruct_r2) ++ wsX70)
def wsX7_coefficient_r1 : List Cond := [Cond.methodLink RX7 115 yX7_isEdge, Cond.instanceMethod yX7_isEdge, Cond.selects RX7 yX7_isEdge yX7_isEdge, Cond.initialized RX7, Cond.code yX7_isEdge cX7_isEdge 2 (some .boolean), Cond.fieldLink RX7 95 "EdgeCounterPlacerModel" "edges" "I", Cond.methodLink RX7 60 yX7_in, Cond.static yX7_in, Cond.code yX7_in cX7_in 3 (some .boolean), Cond.methodLink RX7 121 yX7_isTree, Cond.instanceMethod yX7_isTree, Cond.selects RX7 yX7_isTree yX7_isTree, Cond.code yX7_isTree cX7_isTree 2 (some .boolean), Cond.fieldLink RX7 19 "EdgeCounterPlacerModel" "now" "[I", Cond.methodLink RX7 154 yX7_factorOf, Cond.instanceMethod yX7_factorOf, Cond.selects RX7 yX7_factorOf yX7_factorOf, Cond.code yX7_factorOf cX7_factorOf 3 (some .int), Cond.fieldLink RX7 16 "EdgeCounterPlacerModel" "target" "[I", Cond.fieldLink RX7 13 "EdgeCounterPlacerModel" "source" "[I", Cond.methodLink RX7 111 yX7_sideOf, Cond.instanceMethod yX7_sideOf, Cond.selects RX7 yX7_sideOf yX7_sideOf, Cond.code yX7_sideOf cX7_sideOf 9 (some .int)]
def wsX7_coefficient_r2 : List Cond := [Cond.fieldLink RX7 92 "EdgeCounterPlacerModel" "blocks" "I", Cond.methodLink RX7 147 yX7_factor, Cond.static yX7_factor, Cond.code yX7_factor cX7_factor 3 (some .int)]
def wsX7_coefficient : List Cond := .code yX7_coefficient cX7_coefficient 3 (some .int) :: ((wsX7_coefficient_r1 ++ wsX7_coefficient_r2) ++ wsX70)
def wsX7_executions_r1 : List Cond := [Cond.fieldLink RX7 92 "EdgeCounterPlacerModel" "blocks" "I", Cond.fieldLink RX7 19 "EdgeCounterPlacerModel" "now" "[I", Cond.fieldLink RX7 95 "EdgeCounterPlacerModel" "edges" "I", Cond.fieldLink RX7 16 "EdgeCounterPlacerModel" "target" "[I", Cond.methodLink RX7 60 yX7_in, Cond.static yX7_in, Cond.initialized RX7, Cond.code yX7_in cX7_in 3 (some .boolean), Cond.methodLink RX7 141 yX7_isUncertain, Cond.instanceMethod yX7_isUncertain, Cond.selects RX7 yX7_isUncertain yX7_isUncertain, Cond.code yX7_isUncertain cX7_isUncertain 4 (some .boolean), Cond.methodLink RX7 121 yX7_isTree, Cond.instanceMethod yX7_isTree, Cond.selects RX7 yX7_isTree yX7_isTree, Cond.code yX7_isTree cX7_isTree 2 (some .boolean), Cond.methodLink RX7 151 yX7_isSaturated, Cond.instanceMethod yX7_isSaturated, Cond.selects RX7 yX7_isSaturated yX7_isSaturated, Cond.code yX7_isSaturated cX7_isSaturated 2 (some .boolean), Cond.methodLink RX7 154 yX7_factorOf, Cond.instanceMethod yX7_factorOf, Cond.selects RX7 yX7_factorOf yX7_factorOf, Cond.code yX7_factorOf cX7_factorOf 3 (some .int)]
def wsX7_executions_r2 : List Cond := [Cond.fieldLink RX7 13 "EdgeCounterPlacerModel" "source" "[I", Cond.methodLink RX7 111 yX7_sideOf, Cond.instanceMethod yX7_sideOf, Cond.selects RX7 yX7_sideOf yX7_sideOf, Cond.code yX7_sideOf cX7_sideOf 9 (some .int), Cond.methodLink RX7 147 yX7_factor, Cond.static yX7_factor, Cond.code yX7_factor cX7_factor 3 (some .int), Cond.methodLink RX7 144 yX7_countOf, Cond.instanceMethod yX7_countOf, Cond.selects RX7 yX7_countOf yX7_countOf, Cond.code yX7_countOf cX7_countOf 5 (some .int)]
def wsX7_executions : List Cond := .code yX7_executions cX7_executions 5 (some .int) :: ((wsX7_executions_r1 ++ wsX7_executions_r2) ++ wsX70)
def wsX7_dependents_r1 : List Cond := [Cond.fieldLink RX7 95 "EdgeCounterPlacerModel" "edges" "I", Cond.methodLink RX7 115 yX7_isEdge, Cond.instanceMethod yX7_isEdge, Cond.selects RX7 yX7_isEdge yX7_isEdge, Cond.initialized RX7, Cond.code yX7_isEdge cX7_isEdge 2 (some .boolean), Cond.methodLink RX7 60 yX7_in, Cond.static yX7_in, Cond.code yX7_in cX7_in 3 (some .boolean), Cond.methodLink RX7 121 yX7_isTree, Cond.instanceMethod yX7_isTree, Cond.selects RX7 yX7_isTree yX7_isTree, Cond.code yX7_isTree cX7_isTree 2 (some .boolean), Cond.fieldLink RX7 19 "EdgeCounterPlacerModel" "now" "[I", Cond.methodLink RX7 154 yX7_factorOf, Cond.instanceMethod yX7_factorOf, Cond.selects RX7 yX7_factorOf yX7_factorOf, Cond.code yX7_factorOf cX7_factorOf 3 (some .int), Cond.fieldLink RX7 16 "EdgeCounterPlacerModel" "target" "[I", Cond.fieldLink RX7 13 "EdgeCounterPlacerModel" "source" "[I", Cond.methodLink RX7 111 yX7_sideOf, Cond.instanceMethod yX7_sideOf, Cond.selects RX7 yX7_sideOf yX7_sideOf, Cond.code yX7_sideOf cX7_sideOf 9 (some .int)]
def wsX7_dependents_r2 : List Cond := [Cond.fieldLink RX7 92 "EdgeCounterPlacerModel" "blocks" "I", Cond.methodLink RX7 147 yX7_factor, Cond.static yX7_factor, Cond.code yX7_factor cX7_factor 3 (some .int)]
def wsX7_dependents : List Cond := .code yX7_dependents cX7_dependents 4 (some .int) :: ((wsX7_dependents_r1 ++ wsX7_dependents_r2) ++ wsX70)
def wsX7_saturatedCount : List Cond := .code yX7_saturatedCount cX7_saturatedCount 3 (some .int) :: ([.fieldLink RX7 95 "EdgeCounterPlacerModel" "edges" "I", .methodLink RX7 151 yX7_isSaturated, .instanceMethod yX7_isSaturated, .selects RX7 yX7_isSaturated yX7_isSaturated, .initialized RX7, .code yX7_isSaturated cX7_isSaturated 2 (some .boolean), .fieldLink RX7 19 "EdgeCounterPlacerModel" "now" "[I", .methodLink RX7 121 yX7_isTree, .instanceMethod yX7_isTree, .selects RX7 yX7_isTree yX7_isTree, .code yX7_isTree cX7_isTree 2 (some .boolean)] ++ wsX70)
def wsX7_presentBlock : List Cond := .code yX7_presentBlock cX7_presentBlock 1 (some .int) :: ([.fieldLink RX7 19 "EdgeCounterPlacerModel" "now" "[I"] ++ wsX70)
def wsX7_finishedRuns : List Cond := .code yX7_finishedRuns cX7_finishedRuns 1 (some .int) :: ([.fieldLink RX7 19 "EdgeCounterPlacerModel" "now" "[I"] ++ wsX70)
def wsJ9_min_7cf53 : List Cond := .code yJ9_min_7cf53 cJ9_min_7cf53 2 (some .int) :: ([])
def wsL_law_r1 : List Cond := [Cond.classLink RL 7 RX6, Cond.instantiable RX6 7, Cond.initialized RX6, Cond.classLink RL 10 RX7, Cond.instantiable RX7 19, Cond.initialized RX7, Cond.methodLink RL 9 yX6_init, Cond.instanceMethod yX6_init, Cond.code yX6_init cX6_init 2 none, Cond.methodLink RX6 1 objectInit, Cond.instanceMethod objectInit, Cond.code objectInit ⟨#[0xb1]⟩ 1 none, Cond.classLink RX6 7 RX1, Cond.instantiable RX1 2, Cond.initialized RX1, Cond.fieldLink RX6 10 "EdgeCounterPlacer" "text" "LEdgeCounterPlacer$GraphText;", Cond.classLink RX6 16 RX5, Cond.instantiable RX5 5, Cond.initialized RX5, Cond.fieldLink RX6 19 "EdgeCounterPlacer" "reader" "LEdgeCounterPlacer$TextReader;", Cond.classLink RX6 23 RX3, Cond.instantiable RX3 3, Cond.initialized RX3, Cond.fieldLink RX6 26 "EdgeCounterPlacer" "placement" "LEdgeCounterPlacer$Placement;"]
def wsL_law_r2 : List Cond := [Cond.classLink RX6 30 RX4, Cond.instantiable RX4 5, Cond.initialized RX4, Cond.fieldLink RX6 33 "EdgeCounterPlacer" "simulation" "LEdgeCounterPlacer$Simulation;", Cond.classLink RX6 37 RX2, Cond.instantiable RX2 4, Cond.initialized RX2, Cond.fieldLink RX6 40 "EdgeCounterPlacer" "history" "LEdgeCounterPlacer$History;", Cond.classLink RX6 44 RX0, Cond.instantiable RX0 7, Cond.initialized RX0, Cond.fieldLink RX6 47 "EdgeCounterPlacer" "graph" "LEdgeCounterPlacer$Graph;", Cond.fieldLink RX6 51 "EdgeCounterPlacer" "draft" "LEdgeCounterPlacer$Graph;", Cond.instanceMethod yX1_init, Cond.code yX1_init cX1_init 1 none, Cond.methodLink RX1 3 objectInit, Cond.arrayClass .char, Cond.fieldLink RX1 9 "EdgeCounterPlacer$GraphText" "characters" "[C", Cond.instanceMethod yX5_init, Cond.code yX5_init cX5_init 1 none, Cond.methodLink RX5 3 objectInit, Cond.arrayClass .int, Cond.fieldLink RX5 11 "EdgeCounterPlacer$TextReader" "numbers" "[I", Cond.instanceMethod yX3_init]
def wsL_law_r3 : List Cond := [Cond.code yX3_init cX3_init 1 none, Cond.methodLink RX3 3 objectInit, Cond.fieldLink RX3 9 "EdgeCounterPlacer$Placement" "weight" "[I", Cond.fieldLink RX3 15 "EdgeCounterPlacer$Placement" "sourceSide" "[I", Cond.instanceMethod yX4_init, Cond.code yX4_init cX4_init 1 none, Cond.methodLink RX4 3 objectInit, Cond.fieldLink RX4 9 "EdgeCounterPlacer$Simulation" "counterValue" "[I", Cond.fieldLink RX4 15 "EdgeCounterPlacer$Simulation" "passes" "[I", Cond.methodLink RX6 39 yX2_init, Cond.instanceMethod yX2_init, Cond.code yX2_init cX2_init 2 none, Cond.methodLink RX2 3 objectInit, Cond.classLink RX2 9 RX3, Cond.fieldLink RX2 11 "EdgeCounterPlacer$History" "placements" "[LEdgeCounterPlacer$Placement;", Cond.classLink RX2 17 RX4, Cond.fieldLink RX2 19 "EdgeCounterPlacer$History" "simulations" "[LEdgeCounterPlacer$Simulation;", Cond.instanceMethod yX0_init, Cond.code yX0_init cX0_init 1 none, Cond.methodLink RX0 3 objectInit, Cond.fieldLink RX0 9 "EdgeCounterPlacer$Graph" "source" "[I", Cond.fieldLink RX0 15 "EdgeCounterPlacer$Graph" "target" "[I", Cond.fieldLink RX0 18 "EdgeCounterPlacer$Graph" "statedWeight" "[I", Cond.classLink RX0 21 "[[I"]
def wsL_law_r4 : List Cond := [Cond.fieldLink RX0 23 "EdgeCounterPlacer$Graph" "leaving" "[[I", Cond.fieldLink RX0 26 "EdgeCounterPlacer$Graph" "leavingCount" "[I", Cond.methodLink RX6 56 yJ0_length_8abf5, Cond.instanceMethod yJ0_length_8abf5, Cond.selects RJ0 yJ0_length_8abf5 yJ0_length_8abf5, Cond.initialized RJ0, Cond.code yJ0_length_8abf5 cJ0_length_8abf5 1 (some .int), Cond.fieldLink RJ0 9 "java/lang/String" "value" "[B", Cond.methodLink RJ0 335 yJ0_coder_7d493, Cond.instanceMethod yJ0_coder_7d493, Cond.selects RJ0 yJ0_coder_7d493 yJ0_coder_7d493, Cond.code yJ0_coder_7d493 cJ0_coder_7d493 1 (some .byte), Cond.fieldLink RJ0 38 "java/lang/String" "COMPACT_STRINGS" "Z", Cond.fieldLink RJ0 15 "java/lang/String" "coder" "B", Cond.methodLink RX6 62 yJ0_charAt_5068e, Cond.instanceMethod yJ0_charAt_5068e, Cond.selects RJ0 yJ0_charAt_5068e yJ0_charAt_5068e, Cond.code yJ0_charAt_5068e cJ0_charAt_5068e 2 (some .char), Cond.methodLink RJ0 492 yJ0_isLatin1_aae02, Cond.instanceMethod yJ0_isLatin1_aae02, Cond.selects RJ0 yJ0_isLatin1_aae02 yJ0_isLatin1_aae02, Cond.code yJ0_isLatin1_aae02 cJ0_isLatin1_aae02 1 (some .boolean), Cond.methodLink RJ0 495 yJ1_charAt_3b067, Cond.static yJ1_charAt_3b067]
def wsL_law_r5 : List Cond := [Cond.initialized RJ1, Cond.code yJ1_charAt_3b067 cJ1_charAt_3b067 2 (some .char), Cond.methodLink RJ1 9 yJ0_checkIndex_df160, Cond.static yJ0_checkIndex_df160, Cond.code yJ0_checkIndex_df160 cJ0_checkIndex_df160 2 none, Cond.fieldLink RJ0 1053 "jdk/internal/util/Preconditions" "SIOOBE_FORMATTER" "Ljava/util/function/BiFunction;", Cond.methodLink RJ0 1059 yJ3_checkIndex_8e157, Cond.static yJ3_checkIndex_8e157, Cond.initialized RJ3, Cond.code yJ3_checkIndex_8e157 cJ3_checkIndex_8e157 3 (some .int), Cond.methodLink RJ0 498 yJ2_charAt_3b067, Cond.static yJ2_charAt_3b067, Cond.initialized RJ2, Cond.code yJ2_charAt_3b067 cJ2_charAt_3b067 2 (some .char), Cond.methodLink RJ2 67 yJ2_checkIndex_2214a, Cond.static yJ2_checkIndex_2214a, Cond.code yJ2_checkIndex_2214a cJ2_checkIndex_2214a 2 none, Cond.methodLink RJ2 48 yJ2_length_9d52b, Cond.static yJ2_length_9d52b, Cond.code yJ2_length_9d52b cJ2_length_9d52b 1 (some .int), Cond.methodLink RJ2 414 yJ0_checkIndex_df160, Cond.methodLink RJ2 71 yJ2_getChar_3b067, Cond.static yJ2_getChar_3b067, Cond.code yJ2_getChar_3b067 cJ2_getChar_3b067 2 (some .char)]
def wsL_law_r6 : List Cond := [Cond.fieldLink RJ2 44 "java/lang/StringUTF16" "$assertionsDisabled" "Z", Cond.fieldLink RJ2 59 "java/lang/StringUTF16" "HI_BYTE_SHIFT" "I", Cond.fieldLink RJ2 63 "java/lang/StringUTF16" "LO_BYTE_SHIFT" "I", Cond.methodLink RX6 66 yX1_add, Cond.instanceMethod yX1_add, Cond.selects RX1 yX1_add yX1_add, Cond.code yX1_add cX1_add 2 none, Cond.fieldLink RX1 15 "EdgeCounterPlacer$GraphText" "length" "I", Cond.methodLink RX1 19 yX1_isFull, Cond.instanceMethod yX1_isFull, Cond.selects RX1 yX1_isFull yX1_isFull, Cond.code yX1_isFull cX1_isFull 1 (some .boolean), Cond.methodLink RX6 70 yX6_configure, Cond.instanceMethod yX6_configure, Cond.selects RX6 yX6_configure yX6_configure, Cond.code yX6_configure cX6_configure 1 (some .int), Cond.methodLink RX6 81 yX5_read, Cond.instanceMethod yX5_read, Cond.selects RX5 yX5_read yX5_read, Cond.code yX5_read cX5_read 4 none, Cond.fieldLink RX5 28 "EdgeCounterPlacer$TextReader" "place" "I", Cond.fieldLink RX5 31 "EdgeCounterPlacer$TextReader" "aborting" "I", Cond.fieldLink RX5 19 "EdgeCounterPlacer$TextReader" "reason" "I", Cond.fieldLink RX5 15 "EdgeCounterPlacer$TextReader" "errorPlace" "I"]
def wsL_law_r7 : List Cond := [Cond.methodLink RX5 22 yX0_begin, Cond.instanceMethod yX0_begin, Cond.selects RX0 yX0_begin yX0_begin, Cond.code yX0_begin cX0_begin 3 none, Cond.fieldLink RX0 29 "EdgeCounterPlacer$Graph" "blocks" "I", Cond.fieldLink RX0 33 "EdgeCounterPlacer$Graph" "edges" "I", Cond.methodLink RX5 34 yX1_length, Cond.instanceMethod yX1_length, Cond.selects RX1 yX1_length yX1_length, Cond.code yX1_length cX1_length 1 (some .int), Cond.methodLink RX5 40 yX5_readStatement, Cond.instanceMethod yX5_readStatement, Cond.selects RX5 yX5_readStatement yX5_readStatement, Cond.code yX5_readStatement cX5_readStatement 5 (some .int), Cond.methodLink RX5 44 yX1_at, Cond.instanceMethod yX1_at, Cond.selects RX1 yX1_at yX1_at, Cond.code yX1_at cX1_at 2 (some .char), Cond.methodLink RX5 48 yX5_readNumbers, Cond.instanceMethod yX5_readNumbers, Cond.selects RX5 yX5_readNumbers yX5_readNumbers, Cond.code yX5_readNumbers cX5_readNumbers 6 (some .boolean), Cond.methodLink RX5 62 yX5_readNumber, Cond.instanceMethod yX5_readNumber]
def wsL_law_r8 : List Cond := [Cond.selects RX5 yX5_readNumber yX5_readNumber, Cond.code yX5_readNumber cX5_readNumber 5 (some .int), Cond.methodLink RX5 52 yX5_takeBlocks, Cond.instanceMethod yX5_takeBlocks, Cond.selects RX5 yX5_takeBlocks yX5_takeBlocks, Cond.code yX5_takeBlocks cX5_takeBlocks 3 (some .int), Cond.methodLink RX5 56 yX5_takeEdge, Cond.instanceMethod yX5_takeEdge, Cond.selects RX5 yX5_takeEdge yX5_takeEdge, Cond.code yX5_takeEdge cX5_takeEdge 4 (some .int), Cond.methodLink RX5 66 yX0_hasBlock, Cond.instanceMethod yX0_hasBlock, Cond.selects RX0 yX0_hasBlock yX0_hasBlock, Cond.code yX0_hasBlock cX0_hasBlock 2 (some .boolean), Cond.methodLink RX5 70 yX0_exit, Cond.instanceMethod yX0_exit, Cond.selects RX0 yX0_exit yX0_exit, Cond.code yX0_exit cX0_exit 1 (some .int), Cond.methodLink RX5 73 yX0_isFull, Cond.instanceMethod yX0_isFull, Cond.selects RX0 yX0_isFull yX0_isFull, Cond.code yX0_isFull cX0_isFull 1 (some .boolean), Cond.methodLink RX5 77 yX0_addEdge, Cond.instanceMethod yX0_addEdge]
def wsL_law_r9 : List Cond := [Cond.selects RX0 yX0_addEdge yX0_addEdge, Cond.code yX0_addEdge cX0_addEdge 4 none, Cond.methodLink RX0 36 yX0_isFull, Cond.methodLink RX0 40 yX0_hasBlock, Cond.methodLink RX5 59 yX5_takeAbort, Cond.instanceMethod yX5_takeAbort, Cond.selects RX5 yX5_takeAbort yX5_takeAbort, Cond.code yX5_takeAbort cX5_takeAbort 3 (some .int), Cond.static yX6_holds, Cond.code yX6_holds cX6_holds 2 (some .boolean), Cond.methodLink RX6 85 yX5_reason, Cond.instanceMethod yX5_reason, Cond.selects RX5 yX5_reason yX5_reason, Cond.code yX5_reason cX5_reason 1 (some .int), Cond.methodLink RX6 80 yX1_length, Cond.methodLink RX6 91 yX0_isComplete, Cond.instanceMethod yX0_isComplete, Cond.selects RX0 yX0_isComplete yX0_isComplete, Cond.code yX0_isComplete cX0_isComplete 3 (some .boolean), Cond.methodLink RX0 50 yX0_exit, Cond.methodLink RX0 47 yX0_leavingCount, Cond.instanceMethod yX0_leavingCount, Cond.selects RX0 yX0_leavingCount yX0_leavingCount, Cond.code yX0_leavingCount cX0_leavingCount 2 (some .int)]
def wsL_law_r10 : List Cond := [Cond.methodLink RX0 54 yX0_reach, Cond.instanceMethod yX0_reach, Cond.selects RX0 yX0_reach yX0_reach, Cond.code yX0_reach cX0_reach 7 (some .int), Cond.methodLink RX0 58 yX0_spread, Cond.instanceMethod yX0_spread, Cond.selects RX0 yX0_spread yX0_spread, Cond.code yX0_spread cX0_spread 3 (some .int), Cond.methodLink RX0 65 yX0_source, Cond.instanceMethod yX0_source, Cond.selects RX0 yX0_source yX0_source, Cond.code yX0_source cX0_source 2 (some .int), Cond.methodLink RX0 44 yX0_hasEdge, Cond.instanceMethod yX0_hasEdge, Cond.selects RX0 yX0_hasEdge yX0_hasEdge, Cond.code yX0_hasEdge cX0_hasEdge 2 (some .boolean), Cond.methodLink RX0 67 yX0_target, Cond.instanceMethod yX0_target, Cond.selects RX0 yX0_target yX0_target, Cond.code yX0_target cX0_target 2 (some .int), Cond.methodLink RX6 94 yX6_takeDraft, Cond.instanceMethod yX6_takeDraft, Cond.selects RX6 yX6_takeDraft yX6_takeDraft, Cond.code yX6_takeDraft cX6_takeDraft 2 none]
def wsL_law_r11 : List Cond := [Cond.methodLink RX6 97 yX3_begin, Cond.instanceMethod yX3_begin, Cond.selects RX3 yX3_begin yX3_begin, Cond.code yX3_begin cX3_begin 3 none, Cond.methodLink RX3 18 yX0_statedWeight, Cond.instanceMethod yX0_statedWeight, Cond.selects RX0 yX0_statedWeight yX0_statedWeight, Cond.code yX0_statedWeight cX0_statedWeight 2 (some .int), Cond.methodLink RX3 24 yX3_findTree, Cond.instanceMethod yX3_findTree, Cond.selects RX3 yX3_findTree yX3_findTree, Cond.code yX3_findTree cX3_findTree 5 none, Cond.fieldLink RX3 28 "EdgeCounterPlacer$Placement" "tree" "I", Cond.methodLink RX3 36 yX0_edges, Cond.instanceMethod yX0_edges, Cond.selects RX0 yX0_edges yX0_edges, Cond.code yX0_edges cX0_edges 1 (some .int), Cond.methodLink RX3 40 yX3_heaviestEdge, Cond.instanceMethod yX3_heaviestEdge, Cond.selects RX3 yX3_heaviestEdge yX3_heaviestEdge, Cond.code yX3_heaviestEdge cX3_heaviestEdge 6 (some .int), Cond.methodLink RX3 56 yX3_weight, Cond.instanceMethod yX3_weight, Cond.selects RX3 yX3_weight yX3_weight]
def wsL_law_r12 : List Cond := [Cond.code yX3_weight cX3_weight 2 (some .int), Cond.methodLink RX3 44 yX0_source, Cond.methodLink RX3 47 yX0_reach, Cond.methodLink RX3 50 yX0_target, Cond.methodLink RX3 53 yX3_findSides, Cond.instanceMethod yX3_findSides, Cond.selects RX3 yX3_findSides yX3_findSides, Cond.code yX3_findSides cX3_findSides 3 none, Cond.methodLink RX3 58 yX3_isInTree, Cond.instanceMethod yX3_isInTree, Cond.selects RX3 yX3_isInTree yX3_isInTree, Cond.code yX3_isInTree cX3_isInTree 2 (some .boolean), Cond.methodLink RX6 101 yX4_begin, Cond.instanceMethod yX4_begin, Cond.selects RX4 yX4_begin yX4_begin, Cond.code yX4_begin cX4_begin 1 none, Cond.constant RX4 18 (60000), Cond.fieldLink RX4 19 "EdgeCounterPlacer$Simulation" "limit" "I", Cond.methodLink RX4 23 yX4_restart, Cond.instanceMethod yX4_restart, Cond.selects RX4 yX4_restart yX4_restart, Cond.code yX4_restart cX4_restart 2 none, Cond.fieldLink RX4 26 "EdgeCounterPlacer$Simulation" "present" "I", Cond.fieldLink RX4 29 "EdgeCounterPlacer$Simulation" "finished" "I"]
def wsL_law_r13 : List Cond := [Cond.methodLink RX6 103 yX2_forget, Cond.instanceMethod yX2_forget, Cond.selects RX2 yX2_forget yX2_forget, Cond.code yX2_forget cX2_forget 1 none, Cond.fieldLink RX2 25 "EdgeCounterPlacer$History" "size" "I", Cond.methodLink RX6 106 yX0_edges, Cond.methodLink RX6 73 yX1_clear, Cond.instanceMethod yX1_clear, Cond.selects RX1 yX1_clear yX1_clear, Cond.code yX1_clear cX1_clear 1 none, Cond.methodLink RL 12 yX7_init, Cond.instanceMethod yX7_init, Cond.code yX7_init cX7_init 1 none, Cond.methodLink RX7 1 objectInit, Cond.fieldLink RX7 7 "EdgeCounterPlacerModel" "text" "[I", Cond.fieldLink RX7 13 "EdgeCounterPlacerModel" "source" "[I", Cond.fieldLink RX7 16 "EdgeCounterPlacerModel" "target" "[I", Cond.fieldLink RX7 19 "EdgeCounterPlacerModel" "now" "[I", Cond.fieldLink RX7 22 "EdgeCounterPlacerModel" "history" "[I", Cond.fieldLink RX7 25 "EdgeCounterPlacerModel" "readSource" "[I", Cond.fieldLink RX7 28 "EdgeCounterPlacerModel" "readTarget" "[I", Cond.fieldLink RX7 31 "EdgeCounterPlacerModel" "readWeight" "[I", Cond.fieldLink RX7 34 "EdgeCounterPlacerModel" "numbers" "[I", Cond.fieldLink RX7 37 "EdgeCounterPlacerModel" "adopted" "[I"]
def wsL_law_r14 : List Cond := [Cond.fieldLink RX7 40 "EdgeCounterPlacerModel" "readBlocks" "I", Cond.methodLink RX7 44 yX7_putEdge, Cond.instanceMethod yX7_putEdge, Cond.selects RX7 yX7_putEdge yX7_putEdge, Cond.code yX7_putEdge cX7_putEdge 4 none, Cond.fieldLink RX7 51 "EdgeCounterPlacerModel" "readEdges" "I", Cond.methodLink RX7 48 yX7_takeGraph, Cond.instanceMethod yX7_takeGraph, Cond.selects RX7 yX7_takeGraph yX7_takeGraph, Cond.code yX7_takeGraph cX7_takeGraph 2 none, Cond.fieldLink RX7 92 "EdgeCounterPlacerModel" "blocks" "I", Cond.fieldLink RX7 95 "EdgeCounterPlacerModel" "edges" "I", Cond.constant RX7 98 (60000), Cond.fieldLink RX7 99 "EdgeCounterPlacerModel" "undoable" "I", Cond.methodLink RX7 102 yX7_findTree, Cond.instanceMethod yX7_findTree, Cond.selects RX7 yX7_findTree yX7_findTree, Cond.code yX7_findTree cX7_findTree 4 none, Cond.methodLink RX7 111 yX7_sideOf, Cond.instanceMethod yX7_sideOf, Cond.selects RX7 yX7_sideOf yX7_sideOf, Cond.code yX7_sideOf cX7_sideOf 9 (some .int), Cond.methodLink RX7 78 yX7_has, Cond.static yX7_has]
def wsL_law_r15 : List Cond := [Cond.code yX7_has cX7_has 2 (some .boolean), Cond.methodLink RX7 105 yX7_resetCounts, Cond.instanceMethod yX7_resetCounts, Cond.selects RX7 yX7_resetCounts yX7_resetCounts, Cond.code yX7_resetCounts cX7_resetCounts 2 none, Cond.methodLink RL 13 yX6_append, Cond.instanceMethod yX6_append, Cond.selects RX6 yX6_append yX6_append, Cond.code yX6_append cX6_append 2 (some .int), Cond.methodLink RX6 76 yX1_isFull, Cond.methodLink RL 17 yX7_append, Cond.instanceMethod yX7_append, Cond.selects RX7 yX7_append yX7_append, Cond.code yX7_append cX7_append 2 (some .int), Cond.fieldLink RX7 57 "EdgeCounterPlacerModel" "length" "I", Cond.methodLink RX7 60 yX7_in, Cond.static yX7_in, Cond.code yX7_in cX7_in 3 (some .boolean), Cond.methodLink RL 18 yX6_clearText, Cond.instanceMethod yX6_clearText, Cond.selects RX6 yX6_clearText yX6_clearText, Cond.code yX6_clearText cX6_clearText 2 (some .int), Cond.methodLink RL 22 yX7_clearText, Cond.instanceMethod yX7_clearText]
def wsL_law_r16 : List Cond := [Cond.selects RX7 yX7_clearText yX7_clearText, Cond.code yX7_clearText cX7_clearText 2 (some .int), Cond.methodLink RL 23 yX6_firstError, Cond.instanceMethod yX6_firstError, Cond.selects RX6 yX6_firstError yX6_firstError, Cond.code yX6_firstError cX6_firstError 1 (some .int), Cond.methodLink RX6 88 yX5_errorPlace, Cond.instanceMethod yX5_errorPlace, Cond.selects RX5 yX5_errorPlace yX5_errorPlace, Cond.code yX5_errorPlace cX5_errorPlace 1 (some .int), Cond.methodLink RL 26 yX7_firstError, Cond.instanceMethod yX7_firstError, Cond.selects RX7 yX7_firstError yX7_firstError, Cond.code yX7_firstError cX7_firstError 1 (some .int), Cond.methodLink RX7 89 yX7_readText, Cond.instanceMethod yX7_readText, Cond.selects RX7 yX7_readText yX7_readText, Cond.code yX7_readText cX7_readText 2 (some .int), Cond.fieldLink RX7 75 "EdgeCounterPlacerModel" "aborting" "I", Cond.fieldLink RX7 82 "EdgeCounterPlacerModel" "reason" "I", Cond.fieldLink RX7 54 "EdgeCounterPlacerModel" "at" "I", Cond.methodLink RX7 85 yX7_readStatement, Cond.instanceMethod yX7_readStatement, Cond.selects RX7 yX7_readStatement yX7_readStatement]
def wsL_law_r17 : List Cond := [Cond.code yX7_readStatement cX7_readStatement 6 (some .int), Cond.methodLink RX7 68 yX7_readNumbers, Cond.instanceMethod yX7_readNumbers, Cond.selects RX7 yX7_readNumbers yX7_readNumbers, Cond.code yX7_readNumbers cX7_readNumbers 5 (some .boolean), Cond.methodLink RX7 64 yX7_isDigit, Cond.instanceMethod yX7_isDigit, Cond.selects RX7 yX7_isDigit yX7_isDigit, Cond.code yX7_isDigit cX7_isDigit 1 (some .boolean), Cond.methodLink RX7 72 yX7_isBlockButExit, Cond.instanceMethod yX7_isBlockButExit, Cond.selects RX7 yX7_isBlockButExit yX7_isBlockButExit, Cond.code yX7_isBlockButExit cX7_isBlockButExit 2 (some .boolean), Cond.methodLink RL 27 yX6_errorReason, Cond.instanceMethod yX6_errorReason, Cond.selects RX6 yX6_errorReason yX6_errorReason, Cond.code yX6_errorReason cX6_errorReason 1 (some .int), Cond.methodLink RL 30 yX7_errorReason, Cond.instanceMethod yX7_errorReason, Cond.selects RX7 yX7_errorReason yX7_errorReason, Cond.code yX7_errorReason cX7_errorReason 2 (some .int), Cond.methodLink RL 31 yX6_configure, Cond.methodLink RL 34 yX7_configure, Cond.instanceMethod yX7_configure]
def wsL_law_r18 : List Cond := [Cond.selects RX7 yX7_configure yX7_configure, Cond.code yX7_configure cX7_configure 1 (some .int), Cond.methodLink RX7 108 yX7_isComplete, Cond.instanceMethod yX7_isComplete, Cond.selects RX7 yX7_isComplete yX7_isComplete, Cond.code yX7_isComplete cX7_isComplete 6 (some .boolean), Cond.methodLink RL 35 yX6_setWeight, Cond.instanceMethod yX6_setWeight, Cond.selects RX6 yX6_setWeight yX6_setWeight, Cond.code yX6_setWeight cX6_setWeight 4 (some .int), Cond.methodLink RX6 109 yX0_hasEdge, Cond.methodLink RX6 113 yX2_remember, Cond.instanceMethod yX2_remember, Cond.selects RX2 yX2_remember yX2_remember, Cond.code yX2_remember cX2_remember 3 none, Cond.fieldLink RX2 29 "EdgeCounterPlacer$History" "newest" "I", Cond.methodLink RX2 39 Lib.Math.min.name, Cond.static Lib.Math.min.name, Cond.initialized "java/lang/Math", Cond.code Lib.Math.min.name Lib.Math.min.code 2 (some .int), Cond.methodLink RX2 32 yX3_copyFrom, Cond.instanceMethod yX3_copyFrom, Cond.selects RX3 yX3_copyFrom yX3_copyFrom, Cond.code yX3_copyFrom cX3_copyFrom 3 none]
def wsL_law_r19 : List Cond := [Cond.methodLink RX2 36 yX4_copyFrom, Cond.instanceMethod yX4_copyFrom, Cond.selects RX4 yX4_copyFrom yX4_copyFrom, Cond.code yX4_copyFrom cX4_copyFrom 3 none, Cond.methodLink RX6 117 yX3_weight, Cond.methodLink RX6 121 yX3_putWeight, Cond.instanceMethod yX3_putWeight, Cond.selects RX3 yX3_putWeight yX3_putWeight, Cond.code yX3_putWeight cX3_putWeight 3 none, Cond.methodLink RX6 125 yX3_findTree, Cond.methodLink RX6 128 yX4_restart, Cond.methodLink RL 39 yX7_setWeight, Cond.instanceMethod yX7_setWeight, Cond.selects RX7 yX7_setWeight yX7_setWeight, Cond.code yX7_setWeight cX7_setWeight 4 (some .int), Cond.methodLink RX7 115 yX7_isEdge, Cond.instanceMethod yX7_isEdge, Cond.selects RX7 yX7_isEdge yX7_isEdge, Cond.code yX7_isEdge cX7_isEdge 2 (some .boolean), Cond.methodLink RX7 118 yX7_save, Cond.instanceMethod yX7_save, Cond.selects RX7 yX7_save yX7_save, Cond.code yX7_save cX7_save 2 none, Cond.methodLink RL 40 yX6_setCounterLimit]
def wsL_law_r20 : List Cond := [Cond.instanceMethod yX6_setCounterLimit, Cond.selects RX6 yX6_setCounterLimit yX6_setCounterLimit, Cond.code yX6_setCounterLimit cX6_setCounterLimit 3 (some .int), Cond.constant RX6 131 (60000), Cond.methodLink RX6 132 yX4_limit, Cond.instanceMethod yX4_limit, Cond.selects RX4 yX4_limit yX4_limit, Cond.code yX4_limit cX4_limit 1 (some .int), Cond.methodLink RX6 135 yX4_putLimit, Cond.instanceMethod yX4_putLimit, Cond.selects RX4 yX4_putLimit yX4_putLimit, Cond.code yX4_putLimit cX4_putLimit 2 none, Cond.methodLink RL 43 yX7_setCounterLimit, Cond.instanceMethod yX7_setCounterLimit, Cond.selects RX7 yX7_setCounterLimit yX7_setCounterLimit, Cond.code yX7_setCounterLimit cX7_setCounterLimit 3 (some .int), Cond.methodLink RL 44 yX6_follow, Cond.instanceMethod yX6_follow, Cond.selects RX6 yX6_follow yX6_follow, Cond.code yX6_follow cX6_follow 2 (some .int), Cond.methodLink RX6 139 yX0_source, Cond.methodLink RX6 142 yX4_present, Cond.instanceMethod yX4_present, Cond.selects RX4 yX4_present yX4_present]
def wsL_law_r21 : List Cond := [Cond.code yX4_present cX4_present 1 (some .int), Cond.methodLink RX6 145 yX4_pass, Cond.instanceMethod yX4_pass, Cond.selects RX4 yX4_pass yX4_pass, Cond.code yX4_pass cX4_pass 4 none, Cond.methodLink RX4 35 yX0_hasEdge, Cond.methodLink RX4 41 yX3_isInTree, Cond.methodLink RX4 46 yX4_isAtLimit, Cond.instanceMethod yX4_isAtLimit, Cond.selects RX4 yX4_isAtLimit yX4_isAtLimit, Cond.code yX4_isAtLimit cX4_isAtLimit 2 (some .boolean), Cond.methodLink RX4 32 yX4_counterValue, Cond.instanceMethod yX4_counterValue, Cond.selects RX4 yX4_counterValue yX4_counterValue, Cond.code yX4_counterValue cX4_counterValue 2 (some .int), Cond.methodLink RX4 49 yX0_target, Cond.methodLink RX4 52 yX0_exit, Cond.methodLink RL 47 yX7_follow, Cond.instanceMethod yX7_follow, Cond.selects RX7 yX7_follow yX7_follow, Cond.code yX7_follow cX7_follow 2 (some .int), Cond.methodLink RX7 124 yX7_pass, Cond.instanceMethod yX7_pass, Cond.selects RX7 yX7_pass yX7_pass]
def wsL_law_r22 : List Cond := [Cond.code yX7_pass cX7_pass 3 none, Cond.methodLink RX7 121 yX7_isTree, Cond.instanceMethod yX7_isTree, Cond.selects RX7 yX7_isTree yX7_isTree, Cond.code yX7_isTree cX7_isTree 2 (some .boolean), Cond.methodLink RL 48 yX6_drive, Cond.instanceMethod yX6_drive, Cond.selects RX6 yX6_drive yX6_drive, Cond.code yX6_drive cX6_drive 5 (some .int), Cond.methodLink RX6 149 yX4_finished, Cond.instanceMethod yX4_finished, Cond.selects RX4 yX4_finished yX4_finished, Cond.code yX4_finished cX4_finished 1 (some .int), Cond.methodLink RX6 152 yX6_chosenEdge, Cond.instanceMethod yX6_chosenEdge, Cond.selects RX6 yX6_chosenEdge yX6_chosenEdge, Cond.code yX6_chosenEdge cX6_chosenEdge 8 (some .int), Cond.constantLong RX6 210 (7919), Cond.constantLong RX6 212 (6151), Cond.constantLong RX6 214 (65521), Cond.methodLink RX6 216 yX0_leavingCount, Cond.methodLink RX6 219 yX0_leavingEdge, Cond.instanceMethod yX0_leavingEdge, Cond.selects RX0 yX0_leavingEdge yX0_leavingEdge]
def wsL_law_r23 : List Cond := [Cond.code yX0_leavingEdge cX0_leavingEdge 3 (some .int), Cond.methodLink RL 51 yX7_drive, Cond.instanceMethod yX7_drive, Cond.selects RX7 yX7_drive yX7_drive, Cond.code yX7_drive cX7_drive 9 (some .int), Cond.constantLong RX7 128 (7919), Cond.constantLong RX7 130 (6151), Cond.constantLong RX7 132 (65521), Cond.methodLink RX7 134 yX7_leavingCount, Cond.instanceMethod yX7_leavingCount, Cond.selects RX7 yX7_leavingCount yX7_leavingCount, Cond.code yX7_leavingCount cX7_leavingCount 3 (some .int), Cond.methodLink RX7 137 yX7_leavingEdge, Cond.instanceMethod yX7_leavingEdge, Cond.selects RX7 yX7_leavingEdge yX7_leavingEdge, Cond.code yX7_leavingEdge cX7_leavingEdge 4 (some .int), Cond.methodLink RL 52 yX6_adoptCounts, Cond.instanceMethod yX6_adoptCounts, Cond.selects RX6 yX6_adoptCounts yX6_adoptCounts, Cond.code yX6_adoptCounts cX6_adoptCounts 4 (some .int), Cond.methodLink RX6 162 Lib.Math.min.name, Cond.methodLink RX6 156 yX6_anyIsUncertain, Cond.instanceMethod yX6_anyIsUncertain, Cond.selects RX6 yX6_anyIsUncertain yX6_anyIsUncertain]
def wsL_law_r24 : List Cond := [Cond.code yX6_anyIsUncertain cX6_anyIsUncertain 2 (some .boolean), Cond.methodLink RX6 198 yX6_isUncertain, Cond.instanceMethod yX6_isUncertain, Cond.selects RX6 yX6_isUncertain yX6_isUncertain, Cond.code yX6_isUncertain cX6_isUncertain 3 (some .boolean), Cond.methodLink RX6 182 yX3_isInTree, Cond.methodLink RX6 207 yX6_isSaturatedChord, Cond.instanceMethod yX6_isSaturatedChord, Cond.selects RX6 yX6_isSaturatedChord yX6_isSaturatedChord, Cond.code yX6_isSaturatedChord cX6_isSaturatedChord 2 (some .boolean), Cond.methodLink RX6 226 yX4_isAtLimit, Cond.methodLink RX6 201 yX6_factorOfChord, Cond.instanceMethod yX6_factorOfChord, Cond.selects RX6 yX6_factorOfChord yX6_factorOfChord, Cond.code yX6_factorOfChord cX6_factorOfChord 3 (some .int), Cond.methodLink RX6 179 yX0_target, Cond.methodLink RX6 222 yX3_factor, Cond.instanceMethod yX3_factor, Cond.selects RX3 yX3_factor yX3_factor, Cond.code yX3_factor cX3_factor 6 (some .int), Cond.methodLink RX6 159 yX6_reconstructedCount, Cond.instanceMethod yX6_reconstructedCount, Cond.selects RX6 yX6_reconstructedCount yX6_reconstructedCount, Cond.code yX6_reconstructedCount cX6_reconstructedCount 4 (some .int)]
def wsL_law_r25 : List Cond := [Cond.methodLink RX6 192 yX4_counterValue, Cond.methodLink RX6 229 yX6_openEdgeShare, Cond.instanceMethod yX6_openEdgeShare, Cond.selects RX6 yX6_openEdgeShare yX6_openEdgeShare, Cond.code yX6_openEdgeShare cX6_openEdgeShare 2 (some .int), Cond.methodLink RX6 232 yX0_exit, Cond.methodLink RL 55 yX7_adoptCounts, Cond.instanceMethod yX7_adoptCounts, Cond.selects RX7 yX7_adoptCounts yX7_adoptCounts, Cond.code yX7_adoptCounts cX7_adoptCounts 4 (some .int), Cond.methodLink RX7 141 yX7_isUncertain, Cond.instanceMethod yX7_isUncertain, Cond.selects RX7 yX7_isUncertain yX7_isUncertain, Cond.code yX7_isUncertain cX7_isUncertain 4 (some .boolean), Cond.methodLink RX7 151 yX7_isSaturated, Cond.instanceMethod yX7_isSaturated, Cond.selects RX7 yX7_isSaturated yX7_isSaturated, Cond.code yX7_isSaturated cX7_isSaturated 2 (some .boolean), Cond.methodLink RX7 154 yX7_factorOf, Cond.instanceMethod yX7_factorOf, Cond.selects RX7 yX7_factorOf yX7_factorOf, Cond.code yX7_factorOf cX7_factorOf 3 (some .int), Cond.methodLink RX7 147 yX7_factor, Cond.static yX7_factor]
def wsL_law_r26 : List Cond := [Cond.code yX7_factor cX7_factor 3 (some .int), Cond.methodLink RX7 144 yX7_countOf, Cond.instanceMethod yX7_countOf, Cond.selects RX7 yX7_countOf yX7_countOf, Cond.code yX7_countOf cX7_countOf 5 (some .int), Cond.methodLink RL 56 yX6_undo, Cond.instanceMethod yX6_undo, Cond.selects RX6 yX6_undo yX6_undo, Cond.code yX6_undo cX6_undo 1 (some .int), Cond.methodLink RX6 167 yX2_isEmpty, Cond.instanceMethod yX2_isEmpty, Cond.selects RX2 yX2_isEmpty yX2_isEmpty, Cond.code yX2_isEmpty cX2_isEmpty 1 (some .boolean), Cond.methodLink RX6 170 yX2_takeBack, Cond.instanceMethod yX2_takeBack, Cond.selects RX2 yX2_takeBack yX2_takeBack, Cond.code yX2_takeBack cX2_takeBack 3 none, Cond.methodLink RX2 45 yX2_isEmpty, Cond.methodLink RX6 173 yX2_size, Cond.instanceMethod yX2_size, Cond.selects RX2 yX2_size yX2_size, Cond.code yX2_size cX2_size 1 (some .int), Cond.methodLink RL 59 yX7_undo, Cond.instanceMethod yX7_undo]
def wsL_law_r27 : List Cond := [Cond.selects RX7 yX7_undo yX7_undo, Cond.code yX7_undo cX7_undo 2 (some .int), Cond.methodLink RL 60 yX6_blockCount, Cond.instanceMethod yX6_blockCount, Cond.selects RX6 yX6_blockCount yX6_blockCount, Cond.code yX6_blockCount cX6_blockCount 1 (some .int), Cond.methodLink RX6 176 yX0_blocks, Cond.instanceMethod yX0_blocks, Cond.selects RX0 yX0_blocks yX0_blocks, Cond.code yX0_blocks cX0_blocks 1 (some .int), Cond.methodLink RL 63 yX7_blockCount, Cond.instanceMethod yX7_blockCount, Cond.selects RX7 yX7_blockCount yX7_blockCount, Cond.code yX7_blockCount cX7_blockCount 1 (some .int), Cond.methodLink RL 64 yX6_sourceOf, Cond.instanceMethod yX6_sourceOf, Cond.selects RX6 yX6_sourceOf yX6_sourceOf, Cond.code yX6_sourceOf cX6_sourceOf 2 (some .int), Cond.methodLink RL 67 yX7_sourceOf, Cond.instanceMethod yX7_sourceOf, Cond.selects RX7 yX7_sourceOf yX7_sourceOf, Cond.code yX7_sourceOf cX7_sourceOf 2 (some .int), Cond.methodLink RL 68 yX6_targetOf, Cond.instanceMethod yX6_targetOf]
def wsL_law_r28 : List Cond := [Cond.selects RX6 yX6_targetOf yX6_targetOf, Cond.code yX6_targetOf cX6_targetOf 2 (some .int), Cond.methodLink RL 71 yX7_targetOf, Cond.instanceMethod yX7_targetOf, Cond.selects RX7 yX7_targetOf yX7_targetOf, Cond.code yX7_targetOf cX7_targetOf 2 (some .int), Cond.methodLink RL 72 yX6_weightOf, Cond.instanceMethod yX6_weightOf, Cond.selects RX6 yX6_weightOf yX6_weightOf, Cond.code yX6_weightOf cX6_weightOf 2 (some .int), Cond.methodLink RL 75 yX7_weightOf, Cond.instanceMethod yX7_weightOf, Cond.selects RX7 yX7_weightOf yX7_weightOf, Cond.code yX7_weightOf cX7_weightOf 2 (some .int), Cond.methodLink RL 76 yX6_hasCounter, Cond.instanceMethod yX6_hasCounter, Cond.selects RX6 yX6_hasCounter yX6_hasCounter, Cond.code yX6_hasCounter cX6_hasCounter 2 (some .int), Cond.methodLink RL 79 yX7_hasCounter, Cond.instanceMethod yX7_hasCounter, Cond.selects RX7 yX7_hasCounter yX7_hasCounter, Cond.code yX7_hasCounter cX7_hasCounter 2 (some .int), Cond.methodLink RL 80 yX6_counterCount, Cond.instanceMethod yX6_counterCount]
def wsL_law_r29 : List Cond := [Cond.selects RX6 yX6_counterCount yX6_counterCount, Cond.code yX6_counterCount cX6_counterCount 3 (some .int), Cond.methodLink RL 83 yX7_counterCount, Cond.instanceMethod yX7_counterCount, Cond.selects RX7 yX7_counterCount yX7_counterCount, Cond.code yX7_counterCount cX7_counterCount 3 (some .int), Cond.methodLink RL 84 yX6_placementCost, Cond.instanceMethod yX6_placementCost, Cond.selects RX6 yX6_placementCost yX6_placementCost, Cond.code yX6_placementCost cX6_placementCost 3 (some .int), Cond.methodLink RL 87 yX7_placementCost, Cond.instanceMethod yX7_placementCost, Cond.selects RX7 yX7_placementCost yX7_placementCost, Cond.code yX7_placementCost cX7_placementCost 1 (some .int), Cond.methodLink RX7 157 yX7_weightSum, Cond.instanceMethod yX7_weightSum, Cond.selects RX7 yX7_weightSum yX7_weightSum, Cond.code yX7_weightSum cX7_weightSum 4 (some .int), Cond.methodLink RL 88 yX6_costShareBits, Cond.instanceMethod yX6_costShareBits, Cond.selects RX6 yX6_costShareBits yX6_costShareBits, Cond.code yX6_costShareBits cX6_costShareBits 3 (some .int), Cond.methodLink RX6 185 yX6_placementCost, Cond.methodLink RX6 188 yX6_bitsOfShare]
def wsL_law_r30 : List Cond := [Cond.static yX6_bitsOfShare, Cond.code yX6_bitsOfShare cX6_bitsOfShare 3 (some .int), Cond.constantFloat RX6 235 (1258291200), Cond.methodLink RL 91 yX7_costShareBits, Cond.instanceMethod yX7_costShareBits, Cond.selects RX7 yX7_costShareBits yX7_costShareBits, Cond.code yX7_costShareBits cX7_costShareBits 2 (some .int), Cond.methodLink RX7 161 yJxf58ca_floatToIntBits_5c35a, Cond.static yJxf58ca_floatToIntBits_5c35a, Cond.initialized RJxf58ca, Cond.code yJxf58ca_floatToIntBits_5c35a cJxf58ca_floatToIntBits_5c35a 1 (some .int), Cond.methodLink RJxf58ca 74 ⟨"java/lang/Float", "floatToRawIntBits", "(F)I"⟩, Cond.native ⟨"java/lang/Float", "floatToRawIntBits", "(F)I"⟩, Cond.static ⟨"java/lang/Float", "floatToRawIntBits", "(F)I"⟩, Cond.initialized "java/lang/Float", Cond.constant RJxf58ca 77 (2143289344), Cond.methodLink RJxf58ca 59 yJxf58ca_isNaN_12338, Cond.static yJxf58ca_isNaN_12338, Cond.code yJxf58ca_isNaN_12338 cJxf58ca_isNaN_12338 1 (some .boolean), Cond.methodLink RL 92 yX6_counter, Cond.instanceMethod yX6_counter, Cond.selects RX6 yX6_counter yX6_counter, Cond.code yX6_counter cX6_counter 2 (some .int), Cond.methodLink RL 95 yX7_counter]
def wsL_law_r31 : List Cond := [Cond.instanceMethod yX7_counter, Cond.selects RX7 yX7_counter yX7_counter, Cond.code yX7_counter cX7_counter 2 (some .int), Cond.methodLink RL 96 yX6_trueCount, Cond.instanceMethod yX6_trueCount, Cond.selects RX6 yX6_trueCount yX6_trueCount, Cond.code yX6_trueCount cX6_trueCount 2 (some .int), Cond.methodLink RX6 195 yX4_passes, Cond.instanceMethod yX4_passes, Cond.selects RX4 yX4_passes yX4_passes, Cond.code yX4_passes cX4_passes 2 (some .int), Cond.methodLink RL 99 yX7_trueCount, Cond.instanceMethod yX7_trueCount, Cond.selects RX7 yX7_trueCount yX7_trueCount, Cond.code yX7_trueCount cX7_trueCount 2 (some .int), Cond.methodLink RL 100 yX6_reconstruct, Cond.instanceMethod yX6_reconstruct, Cond.selects RX6 yX6_reconstruct yX6_reconstruct, Cond.code yX6_reconstruct cX6_reconstruct 2 (some .int), Cond.methodLink RL 103 yX7_reconstruct, Cond.instanceMethod yX7_reconstruct, Cond.selects RX7 yX7_reconstruct yX7_reconstruct, Cond.code yX7_reconstruct cX7_reconstruct 2 (some .int), Cond.methodLink RL 104 yX6_coefficient]
def wsL_law_r32 : List Cond := [Cond.instanceMethod yX6_coefficient, Cond.selects RX6 yX6_coefficient yX6_coefficient, Cond.code yX6_coefficient cX6_coefficient 3 (some .int), Cond.methodLink RL 107 yX7_coefficient, Cond.instanceMethod yX7_coefficient, Cond.selects RX7 yX7_coefficient yX7_coefficient, Cond.code yX7_coefficient cX7_coefficient 3 (some .int), Cond.methodLink RL 108 yX6_executions, Cond.instanceMethod yX6_executions, Cond.selects RX6 yX6_executions yX6_executions, Cond.code yX6_executions cX6_executions 4 (some .int), Cond.methodLink RX6 204 yX0_hasBlock, Cond.methodLink RL 111 yX7_executions, Cond.instanceMethod yX7_executions, Cond.selects RX7 yX7_executions yX7_executions, Cond.code yX7_executions cX7_executions 5 (some .int), Cond.methodLink RL 112 yX6_dependents, Cond.instanceMethod yX6_dependents, Cond.selects RX6 yX6_dependents yX6_dependents, Cond.code yX6_dependents cX6_dependents 4 (some .int), Cond.methodLink RL 115 yX7_dependents, Cond.instanceMethod yX7_dependents, Cond.selects RX7 yX7_dependents yX7_dependents, Cond.code yX7_dependents cX7_dependents 4 (some .int)]
def wsL_law_r33 : List Cond := [Cond.methodLink RL 116 yX6_saturatedCount, Cond.instanceMethod yX6_saturatedCount, Cond.selects RX6 yX6_saturatedCount yX6_saturatedCount, Cond.code yX6_saturatedCount cX6_saturatedCount 3 (some .int), Cond.methodLink RL 119 yX7_saturatedCount, Cond.instanceMethod yX7_saturatedCount, Cond.selects RX7 yX7_saturatedCount yX7_saturatedCount, Cond.code yX7_saturatedCount cX7_saturatedCount 3 (some .int), Cond.methodLink RL 120 yX6_presentBlock, Cond.instanceMethod yX6_presentBlock, Cond.selects RX6 yX6_presentBlock yX6_presentBlock, Cond.code yX6_presentBlock cX6_presentBlock 1 (some .int), Cond.methodLink RL 123 yX7_presentBlock, Cond.instanceMethod yX7_presentBlock, Cond.selects RX7 yX7_presentBlock yX7_presentBlock, Cond.code yX7_presentBlock cX7_presentBlock 1 (some .int), Cond.methodLink RL 124 yX6_finishedRuns, Cond.instanceMethod yX6_finishedRuns, Cond.selects RX6 yX6_finishedRuns yX6_finishedRuns, Cond.code yX6_finishedRuns cX6_finishedRuns 1 (some .int), Cond.methodLink RL 127 yX7_finishedRuns, Cond.instanceMethod yX7_finishedRuns, Cond.selects RX7 yX7_finishedRuns yX7_finishedRuns, Cond.code yX7_finishedRuns cX7_finishedRuns 1 (some .int)]
def wsL_law : List Cond := (wsL_law_r1 ++ (wsL_law_r2 ++ (wsL_law_r3 ++ (wsL_law_r4 ++ (wsL_law_r5 ++ (wsL_law_r6 ++ (wsL_law_r7 ++ (wsL_law_r8 ++ (wsL_law_r9 ++ (wsL_law_r10 ++ (wsL_law_r11 ++ (wsL_law_r12 ++ (wsL_law_r13 ++ (wsL_law_r14 ++ (wsL_law_r15 ++ (wsL_law_r16 ++ (wsL_law_r17 ++ (wsL_law_r18 ++ (wsL_law_r19 ++ (wsL_law_r20 ++ (wsL_law_r21 ++ (wsL_law_r22 ++ (wsL_law_r23 ++ (wsL_law_r24 ++ (wsL_law_r25 ++ (wsL_law_r26 ++ (wsL_law_r27 ++ (wsL_law_r28 ++ (wsL_law_r29 ++ (wsL_law_r30 ++ (wsL_law_r31 ++ (wsL_law_r32 ++ wsL_law_r33)))))))))))))))))))))))))))))))) ++ wsX60 ++ wsX70 ++ wsX10 ++ wsX50 ++ wsX30 ++ wsX40 ++ wsX20 ++ wsX00 ++ ([] : List Cond)
set_option maxRecDepth 20000 in
theorem wsL_law_in : ∀ w ∈ wsL_law, w ∈ lw_tbl := fun w h => (goodIn_p wsL_law [58, 61, 66, 80, 103, 119, 141, 166, 196, 200, 206, 210, 213, 216, 221, 224, 227, 230, 234, 244, 248, 252, 256, 260, 264, 268, 272, 276, 280, 284, 288, 292, 296, 300, 304, 310, 313, 317, 322, 327, 331, 335, 340, 344, 348, 352, 356, 360, 364, 368, 372, 377, 384, 388, 392, 397, 401, 406, 678, 683, 687, 692, 696, 699, 703, 433, 765, 768, 438, 772, 442, 446, 776, 780, 784, 788, 792, 796, 450, 800, 804, 808, 455, 460, 471, 464, 468, 476, 816, 820, 824, 482, 487, 491, 828, 495, 500, 504, 510, 514, 832, 836, 840, 520, 524, 528, 536, 844, 851, 855, 540, 544, 548, 553, 558, 563, 567, 572, 859, 863, 867, 871, 874, 878, 578, 582, 586, 591, 812, 595, 599, 882, 603, 886, 607, 890, 611, 894, 615, 898, 619, 902, 623, 906, 910, 627, 631, 914, 917, 920, 636, 928, 640, 644, 932, 648, 936, 652, 940, 656, 944, 661, 948, 665, 952, 669, 956, 673, 960] (by decide +kernel) (by decide +kernel) w h).1
theorem inlX0 : ∀ w ∈ wsX00, w ∈ wsL_law := fun _ h => List.mem_append_left _ (List.mem_append_right _ h)
theorem inX0 : ∀ w ∈ wsX00, w ∈ lw_tbl := fun w h => wsL_law_in w (inlX0 w h)
theorem inlX1 : ∀ w ∈ wsX10, w ∈ wsL_law := fun _ h => List.mem_append_left _ (List.mem_append_left _ (List.mem_append_left _ (List.mem_append_left _ (List.mem_append_left _ (List.mem_append_left _ (List.mem_append_right _ h))))))
theorem inX1 : ∀ w ∈ wsX10, w ∈ lw_tbl := fun w h => wsL_law_in w (inlX1 w h)
theorem inlX2 : ∀ w ∈ wsX20, w ∈ wsL_law := fun _ h => List.mem_append_left _ (List.mem_append_left _ (List.mem_append_right _ h))
theorem inX2 : ∀ w ∈ wsX20, w ∈ lw_tbl := fun w h => wsL_law_in w (inlX2 w h)
theorem inlX3 : ∀ w ∈ wsX30, w ∈ wsL_law := fun _ h => List.mem_append_left _ (List.mem_append_left _ (List.mem_append_left _ (List.mem_append_left _ (List.mem_append_right _ h))))
theorem inX3 : ∀ w ∈ wsX30, w ∈ lw_tbl := fun w h => wsL_law_in w (inlX3 w h)
theorem inlX4 : ∀ w ∈ wsX40, w ∈ wsL_law := fun _ h => List.mem_append_left _ (List.mem_append_left _ (List.mem_append_left _ (List.mem_append_right _ h)))
theorem inX4 : ∀ w ∈ wsX40, w ∈ lw_tbl := fun w h => wsL_law_in w (inlX4 w h)
theorem inlX5 : ∀ w ∈ wsX50, w ∈ wsL_law := fun _ h => List.mem_append_left _ (List.mem_append_left _ (List.mem_append_left _ (List.mem_append_left _ (List.mem_append_left _ (List.mem_append_right _ h)))))
theorem inX5 : ∀ w ∈ wsX50, w ∈ lw_tbl := fun w h => wsL_law_in w (inlX5 w h)
theorem inlX6 : ∀ w ∈ wsX60, w ∈ wsL_law := fun _ h => List.mem_append_left _ (List.mem_append_left _ (List.mem_append_left _ (List.mem_append_left _ (List.mem_append_left _ (List.mem_append_left _ (List.mem_append_left _ (List.mem_append_left _ (List.mem_append_right _ h))))))))
theorem inX6 : ∀ w ∈ wsX60, w ∈ lw_tbl := fun w h => wsL_law_in w (inlX6 w h)
theorem inlX7 : ∀ w ∈ wsX70, w ∈ wsL_law := fun _ h => List.mem_append_left _ (List.mem_append_left _ (List.mem_append_left _ (List.mem_append_left _ (List.mem_append_left _ (List.mem_append_left _ (List.mem_append_left _ (List.mem_append_right _ h)))))))
theorem inX7 : ∀ w ∈ wsX70, w ∈ lw_tbl := fun w h => wsL_law_in w (inlX7 w h)
theorem inJxf58ca : ∀ w ∈ wsJxf58ca0, w ∈ lw_tbl := by decide +kernel
theorem inJ9 : ∀ w ∈ wsJ90, w ∈ lw_tbl := by decide +kernel
theorem inJ0 : ∀ w ∈ wsJ00, w ∈ lw_tbl := by decide +kernel
theorem inJ1 : ∀ w ∈ wsJ10, w ∈ lw_tbl := by decide +kernel
theorem inJ2 : ∀ w ∈ wsJ20, w ∈ lw_tbl := by decide +kernel
theorem inJ3 : ∀ w ∈ wsJ30, w ∈ lw_tbl := by decide +kernel
end
section
theorem dX0_init_0 : decode cX0_init 0 = .ok (.aload_n 0, 1) := by decide +kernel
theorem dX0_init_1 : decode cX0_init 1 = .ok (.invokespecial 3, 3) := by decide +kernel
theorem dX0_init_4 : decode cX0_init 4 = .ok (.aload_n 0, 1) := by decide +kernel
theorem dX0_init_5 : decode cX0_init 5 = .ok (.bipush 20, 2) := by decide +kernel
theorem dX0_init_7 : decode cX0_init 7 = .ok (.newarray .int, 2) := by decide +kernel
theorem dX0_init_9 : decode cX0_init 9 = .ok (.putfield 9, 3) := by decide +kernel
theorem dX0_init_12 : decode cX0_init 12 = .ok (.aload_n 0, 1) := by decide +kernel
theorem dX0_init_13 : decode cX0_init 13 = .ok (.bipush 20, 2) := by decide +kernel
theorem dX0_init_15 : decode cX0_init 15 = .ok (.newarray .int, 2) := by decide +kernel
theorem dX0_init_17 : decode cX0_init 17 = .ok (.putfield 15, 3) := by decide +kernel
theorem dX0_init_20 : decode cX0_init 20 = .ok (.aload_n 0, 1) := by decide +kernel
theorem dX0_init_21 : decode cX0_init 21 = .ok (.bipush 20, 2) := by decide +kernel
theorem dX0_init_23 : decode cX0_init 23 = .ok (.newarray .int, 2) := by decide +kernel
theorem dX0_init_25 : decode cX0_init 25 = .ok (.putfield 18, 3) := by decide +kernel
theorem dX0_init_28 : decode cX0_init 28 = .ok (.aload_n 0, 1) := by decide +kernel
theorem dX0_init_29 : decode cX0_init 29 = .ok (.bipush 10, 2) := by decide +kernel
theorem dX0_init_31 : decode cX0_init 31 = .ok (.bipush 20, 2) := by decide +kernel
theorem dX0_init_33 : decode cX0_init 33 = .ok (.multianewarray 21 2, 4) := by decide +kernel
theorem dX0_init_37 : decode cX0_init 37 = .ok (.putfield 23, 3) := by decide +kernel
theorem dX0_init_40 : decode cX0_init 40 = .ok (.aload_n 0, 1) := by decide +kernel
theorem dX0_init_41 : decode cX0_init 41 = .ok (.bipush 10, 2) := by decide +kernel
theorem dX0_init_43 : decode cX0_init 43 = .ok (.newarray .int, 2) := by decide +kernel
theorem dX0_init_45 : decode cX0_init 45 = .ok (.putfield 26, 3) := by decide +kernel
theorem dX0_init_48 : decode cX0_init 48 = .ok (.return_, 1) := by decide +kernel
theorem dX0_begin_0 : decode cX0_begin 0 = .ok (.aload_n 0, 1) := by decide +kernel
theorem dX0_begin_1 : decode cX0_begin 1 = .ok (.iload_n 1, 1) := by decide +kernel
theorem dX0_begin_2 : decode cX0_begin 2 = .ok (.putfield 29, 3) := by decide +kernel
theorem dX0_begin_5 : decode cX0_begin 5 = .ok (.aload_n 0, 1) := by decide +kernel
theorem dX0_begin_6 : decode cX0_begin 6 = .ok (.iconst 0, 1) := by decide +kernel
theorem dX0_begin_7 : decode cX0_begin 7 = .ok (.putfield 33, 3) := by decide +kernel
theorem dX0_begin_10 : decode cX0_begin 10 = .ok (.iconst 0, 1) := by decide +kernel
theorem dX0_begin_11 : decode cX0_begin 11 = .ok (.istore_n 2, 1) := by decide +kernel
theorem dX0_begin_12 : decode cX0_begin 12 = .ok (.iload_n 2, 1) := by decide +kernel
theorem dX0_begin_13 : decode cX0_begin 13 = .ok (.bipush 10, 2) := by decide +kernel
theorem dX0_begin_15 : decode cX0_begin 15 = .ok (.if_icmp .ge 16, 3) := by decide +kernel
theorem dX0_begin_18 : decode cX0_begin 18 = .ok (.aload_n 0, 1) := by decide +kernel
theorem dX0_begin_19 : decode cX0_begin 19 = .ok (.getfield 26, 3) := by decide +kernel
theorem dX0_begin_22 : decode cX0_begin 22 = .ok (.iload_n 2, 1) := by decide +kernel
theorem dX0_begin_23 : decode cX0_begin 23 = .ok (.iconst 0, 1) := by decide +kernel
theorem dX0_begin_24 : decode cX0_begin 24 = .ok (.iastore, 1) := by decide +kernel
theorem dX0_begin_25 : decode cX0_begin 25 = .ok (.iinc 2 1, 3) := by decide +kernel
theorem dX0_begin_28 : decode cX0_begin 28 = .ok (.goto (-16), 3) := by decide +kernel
theorem dX0_begin_31 : decode cX0_begin 31 = .ok (.return_, 1) := by decide +kernel
theorem dX0_blocks_0 : decode cX0_blocks 0 = .ok (.aload_n 0, 1) := by decide +kernel
theorem dX0_blocks_1 : decode cX0_blocks 1 = .ok (.getfield 29, 3) := by decide +kernel
theorem dX0_blocks_4 : decode cX0_blocks 4 = .ok (.ireturn, 1) := by decide +kernel
theorem dX0_edges_0 : decode cX0_edges 0 = .ok (.aload_n 0, 1) := by decide +kernel
theorem dX0_edges_1 : decode cX0_edges 1 = .ok (.getfield 33, 3) := by decide +kernel
theorem dX0_edges_4 : decode cX0_edges 4 = .ok (.ireturn, 1) := by decide +kernel
theorem dX0_exit_0 : decode cX0_exit 0 = .ok (.aload_n 0, 1) := by decide +kernel
theorem dX0_exit_1 : decode cX0_exit 1 = .ok (.getfield 29, 3) := by decide +kernel
theorem dX0_exit_4 : decode cX0_exit 4 = .ok (.iconst 1, 1) := by decide +kernel
theorem dX0_exit_5 : decode cX0_exit 5 = .ok (.isub, 1) := by decide +kernel
theorem dX0_exit_6 : decode cX0_exit 6 = .ok (.ireturn, 1) := by decide +kernel
theorem dX0_hasBlock_0 : decode cX0_hasBlock 0 = .ok (.iload_n 1, 1) := by decide +kernel
theorem dX0_hasBlock_1 : decode cX0_hasBlock 1 = .ok (.ifCond .lt 21, 3) := by decide +kernel
theorem dX0_hasBlock_4 : decode cX0_hasBlock 4 = .ok (.iload_n 1, 1) := by decide +kernel
theorem dX0_hasBlock_5 : decode cX0_hasBlock 5 = .ok (.aload_n 0, 1) := by decide +kernel
theorem dX0_hasBlock_6 : decode cX0_hasBlock 6 = .ok (.getfield 29, 3) := by decide +kernel
theorem dX0_hasBlock_9 : decode cX0_hasBlock 9 = .ok (.if_icmp .ge 13, 3) := by decide +kernel
theorem dX0_hasBlock_12 : decode cX0_hasBlock 12 = .ok (.iload_n 1, 1) := by decide +kernel
theorem dX0_hasBlock_13 : decode cX0_hasBlock 13 = .ok (.bipush 10, 2) := by decide +kernel
theorem dX0_hasBlock_15 : decode cX0_hasBlock 15 = .ok (.if_icmp .ge 7, 3) := by decide +kernel
theorem dX0_hasBlock_18 : decode cX0_hasBlock 18 = .ok (.iconst 1, 1) := by decide +kernel
theorem dX0_hasBlock_19 : decode cX0_hasBlock 19 = .ok (.goto 4, 3) := by decide +kernel
theorem dX0_hasBlock_22 : decode cX0_hasBlock 22 = .ok (.iconst 0, 1) := by decide +kernel
theorem dX0_hasBlock_23 : decode cX0_hasBlock 23 = .ok (.ireturn, 1) := by decide +kernel
theorem dX0_hasEdge_0 : decode cX0_hasEdge 0 = .ok (.iload_n 1, 1) := by decide +kernel
theorem dX0_hasEdge_1 : decode cX0_hasEdge 1 = .ok (.ifCond .lt 21, 3) := by decide +kernel
theorem dX0_hasEdge_4 : decode cX0_hasEdge 4 = .ok (.iload_n 1, 1) := by decide +kernel
theorem dX0_hasEdge_5 : decode cX0_hasEdge 5 = .ok (.aload_n 0, 1) := by decide +kernel
theorem dX0_hasEdge_6 : decode cX0_hasEdge 6 = .ok (.getfield 33, 3) := by decide +kernel
theorem dX0_hasEdge_9 : decode cX0_hasEdge 9 = .ok (.if_icmp .ge 13, 3) := by decide +kernel
theorem dX0_hasEdge_12 : decode cX0_hasEdge 12 = .ok (.iload_n 1, 1) := by decide +kernel
theorem dX0_hasEdge_13 : decode cX0_hasEdge 13 = .ok (.bipush 20, 2) := by decide +kernel
theorem dX0_hasEdge_15 : decode cX0_hasEdge 15 = .ok (.if_icmp .ge 7, 3) := by decide +kernel
theorem dX0_hasEdge_18 : decode cX0_hasEdge 18 = .ok (.iconst 1, 1) := by decide +kernel
theorem dX0_hasEdge_19 : decode cX0_hasEdge 19 = .ok (.goto 4, 3) := by decide +kernel
theorem dX0_hasEdge_22 : decode cX0_hasEdge 22 = .ok (.iconst 0, 1) := by decide +kernel
theorem dX0_hasEdge_23 : decode cX0_hasEdge 23 = .ok (.ireturn, 1) := by decide +kernel
theorem dX0_isFull_0 : decode cX0_isFull 0 = .ok (.aload_n 0, 1) := by decide +kernel
theorem dX0_isFull_1 : decode cX0_isFull 1 = .ok (.getfield 33, 3) := by decide +kernel
theorem dX0_isFull_4 : decode cX0_isFull 4 = .ok (.bipush 20, 2) := by decide +kernel
theorem dX0_isFull_6 : decode cX0_isFull 6 = .ok (.if_icmp .lt 7, 3) := by decide +kernel
theorem dX0_isFull_9 : decode cX0_isFull 9 = .ok (.iconst 1, 1) := by decide +kernel
theorem dX0_isFull_10 : decode cX0_isFull 10 = .ok (.goto 4, 3) := by decide +kernel
theorem dX0_isFull_13 : decode cX0_isFull 13 = .ok (.iconst 0, 1) := by decide +kernel
theorem dX0_isFull_14 : decode cX0_isFull 14 = .ok (.ireturn, 1) := by decide +kernel
set_option maxRecDepth 20000 in
theorem ggX0_addEdge_X0_isFull : GoodIn wsX0_addEdge wsX0_isFull := goodIn_r _ [11, 2, 17, 18, 19, 20, 21, 22, 23] (by decide +kernel) (by decide +kernel)
set_option maxRecDepth 20000 in
theorem gX0_addEdge_X0_isFull : GoodIn wsX0_addEdge (wsV RX0 36 RX0 yX0_isFull wsX0_isFull) := goodIn_app (goodIn_of _ (by decide +kernel)) ggX0_addEdge_X0_isFull
set_option maxRecDepth 20000 in
theorem ggX0_addEdge_X0_hasBlock : GoodIn wsX0_addEdge wsX0_hasBlock := goodIn_r _ [15, 16, 17, 18, 19, 20, 21, 22, 23] (by decide +kernel) (by decide +kernel)
set_option maxRecDepth 20000 in
theorem gX0_addEdge_X0_hasBlock : GoodIn wsX0_addEdge (wsV RX0 40 RX0 yX0_hasBlock wsX0_hasBlock) := goodIn_app (goodIn_of _ (by decide +kernel)) ggX0_addEdge_X0_hasBlock
theorem dX0_addEdge_0 : decode cX0_addEdge 0 = .ok (.aload_n 0, 1) := by decide +kernel
theorem dX0_addEdge_1 : decode cX0_addEdge 1 = .ok (.invokevirtual 36, 3) := by decide +kernel
theorem dX0_addEdge_4 : decode cX0_addEdge 4 = .ok (.ifCond .ne 19, 3) := by decide +kernel
theorem dX0_addEdge_7 : decode cX0_addEdge 7 = .ok (.aload_n 0, 1) := by decide +kernel
theorem dX0_addEdge_8 : decode cX0_addEdge 8 = .ok (.iload_n 1, 1) := by decide +kernel
theorem dX0_addEdge_9 : decode cX0_addEdge 9 = .ok (.invokevirtual 40, 3) := by decide +kernel
theorem dX0_addEdge_12 : decode cX0_addEdge 12 = .ok (.ifCond .eq 11, 3) := by decide +kernel
theorem dX0_addEdge_15 : decode cX0_addEdge 15 = .ok (.aload_n 0, 1) := by decide +kernel
theorem dX0_addEdge_16 : decode cX0_addEdge 16 = .ok (.iload_n 2, 1) := by decide +kernel
theorem dX0_addEdge_17 : decode cX0_addEdge 17 = .ok (.invokevirtual 40, 3) := by decide +kernel
theorem dX0_addEdge_20 : decode cX0_addEdge 20 = .ok (.ifCond .ne 4, 3) := by decide +kernel
theorem dX0_addEdge_23 : decode cX0_addEdge 23 = .ok (.return_, 1) := by decide +kernel
theorem dX0_addEdge_24 : decode cX0_addEdge 24 = .ok (.aload_n 0, 1) := by decide +kernel
theorem dX0_addEdge_25 : decode cX0_addEdge 25 = .ok (.getfield 9, 3) := by decide +kernel
theorem dX0_addEdge_28 : decode cX0_addEdge 28 = .ok (.aload_n 0, 1) := by decide +kernel
theorem dX0_addEdge_29 : decode cX0_addEdge 29 = .ok (.getfield 33, 3) := by decide +kernel
theorem dX0_addEdge_32 : decode cX0_addEdge 32 = .ok (.iload_n 1, 1) := by decide +kernel
theorem dX0_addEdge_33 : decode cX0_addEdge 33 = .ok (.iastore, 1) := by decide +kernel
theorem dX0_addEdge_34 : decode cX0_addEdge 34 = .ok (.aload_n 0, 1) := by decide +kernel
theorem dX0_addEdge_35 : decode cX0_addEdge 35 = .ok (.getfield 15, 3) := by decide +kernel
theorem dX0_addEdge_38 : decode cX0_addEdge 38 = .ok (.aload_n 0, 1) := by decide +kernel
theorem dX0_addEdge_39 : decode cX0_addEdge 39 = .ok (.getfield 33, 3) := by decide +kernel
theorem dX0_addEdge_42 : decode cX0_addEdge 42 = .ok (.iload_n 2, 1) := by decide +kernel
theorem dX0_addEdge_43 : decode cX0_addEdge 43 = .ok (.iastore, 1) := by decide +kernel
theorem dX0_addEdge_44 : decode cX0_addEdge 44 = .ok (.aload_n 0, 1) := by decide +kernel
theorem dX0_addEdge_45 : decode cX0_addEdge 45 = .ok (.getfield 18, 3) := by decide +kernel
theorem dX0_addEdge_48 : decode cX0_addEdge 48 = .ok (.aload_n 0, 1) := by decide +kernel
theorem dX0_addEdge_49 : decode cX0_addEdge 49 = .ok (.getfield 33, 3) := by decide +kernel
theorem dX0_addEdge_52 : decode cX0_addEdge 52 = .ok (.iload_n 3, 1) := by decide +kernel
theorem dX0_addEdge_53 : decode cX0_addEdge 53 = .ok (.iastore, 1) := by decide +kernel
theorem dX0_addEdge_54 : decode cX0_addEdge 54 = .ok (.aload_n 0, 1) := by decide +kernel
theorem dX0_addEdge_55 : decode cX0_addEdge 55 = .ok (.getfield 23, 3) := by decide +kernel
theorem dX0_addEdge_58 : decode cX0_addEdge 58 = .ok (.iload_n 1, 1) := by decide +kernel
theorem dX0_addEdge_59 : decode cX0_addEdge 59 = .ok (.aaload, 1) := by decide +kernel
theorem dX0_addEdge_60 : decode cX0_addEdge 60 = .ok (.aload_n 0, 1) := by decide +kernel
theorem dX0_addEdge_61 : decode cX0_addEdge 61 = .ok (.getfield 26, 3) := by decide +kernel
theorem dX0_addEdge_64 : decode cX0_addEdge 64 = .ok (.iload_n 1, 1) := by decide +kernel
theorem dX0_addEdge_65 : decode cX0_addEdge 65 = .ok (.iaload, 1) := by decide +kernel
theorem dX0_addEdge_66 : decode cX0_addEdge 66 = .ok (.aload_n 0, 1) := by decide +kernel
theorem dX0_addEdge_67 : decode cX0_addEdge 67 = .ok (.getfield 33, 3) := by decide +kernel
theorem dX0_addEdge_70 : decode cX0_addEdge 70 = .ok (.iastore, 1) := by decide +kernel
theorem dX0_addEdge_71 : decode cX0_addEdge 71 = .ok (.aload_n 0, 1) := by decide +kernel
theorem dX0_addEdge_72 : decode cX0_addEdge 72 = .ok (.getfield 26, 3) := by decide +kernel
theorem dX0_addEdge_75 : decode cX0_addEdge 75 = .ok (.iload_n 1, 1) := by decide +kernel
theorem dX0_addEdge_76 : decode cX0_addEdge 76 = .ok (.dup2, 1) := by decide +kernel
theorem dX0_addEdge_77 : decode cX0_addEdge 77 = .ok (.iaload, 1) := by decide +kernel
theorem dX0_addEdge_78 : decode cX0_addEdge 78 = .ok (.iconst 1, 1) := by decide +kernel
theorem dX0_addEdge_79 : decode cX0_addEdge 79 = .ok (.iadd, 1) := by decide +kernel
theorem dX0_addEdge_80 : decode cX0_addEdge 80 = .ok (.iastore, 1) := by decide +kernel
theorem dX0_addEdge_81 : decode cX0_addEdge 81 = .ok (.aload_n 0, 1) := by decide +kernel
theorem dX0_addEdge_82 : decode cX0_addEdge 82 = .ok (.dup, 1) := by decide +kernel
theorem dX0_addEdge_83 : decode cX0_addEdge 83 = .ok (.getfield 33, 3) := by decide +kernel
theorem dX0_addEdge_86 : decode cX0_addEdge 86 = .ok (.iconst 1, 1) := by decide +kernel
theorem dX0_addEdge_87 : decode cX0_addEdge 87 = .ok (.iadd, 1) := by decide +kernel
theorem dX0_addEdge_88 : decode cX0_addEdge 88 = .ok (.putfield 33, 3) := by decide +kernel
theorem dX0_addEdge_91 : decode cX0_addEdge 91 = .ok (.return_, 1) := by decide +kernel
set_option maxRecDepth 20000 in
theorem ggX0_source_X0_hasEdge : GoodIn wsX0_source wsX0_hasEdge := goodIn_r _ [6, 7, 8, 9, 10, 11, 12, 13, 14] (by decide +kernel) (by decide +kernel)
set_option maxRecDepth 20000 in
theorem gX0_source_X0_hasEdge : GoodIn wsX0_source (wsV RX0 44 RX0 yX0_hasEdge wsX0_hasEdge) := goodIn_app (goodIn_of _ (by decide +kernel)) ggX0_source_X0_hasEdge
theorem dX0_source_0 : decode cX0_source 0 = .ok (.aload_n 0, 1) := by decide +kernel
theorem dX0_source_1 : decode cX0_source 1 = .ok (.iload_n 1, 1) := by decide +kernel
theorem dX0_source_2 : decode cX0_source 2 = .ok (.invokevirtual 44, 3) := by decide +kernel
theorem dX0_source_5 : decode cX0_source 5 = .ok (.ifCond .eq 12, 3) := by decide +kernel
theorem dX0_source_8 : decode cX0_source 8 = .ok (.aload_n 0, 1) := by decide +kernel
theorem dX0_source_9 : decode cX0_source 9 = .ok (.getfield 9, 3) := by decide +kernel
theorem dX0_source_12 : decode cX0_source 12 = .ok (.iload_n 1, 1) := by decide +kernel
theorem dX0_source_13 : decode cX0_source 13 = .ok (.iaload, 1) := by decide +kernel
theorem dX0_source_14 : decode cX0_source 14 = .ok (.goto 4, 3) := by decide +kernel
theorem dX0_source_17 : decode cX0_source 17 = .ok (.iconst 0, 1) := by decide +kernel
theorem dX0_source_18 : decode cX0_source 18 = .ok (.ireturn, 1) := by decide +kernel
set_option maxRecDepth 20000 in
theorem ggX0_target_X0_hasEdge : GoodIn wsX0_target wsX0_hasEdge := goodIn_r _ [6, 7, 8, 9, 10, 11, 12, 13, 14] (by decide +kernel) (by decide +kernel)
set_option maxRecDepth 20000 in
theorem gX0_target_X0_hasEdge : GoodIn wsX0_target (wsV RX0 44 RX0 yX0_hasEdge wsX0_hasEdge) := goodIn_app (goodIn_of _ (by decide +kernel)) ggX0_target_X0_hasEdge
theorem dX0_target_0 : decode cX0_target 0 = .ok (.aload_n 0, 1) := by decide +kernel
theorem dX0_target_1 : decode cX0_target 1 = .ok (.iload_n 1, 1) := by decide +kernel
theorem dX0_target_2 : decode cX0_target 2 = .ok (.invokevirtual 44, 3) := by decide +kernel
theorem dX0_target_5 : decode cX0_target 5 = .ok (.ifCond .eq 12, 3) := by decide +kernel
theorem dX0_target_8 : decode cX0_target 8 = .ok (.aload_n 0, 1) := by decide +kernel
theorem dX0_target_9 : decode cX0_target 9 = .ok (.getfield 15, 3) := by decide +kernel
theorem dX0_target_12 : decode cX0_target 12 = .ok (.iload_n 1, 1) := by decide +kernel
theorem dX0_target_13 : decode cX0_target 13 = .ok (.iaload, 1) := by decide +kernel
theorem dX0_target_14 : decode cX0_target 14 = .ok (.goto 4, 3) := by decide +kernel
theorem dX0_target_17 : decode cX0_target 17 = .ok (.iconst 0, 1) := by decide +kernel
theorem dX0_target_18 : decode cX0_target 18 = .ok (.ireturn, 1) := by decide +kernel
set_option maxRecDepth 20000 in
theorem ggX0_statedWeight_X0_hasEdge : GoodIn wsX0_statedWeight wsX0_hasEdge := goodIn_r _ [6, 7, 8, 9, 10, 11, 12, 13, 14] (by decide +kernel) (by decide +kernel)
set_option maxRecDepth 20000 in
theorem gX0_statedWeight_X0_hasEdge : GoodIn wsX0_statedWeight (wsV RX0 44 RX0 yX0_hasEdge wsX0_hasEdge) := goodIn_app (goodIn_of _ (by decide +kernel)) ggX0_statedWeight_X0_hasEdge
theorem dX0_statedWeight_0 : decode cX0_statedWeight 0 = .ok (.aload_n 0, 1) := by decide +kernel
theorem dX0_statedWeight_1 : decode cX0_statedWeight 1 = .ok (.iload_n 1, 1) := by decide +kernel
theorem dX0_statedWeight_2 : decode cX0_statedWeight 2 = .ok (.invokevirtual 44, 3) := by decide +kernel
theorem dX0_statedWeight_5 : decode cX0_statedWeight 5 = .ok (.ifCond .eq 12, 3) := by decide +kernel
theorem dX0_statedWeight_8 : decode cX0_statedWeight 8 = .ok (.aload_n 0, 1) := by decide +kernel
theorem dX0_statedWeight_9 : decode cX0_statedWeight 9 = .ok (.getfield 18, 3) := by decide +kernel
theorem dX0_statedWeight_12 : decode cX0_statedWeight 12 = .ok (.iload_n 1, 1) := by decide +kernel
theorem dX0_statedWeight_13 : decode cX0_statedWeight 13 = .ok (.iaload, 1) := by decide +kernel
theorem dX0_statedWeight_14 : decode cX0_statedWeight 14 = .ok (.goto 4, 3) := by decide +kernel
theorem dX0_statedWeight_17 : decode cX0_statedWeight 17 = .ok (.iconst 0, 1) := by decide +kernel
theorem dX0_statedWeight_18 : decode cX0_statedWeight 18 = .ok (.ireturn, 1) := by decide +kernel
set_option maxRecDepth 20000 in
theorem ggX0_leavingCount_X0_hasBlock : GoodIn wsX0_leavingCount wsX0_hasBlock := goodIn_r _ [6, 7, 8, 9, 10, 11, 12, 13, 14] (by decide +kernel) (by decide +kernel)
set_option maxRecDepth 20000 in
theorem gX0_leavingCount_X0_hasBlock : GoodIn wsX0_leavingCount (wsV RX0 40 RX0 yX0_hasBlock wsX0_hasBlock) := goodIn_app (goodIn_of _ (by decide +kernel)) ggX0_leavingCount_X0_hasBlock
theorem dX0_leavingCount_0 : decode cX0_leavingCount 0 = .ok (.aload_n 0, 1) := by decide +kernel
theorem dX0_leavingCount_1 : decode cX0_leavingCount 1 = .ok (.iload_n 1, 1) := by decide +kernel
theorem dX0_leavingCount_2 : decode cX0_leavingCount 2 = .ok (.invokevirtual 40, 3) := by decide +kernel
theorem dX0_leavingCount_5 : decode cX0_leavingCount 5 = .ok (.ifCond .eq 12, 3) := by decide +kernel
theorem dX0_leavingCount_8 : decode cX0_leavingCount 8 = .ok (.aload_n 0, 1) := by decide +kernel
theorem dX0_leavingCount_9 : decode cX0_leavingCount 9 = .ok (.getfield 26, 3) := by decide +kernel
theorem dX0_leavingCount_12 : decode cX0_leavingCount 12 = .ok (.iload_n 1, 1) := by decide +kernel
theorem dX0_leavingCount_13 : decode cX0_leavingCount 13 = .ok (.iaload, 1) := by decide +kernel
theorem dX0_leavingCount_14 : decode cX0_leavingCount 14 = .ok (.goto 4, 3) := by decide +kernel
theorem dX0_leavingCount_17 : decode cX0_leavingCount 17 = .ok (.iconst 0, 1) := by decide +kernel
theorem dX0_leavingCount_18 : decode cX0_leavingCount 18 = .ok (.ireturn, 1) := by decide +kernel
set_option maxRecDepth 20000 in
theorem ggX0_leavingEdge_X0_leavingCount : GoodIn wsX0_leavingEdge wsX0_leavingCount := goodIn_r _ [6, 7, 8, 9, 10, 5, 11, 12, 13, 14, 15, 16, 17, 18, 19] (by decide +kernel) (by decide +kernel)
set_option maxRecDepth 20000 in
theorem gX0_leavingEdge_X0_leavingCount : GoodIn wsX0_leavingEdge (wsV RX0 47 RX0 yX0_leavingCount wsX0_leavingCount) := goodIn_app (goodIn_of _ (by decide +kernel)) ggX0_leavingEdge_X0_leavingCount
theorem dX0_leavingEdge_0 : decode cX0_leavingEdge 0 = .ok (.iload_n 2, 1) := by decide +kernel
theorem dX0_leavingEdge_1 : decode cX0_leavingEdge 1 = .ok (.ifCond .lt 12, 3) := by decide +kernel
theorem dX0_leavingEdge_4 : decode cX0_leavingEdge 4 = .ok (.iload_n 2, 1) := by decide +kernel
theorem dX0_leavingEdge_5 : decode cX0_leavingEdge 5 = .ok (.aload_n 0, 1) := by decide +kernel
theorem dX0_leavingEdge_6 : decode cX0_leavingEdge 6 = .ok (.iload_n 1, 1) := by decide +kernel
theorem dX0_leavingEdge_7 : decode cX0_leavingEdge 7 = .ok (.invokevirtual 47, 3) := by decide +kernel
theorem dX0_leavingEdge_10 : decode cX0_leavingEdge 10 = .ok (.if_icmp .lt 5, 3) := by decide +kernel
theorem dX0_leavingEdge_13 : decode cX0_leavingEdge 13 = .ok (.iconst (-1), 1) := by decide +kernel
theorem dX0_leavingEdge_14 : decode cX0_leavingEdge 14 = .ok (.ireturn, 1) := by decide +kernel
theorem dX0_leavingEdge_15 : decode cX0_leavingEdge 15 = .ok (.aload_n 0, 1) := by decide +kernel
theorem dX0_leavingEdge_16 : decode cX0_leavingEdge 16 = .ok (.getfield 23, 3) := by decide +kernel
theorem dX0_leavingEdge_19 : decode cX0_leavingEdge 19 = .ok (.iload_n 1, 1) := by decide +kernel
theorem dX0_leavingEdge_20 : decode cX0_leavingEdge 20 = .ok (.aaload, 1) := by decide +kernel
theorem dX0_leavingEdge_21 : decode cX0_leavingEdge 21 = .ok (.iload_n 2, 1) := by decide +kernel
theorem dX0_leavingEdge_22 : decode cX0_leavingEdge 22 = .ok (.iaload, 1) := by decide +kernel
theorem dX0_leavingEdge_23 : decode cX0_leavingEdge 23 = .ok (.ireturn, 1) := by decide +kernel
set_option maxRecDepth 20000 in
theorem ggX0_isComplete_X0_exit : GoodIn wsX0_isComplete wsX0_exit := goodIn_r _ [7, 1, 42, 43, 44, 45, 46, 47, 48] (by decide +kernel) (by decide +kernel)
set_option maxRecDepth 20000 in
theorem gX0_isComplete_X0_exit : GoodIn wsX0_isComplete (wsV RX0 50 RX0 yX0_exit wsX0_exit) := goodIn_app (goodIn_of _ (by decide +kernel)) ggX0_isComplete_X0_exit
set_option maxRecDepth 20000 in
theorem ggX0_isComplete_X0_leavingCount : GoodIn wsX0_isComplete wsX0_leavingCount := goodIn_r _ [11, 12, 13, 14, 15, 6, 16, 1, 42, 43, 44, 45, 46, 47, 48] (by decide +kernel) (by decide +kernel)
set_option maxRecDepth 20000 in
theorem gX0_isComplete_X0_leavingCount : GoodIn wsX0_isComplete (wsV RX0 47 RX0 yX0_leavingCount wsX0_leavingCount) := goodIn_app (goodIn_of _ (by decide +kernel)) ggX0_isComplete_X0_leavingCount
set_option maxRecDepth 20000 in
theorem ggX0_isComplete_X0_reach : GoodIn wsX0_isComplete wsX0_reach := goodIn_r _ [20, 1, 2, 3, 4, 5, 6, 7, 21, 22, 23, 24, 25, 26, 27, 28, 29, 30, 31, 32, 33, 34, 35, 36, 37, 38, 39, 40, 41, 42, 43, 44, 45, 46, 47, 48] (by decide +kernel) (by decide +kernel)
set_option maxRecDepth 20000 in
theorem gX0_isComplete_X0_reach : GoodIn wsX0_isComplete (wsV RX0 54 RX0 yX0_reach wsX0_reach) := goodIn_app (goodIn_of _ (by decide +kernel)) ggX0_isComplete_X0_reach
theorem dX0_isComplete_0 : decode cX0_isComplete 0 = .ok (.iconst 0, 1) := by decide +kernel
theorem dX0_isComplete_1 : decode cX0_isComplete 1 = .ok (.istore_n 1, 1) := by decide +kernel
theorem dX0_isComplete_2 : decode cX0_isComplete 2 = .ok (.iload_n 1, 1) := by decide +kernel
theorem dX0_isComplete_3 : decode cX0_isComplete 3 = .ok (.aload_n 0, 1) := by decide +kernel
theorem dX0_isComplete_4 : decode cX0_isComplete 4 = .ok (.invokevirtual 50, 3) := by decide +kernel
theorem dX0_isComplete_7 : decode cX0_isComplete 7 = .ok (.if_icmp .ge 19, 3) := by decide +kernel
theorem dX0_isComplete_10 : decode cX0_isComplete 10 = .ok (.aload_n 0, 1) := by decide +kernel
theorem dX0_isComplete_11 : decode cX0_isComplete 11 = .ok (.iload_n 1, 1) := by decide +kernel
theorem dX0_isComplete_12 : decode cX0_isComplete 12 = .ok (.invokevirtual 47, 3) := by decide +kernel
theorem dX0_isComplete_15 : decode cX0_isComplete 15 = .ok (.ifCond .ne 5, 3) := by decide +kernel
theorem dX0_isComplete_18 : decode cX0_isComplete 18 = .ok (.iconst 0, 1) := by decide +kernel
theorem dX0_isComplete_19 : decode cX0_isComplete 19 = .ok (.ireturn, 1) := by decide +kernel
theorem dX0_isComplete_20 : decode cX0_isComplete 20 = .ok (.iinc 1 1, 3) := by decide +kernel
theorem dX0_isComplete_23 : decode cX0_isComplete 23 = .ok (.goto (-21), 3) := by decide +kernel
theorem dX0_isComplete_26 : decode cX0_isComplete 26 = .ok (.iconst 1, 1) := by decide +kernel
theorem dX0_isComplete_27 : decode cX0_isComplete 27 = .ok (.aload_n 0, 1) := by decide +kernel
theorem dX0_isComplete_28 : decode cX0_isComplete 28 = .ok (.getfield 29, 3) := by decide +kernel
theorem dX0_isComplete_31 : decode cX0_isComplete 31 = .ok (.ishl, 1) := by decide +kernel
theorem dX0_isComplete_32 : decode cX0_isComplete 32 = .ok (.iconst 1, 1) := by decide +kernel
theorem dX0_isComplete_33 : decode cX0_isComplete 33 = .ok (.isub, 1) := by decide +kernel
theorem dX0_isComplete_34 : decode cX0_isComplete 34 = .ok (.istore_n 1, 1) := by decide +kernel
theorem dX0_isComplete_35 : decode cX0_isComplete 35 = .ok (.iconst 1, 1) := by decide +kernel
theorem dX0_isComplete_36 : decode cX0_isComplete 36 = .ok (.aload_n 0, 1) := by decide +kernel
theorem dX0_isComplete_37 : decode cX0_isComplete 37 = .ok (.getfield 33, 3) := by decide +kernel
theorem dX0_isComplete_40 : decode cX0_isComplete 40 = .ok (.ishl, 1) := by decide +kernel
theorem dX0_isComplete_41 : decode cX0_isComplete 41 = .ok (.iconst 1, 1) := by decide +kernel
theorem dX0_isComplete_42 : decode cX0_isComplete 42 = .ok (.isub, 1) := by decide +kernel
theorem dX0_isComplete_43 : decode cX0_isComplete 43 = .ok (.istore_n 2, 1) := by decide +kernel
theorem dX0_isComplete_44 : decode cX0_isComplete 44 = .ok (.aload_n 0, 1) := by decide +kernel
theorem dX0_isComplete_45 : decode cX0_isComplete 45 = .ok (.getfield 29, 3) := by decide +kernel
theorem dX0_isComplete_48 : decode cX0_isComplete 48 = .ok (.iconst 2, 1) := by decide +kernel
theorem dX0_isComplete_49 : decode cX0_isComplete 49 = .ok (.if_icmp .lt 17, 3) := by decide +kernel
theorem dX0_isComplete_52 : decode cX0_isComplete 52 = .ok (.aload_n 0, 1) := by decide +kernel
theorem dX0_isComplete_53 : decode cX0_isComplete 53 = .ok (.iconst 0, 1) := by decide +kernel
theorem dX0_isComplete_54 : decode cX0_isComplete 54 = .ok (.iload_n 2, 1) := by decide +kernel
theorem dX0_isComplete_55 : decode cX0_isComplete 55 = .ok (.invokevirtual 54, 3) := by decide +kernel
theorem dX0_isComplete_58 : decode cX0_isComplete 58 = .ok (.iload_n 1, 1) := by decide +kernel
theorem dX0_isComplete_59 : decode cX0_isComplete 59 = .ok (.if_icmp .ne 7, 3) := by decide +kernel
theorem dX0_isComplete_62 : decode cX0_isComplete 62 = .ok (.iconst 1, 1) := by decide +kernel
theorem dX0_isComplete_63 : decode cX0_isComplete 63 = .ok (.goto 4, 3) := by decide +kernel
theorem dX0_isComplete_66 : decode cX0_isComplete 66 = .ok (.iconst 0, 1) := by decide +kernel
theorem dX0_isComplete_67 : decode cX0_isComplete 67 = .ok (.ireturn, 1) := by decide +kernel
set_option maxRecDepth 20000 in
theorem ggX0_reach_X0_exit : GoodIn wsX0_reach wsX0_exit := goodIn_r _ [7, 1, 29, 30, 31, 32, 33, 34, 35] (by decide +kernel) (by decide +kernel)
set_option maxRecDepth 20000 in
theorem gX0_reach_X0_exit : GoodIn wsX0_reach (wsV RX0 50 RX0 yX0_exit wsX0_exit) := goodIn_app (goodIn_of _ (by decide +kernel)) ggX0_reach_X0_exit
set_option maxRecDepth 20000 in
theorem ggX0_reach_X0_spread : GoodIn wsX0_reach wsX0_spread := goodIn_r _ [11] (by decide +kernel) (by decide +kernel)
set_option maxRecDepth 20000 in
theorem gX0_reach_X0_spread : GoodIn wsX0_reach (wsV RX0 58 RX0 yX0_spread wsX0_spread) := goodIn_app (goodIn_of _ (by decide +kernel)) ggX0_reach_X0_spread
set_option maxRecDepth 20000 in
theorem ggX0_reach_X6_holds : GoodIn wsX0_reach wsX6_holds := goodIn_r _ [14] (by decide +kernel) (by decide +kernel)
set_option maxRecDepth 20000 in
theorem gX0_reach_X6_holds_n61 : GoodIn wsX0_reach (wsX6_holds) := ggX0_reach_X6_holds
set_option maxRecDepth 20000 in
theorem ggX0_reach_X0_source : GoodIn wsX0_reach wsX0_source := goodIn_r _ [18, 19, 20, 21, 22, 6, 23, 2, 29, 30, 31, 32, 33, 34, 35] (by decide +kernel) (by decide +kernel)
set_option maxRecDepth 20000 in
theorem gX0_reach_X0_source : GoodIn wsX0_reach (wsV RX0 65 RX0 yX0_source wsX0_source) := goodIn_app (goodIn_of _ (by decide +kernel)) ggX0_reach_X0_source
set_option maxRecDepth 20000 in
theorem ggX0_reach_X0_target : GoodIn wsX0_reach wsX0_target := goodIn_r _ [27, 28, 20, 21, 22, 6, 23, 2, 29, 30, 31, 32, 33, 34, 35] (by decide +kernel) (by decide +kernel)
set_option maxRecDepth 20000 in
theorem gX0_reach_X0_target : GoodIn wsX0_reach (wsV RX0 67 RX0 yX0_target wsX0_target) := goodIn_app (goodIn_of _ (by decide +kernel)) ggX0_reach_X0_target
theorem dX0_reach_0 : decode cX0_reach 0 = .ok (.iconst 1, 1) := by decide +kernel
theorem dX0_reach_1 : decode cX0_reach 1 = .ok (.iload_n 1, 1) := by decide +kernel
theorem dX0_reach_2 : decode cX0_reach 2 = .ok (.ishl, 1) := by decide +kernel
theorem dX0_reach_3 : decode cX0_reach 3 = .ok (.istore_n 3, 1) := by decide +kernel
theorem dX0_reach_4 : decode cX0_reach 4 = .ok (.iconst 0, 1) := by decide +kernel
theorem dX0_reach_5 : decode cX0_reach 5 = .ok (.istore 4, 2) := by decide +kernel
theorem dX0_reach_7 : decode cX0_reach 7 = .ok (.iconst 0, 1) := by decide +kernel
theorem dX0_reach_8 : decode cX0_reach 8 = .ok (.istore 5, 2) := by decide +kernel
theorem dX0_reach_10 : decode cX0_reach 10 = .ok (.iload 5, 2) := by decide +kernel
theorem dX0_reach_12 : decode cX0_reach 12 = .ok (.aload_n 0, 1) := by decide +kernel
theorem dX0_reach_13 : decode cX0_reach 13 = .ok (.getfield 29, 3) := by decide +kernel
theorem dX0_reach_16 : decode cX0_reach 16 = .ok (.if_icmp .gt 82, 3) := by decide +kernel
theorem dX0_reach_19 : decode cX0_reach 19 = .ok (.iload_n 3, 1) := by decide +kernel
theorem dX0_reach_20 : decode cX0_reach 20 = .ok (.iload 4, 2) := by decide +kernel
theorem dX0_reach_22 : decode cX0_reach 22 = .ok (.if_icmp .eq 76, 3) := by decide +kernel
theorem dX0_reach_25 : decode cX0_reach 25 = .ok (.iload_n 3, 1) := by decide +kernel
theorem dX0_reach_26 : decode cX0_reach 26 = .ok (.istore 4, 2) := by decide +kernel
theorem dX0_reach_28 : decode cX0_reach 28 = .ok (.aload_n 0, 1) := by decide +kernel
theorem dX0_reach_29 : decode cX0_reach 29 = .ok (.iload_n 3, 1) := by decide +kernel
theorem dX0_reach_30 : decode cX0_reach 30 = .ok (.iconst 1, 1) := by decide +kernel
theorem dX0_reach_31 : decode cX0_reach 31 = .ok (.iconst 1, 1) := by decide +kernel
theorem dX0_reach_32 : decode cX0_reach 32 = .ok (.aload_n 0, 1) := by decide +kernel
theorem dX0_reach_33 : decode cX0_reach 33 = .ok (.invokevirtual 50, 3) := by decide +kernel
theorem dX0_reach_36 : decode cX0_reach 36 = .ok (.ishl, 1) := by decide +kernel
theorem dX0_reach_37 : decode cX0_reach 37 = .ok (.ior, 1) := by decide +kernel
theorem dX0_reach_38 : decode cX0_reach 38 = .ok (.invokevirtual 58, 3) := by decide +kernel
theorem dX0_reach_41 : decode cX0_reach 41 = .ok (.istore_n 3, 1) := by decide +kernel
theorem dX0_reach_42 : decode cX0_reach 42 = .ok (.iconst 0, 1) := by decide +kernel
theorem dX0_reach_43 : decode cX0_reach 43 = .ok (.istore 6, 2) := by decide +kernel
theorem dX0_reach_45 : decode cX0_reach 45 = .ok (.iload 6, 2) := by decide +kernel
theorem dX0_reach_47 : decode cX0_reach 47 = .ok (.aload_n 0, 1) := by decide +kernel
theorem dX0_reach_48 : decode cX0_reach 48 = .ok (.getfield 33, 3) := by decide +kernel
theorem dX0_reach_51 : decode cX0_reach 51 = .ok (.if_icmp .ge 41, 3) := by decide +kernel
theorem dX0_reach_54 : decode cX0_reach 54 = .ok (.iload_n 2, 1) := by decide +kernel
theorem dX0_reach_55 : decode cX0_reach 55 = .ok (.iload 6, 2) := by decide +kernel
theorem dX0_reach_57 : decode cX0_reach 57 = .ok (.invokestatic 61, 3) := by decide +kernel
theorem dX0_reach_60 : decode cX0_reach 60 = .ok (.ifCond .eq 26, 3) := by decide +kernel
theorem dX0_reach_63 : decode cX0_reach 63 = .ok (.aload_n 0, 1) := by decide +kernel
theorem dX0_reach_64 : decode cX0_reach 64 = .ok (.iload_n 3, 1) := by decide +kernel
theorem dX0_reach_65 : decode cX0_reach 65 = .ok (.iconst 1, 1) := by decide +kernel
theorem dX0_reach_66 : decode cX0_reach 66 = .ok (.aload_n 0, 1) := by decide +kernel
theorem dX0_reach_67 : decode cX0_reach 67 = .ok (.iload 6, 2) := by decide +kernel
theorem dX0_reach_69 : decode cX0_reach 69 = .ok (.invokevirtual 65, 3) := by decide +kernel
theorem dX0_reach_72 : decode cX0_reach 72 = .ok (.ishl, 1) := by decide +kernel
theorem dX0_reach_73 : decode cX0_reach 73 = .ok (.iconst 1, 1) := by decide +kernel
theorem dX0_reach_74 : decode cX0_reach 74 = .ok (.aload_n 0, 1) := by decide +kernel
theorem dX0_reach_75 : decode cX0_reach 75 = .ok (.iload 6, 2) := by decide +kernel
theorem dX0_reach_77 : decode cX0_reach 77 = .ok (.invokevirtual 67, 3) := by decide +kernel
theorem dX0_reach_80 : decode cX0_reach 80 = .ok (.ishl, 1) := by decide +kernel
theorem dX0_reach_81 : decode cX0_reach 81 = .ok (.ior, 1) := by decide +kernel
theorem dX0_reach_82 : decode cX0_reach 82 = .ok (.invokevirtual 58, 3) := by decide +kernel
theorem dX0_reach_85 : decode cX0_reach 85 = .ok (.istore_n 3, 1) := by decide +kernel
theorem dX0_reach_86 : decode cX0_reach 86 = .ok (.iinc 6 1, 3) := by decide +kernel
theorem dX0_reach_89 : decode cX0_reach 89 = .ok (.goto (-44), 3) := by decide +kernel
theorem dX0_reach_92 : decode cX0_reach 92 = .ok (.iinc 5 1, 3) := by decide +kernel
theorem dX0_reach_95 : decode cX0_reach 95 = .ok (.goto (-85), 3) := by decide +kernel
theorem dX0_reach_98 : decode cX0_reach 98 = .ok (.iload_n 3, 1) := by decide +kernel
theorem dX0_reach_99 : decode cX0_reach 99 = .ok (.ireturn, 1) := by decide +kernel
theorem dX0_spread_0 : decode cX0_spread 0 = .ok (.iload_n 1, 1) := by decide +kernel
theorem dX0_spread_1 : decode cX0_spread 1 = .ok (.iload_n 2, 1) := by decide +kernel
theorem dX0_spread_2 : decode cX0_spread 2 = .ok (.iand, 1) := by decide +kernel
theorem dX0_spread_3 : decode cX0_spread 3 = .ok (.ifCond .eq 9, 3) := by decide +kernel
theorem dX0_spread_6 : decode cX0_spread 6 = .ok (.iload_n 1, 1) := by decide +kernel
theorem dX0_spread_7 : decode cX0_spread 7 = .ok (.iload_n 2, 1) := by decide +kernel
theorem dX0_spread_8 : decode cX0_spread 8 = .ok (.ior, 1) := by decide +kernel
theorem dX0_spread_9 : decode cX0_spread 9 = .ok (.goto 4, 3) := by decide +kernel
theorem dX0_spread_12 : decode cX0_spread 12 = .ok (.iload_n 1, 1) := by decide +kernel
theorem dX0_spread_13 : decode cX0_spread 13 = .ok (.ireturn, 1) := by decide +kernel
theorem dX1_init_0 : decode cX1_init 0 = .ok (.aload_n 0, 1) := by decide +kernel
theorem dX1_init_1 : decode cX1_init 1 = .ok (.invokespecial 3, 3) := by decide +kernel
theorem dX1_init_4 : decode cX1_init 4 = .ok (.aload_n 0, 1) := by decide +kernel
theorem dX1_init_5 : decode cX1_init 5 = .ok (.sipush 200, 3) := by decide +kernel
theorem dX1_init_8 : decode cX1_init 8 = .ok (.newarray .char, 2) := by decide +kernel
theorem dX1_init_10 : decode cX1_init 10 = .ok (.putfield 9, 3) := by decide +kernel
theorem dX1_init_13 : decode cX1_init 13 = .ok (.return_, 1) := by decide +kernel
theorem dX1_length_0 : decode cX1_length 0 = .ok (.aload_n 0, 1) := by decide +kernel
theorem dX1_length_1 : decode cX1_length 1 = .ok (.getfield 15, 3) := by decide +kernel
theorem dX1_length_4 : decode cX1_length 4 = .ok (.ireturn, 1) := by decide +kernel
theorem dX1_isFull_0 : decode cX1_isFull 0 = .ok (.aload_n 0, 1) := by decide +kernel
theorem dX1_isFull_1 : decode cX1_isFull 1 = .ok (.getfield 15, 3) := by decide +kernel
theorem dX1_isFull_4 : decode cX1_isFull 4 = .ok (.sipush 200, 3) := by decide +kernel
theorem dX1_isFull_7 : decode cX1_isFull 7 = .ok (.if_icmp .lt 7, 3) := by decide +kernel
theorem dX1_isFull_10 : decode cX1_isFull 10 = .ok (.iconst 1, 1) := by decide +kernel
theorem dX1_isFull_11 : decode cX1_isFull 11 = .ok (.goto 4, 3) := by decide +kernel
theorem dX1_isFull_14 : decode cX1_isFull 14 = .ok (.iconst 0, 1) := by decide +kernel
theorem dX1_isFull_15 : decode cX1_isFull 15 = .ok (.ireturn, 1) := by decide +kernel
set_option maxRecDepth 20000 in
theorem ggX1_add_X1_isFull : GoodIn wsX1_add wsX1_isFull := goodIn_r _ [7, 2, 8, 9] (by decide +kernel) (by decide +kernel)
set_option maxRecDepth 20000 in
theorem gX1_add_X1_isFull : GoodIn wsX1_add (wsV RX1 19 RX1 yX1_isFull wsX1_isFull) := goodIn_app (goodIn_of _ (by decide +kernel)) ggX1_add_X1_isFull
theorem dX1_add_0 : decode cX1_add 0 = .ok (.aload_n 0, 1) := by decide +kernel
theorem dX1_add_1 : decode cX1_add 1 = .ok (.invokevirtual 19, 3) := by decide +kernel
theorem dX1_add_4 : decode cX1_add 4 = .ok (.ifCond .ne 23, 3) := by decide +kernel
theorem dX1_add_7 : decode cX1_add 7 = .ok (.aload_n 0, 1) := by decide +kernel
theorem dX1_add_8 : decode cX1_add 8 = .ok (.getfield 9, 3) := by decide +kernel
theorem dX1_add_11 : decode cX1_add 11 = .ok (.aload_n 0, 1) := by decide +kernel
theorem dX1_add_12 : decode cX1_add 12 = .ok (.getfield 15, 3) := by decide +kernel
theorem dX1_add_15 : decode cX1_add 15 = .ok (.iload_n 1, 1) := by decide +kernel
theorem dX1_add_16 : decode cX1_add 16 = .ok (.castore, 1) := by decide +kernel
theorem dX1_add_17 : decode cX1_add 17 = .ok (.aload_n 0, 1) := by decide +kernel
theorem dX1_add_18 : decode cX1_add 18 = .ok (.dup, 1) := by decide +kernel
theorem dX1_add_19 : decode cX1_add 19 = .ok (.getfield 15, 3) := by decide +kernel
theorem dX1_add_22 : decode cX1_add 22 = .ok (.iconst 1, 1) := by decide +kernel
theorem dX1_add_23 : decode cX1_add 23 = .ok (.iadd, 1) := by decide +kernel
theorem dX1_add_24 : decode cX1_add 24 = .ok (.putfield 15, 3) := by decide +kernel
theorem dX1_add_27 : decode cX1_add 27 = .ok (.return_, 1) := by decide +kernel
theorem dX1_clear_0 : decode cX1_clear 0 = .ok (.aload_n 0, 1) := by decide +kernel
theorem dX1_clear_1 : decode cX1_clear 1 = .ok (.iconst 0, 1) := by decide +kernel
theorem dX1_clear_2 : decode cX1_clear 2 = .ok (.putfield 15, 3) := by decide +kernel
theorem dX1_clear_5 : decode cX1_clear 5 = .ok (.return_, 1) := by decide +kernel
theorem dX1_at_0 : decode cX1_at 0 = .ok (.iload_n 1, 1) := by decide +kernel
theorem dX1_at_1 : decode cX1_at 1 = .ok (.ifCond .lt 20, 3) := by decide +kernel
theorem dX1_at_4 : decode cX1_at 4 = .ok (.iload_n 1, 1) := by decide +kernel
theorem dX1_at_5 : decode cX1_at 5 = .ok (.aload_n 0, 1) := by decide +kernel
theorem dX1_at_6 : decode cX1_at 6 = .ok (.getfield 15, 3) := by decide +kernel
theorem dX1_at_9 : decode cX1_at 9 = .ok (.if_icmp .ge 12, 3) := by decide +kernel
theorem dX1_at_12 : decode cX1_at 12 = .ok (.aload_n 0, 1) := by decide +kernel
theorem dX1_at_13 : decode cX1_at 13 = .ok (.getfield 9, 3) := by decide +kernel
theorem dX1_at_16 : decode cX1_at 16 = .ok (.iload_n 1, 1) := by decide +kernel
theorem dX1_at_17 : decode cX1_at 17 = .ok (.caload, 1) := by decide +kernel
theorem dX1_at_18 : decode cX1_at 18 = .ok (.goto 4, 3) := by decide +kernel
theorem dX1_at_21 : decode cX1_at 21 = .ok (.iconst 0, 1) := by decide +kernel
theorem dX1_at_22 : decode cX1_at 22 = .ok (.ireturn, 1) := by decide +kernel
set_option maxRecDepth 20000 in
theorem ggX2_init_X3_init : GoodIn wsX2_init wsX3_init := goodIn_r _ [13, 14, 2, 3, 15, 16, 17, 27, 28, 29] (by decide +kernel) (by decide +kernel)
set_option maxRecDepth 20000 in
theorem gX2_init_X3_init_n23 : GoodIn wsX2_init (wsX3_init) := ggX2_init_X3_init
set_option maxRecDepth 20000 in
theorem ggX2_init_X4_init : GoodIn wsX2_init wsX4_init := goodIn_r _ [19, 20, 2, 3, 15, 21, 22, 30, 31, 32, 33, 34] (by decide +kernel) (by decide +kernel)
set_option maxRecDepth 20000 in
theorem gX2_init_X4_init_n24 : GoodIn wsX2_init (wsX4_init) := ggX2_init_X4_init
theorem dX2_init_0 : decode cX2_init 0 = .ok (.aload_n 0, 1) := by decide +kernel
theorem dX2_init_1 : decode cX2_init 1 = .ok (.invokespecial 3, 3) := by decide +kernel
theorem dX2_init_4 : decode cX2_init 4 = .ok (.aload_n 0, 1) := by decide +kernel
theorem dX2_init_5 : decode cX2_init 5 = .ok (.iconst 4, 1) := by decide +kernel
theorem dX2_init_6 : decode cX2_init 6 = .ok (.anewarray 9, 3) := by decide +kernel
theorem dX2_init_9 : decode cX2_init 9 = .ok (.putfield 11, 3) := by decide +kernel
theorem dX2_init_12 : decode cX2_init 12 = .ok (.aload_n 0, 1) := by decide +kernel
theorem dX2_init_13 : decode cX2_init 13 = .ok (.iconst 4, 1) := by decide +kernel
theorem dX2_init_14 : decode cX2_init 14 = .ok (.anewarray 17, 3) := by decide +kernel
theorem dX2_init_17 : decode cX2_init 17 = .ok (.putfield 19, 3) := by decide +kernel
theorem dX2_init_20 : decode cX2_init 20 = .ok (.iconst 0, 1) := by decide +kernel
theorem dX2_init_21 : decode cX2_init 21 = .ok (.istore_n 1, 1) := by decide +kernel
theorem dX2_init_22 : decode cX2_init 22 = .ok (.iload_n 1, 1) := by decide +kernel
theorem dX2_init_23 : decode cX2_init 23 = .ok (.iconst 4, 1) := by decide +kernel
theorem dX2_init_24 : decode cX2_init 24 = .ok (.if_icmp .ge 35, 3) := by decide +kernel
theorem dX2_init_27 : decode cX2_init 27 = .ok (.aload_n 0, 1) := by decide +kernel
theorem dX2_init_28 : decode cX2_init 28 = .ok (.getfield 11, 3) := by decide +kernel
theorem dX2_init_31 : decode cX2_init 31 = .ok (.iload_n 1, 1) := by decide +kernel
theorem dX2_init_32 : decode cX2_init 32 = .ok (.new 9, 3) := by decide +kernel
theorem dX2_init_35 : decode cX2_init 35 = .ok (.dup, 1) := by decide +kernel
theorem dX2_init_36 : decode cX2_init 36 = .ok (.invokespecial 23, 3) := by decide +kernel
theorem dX2_init_39 : decode cX2_init 39 = .ok (.aastore, 1) := by decide +kernel
theorem dX2_init_40 : decode cX2_init 40 = .ok (.aload_n 0, 1) := by decide +kernel
theorem dX2_init_41 : decode cX2_init 41 = .ok (.getfield 19, 3) := by decide +kernel
theorem dX2_init_44 : decode cX2_init 44 = .ok (.iload_n 1, 1) := by decide +kernel
theorem dX2_init_45 : decode cX2_init 45 = .ok (.new 17, 3) := by decide +kernel
theorem dX2_init_48 : decode cX2_init 48 = .ok (.dup, 1) := by decide +kernel
theorem dX2_init_49 : decode cX2_init 49 = .ok (.invokespecial 24, 3) := by decide +kernel
theorem dX2_init_52 : decode cX2_init 52 = .ok (.aastore, 1) := by decide +kernel
theorem dX2_init_53 : decode cX2_init 53 = .ok (.iinc 1 1, 3) := by decide +kernel
theorem dX2_init_56 : decode cX2_init 56 = .ok (.goto (-34), 3) := by decide +kernel
theorem dX2_init_59 : decode cX2_init 59 = .ok (.return_, 1) := by decide +kernel
theorem dX2_size_0 : decode cX2_size 0 = .ok (.aload_n 0, 1) := by decide +kernel
theorem dX2_size_1 : decode cX2_size 1 = .ok (.getfield 25, 3) := by decide +kernel
theorem dX2_size_4 : decode cX2_size 4 = .ok (.ireturn, 1) := by decide +kernel
theorem dX2_isEmpty_0 : decode cX2_isEmpty 0 = .ok (.aload_n 0, 1) := by decide +kernel
theorem dX2_isEmpty_1 : decode cX2_isEmpty 1 = .ok (.getfield 25, 3) := by decide +kernel
theorem dX2_isEmpty_4 : decode cX2_isEmpty 4 = .ok (.ifCond .ne 7, 3) := by decide +kernel
theorem dX2_isEmpty_7 : decode cX2_isEmpty 7 = .ok (.iconst 1, 1) := by decide +kernel
theorem dX2_isEmpty_8 : decode cX2_isEmpty 8 = .ok (.goto 4, 3) := by decide +kernel
theorem dX2_isEmpty_11 : decode cX2_isEmpty 11 = .ok (.iconst 0, 1) := by decide +kernel
theorem dX2_isEmpty_12 : decode cX2_isEmpty 12 = .ok (.ireturn, 1) := by decide +kernel
theorem dX2_forget_0 : decode cX2_forget 0 = .ok (.aload_n 0, 1) := by decide +kernel
theorem dX2_forget_1 : decode cX2_forget 1 = .ok (.iconst 0, 1) := by decide +kernel
theorem dX2_forget_2 : decode cX2_forget 2 = .ok (.putfield 25, 3) := by decide +kernel
theorem dX2_forget_5 : decode cX2_forget 5 = .ok (.return_, 1) := by decide +kernel
set_option maxRecDepth 20000 in
theorem ggX2_remember_X3_copyFrom : GoodIn wsX2_remember wsX3_copyFrom := goodIn_r _ [13, 14, 15, 16, 31, 32, 33] (by decide +kernel) (by decide +kernel)
set_option maxRecDepth 20000 in
theorem gX2_remember_X3_copyFrom : GoodIn wsX2_remember (wsV RX2 32 RX3 yX3_copyFrom wsX3_copyFrom) := goodIn_app (goodIn_of _ (by decide +kernel)) ggX2_remember_X3_copyFrom
set_option maxRecDepth 20000 in
theorem ggX2_remember_X4_copyFrom : GoodIn wsX2_remember wsX4_copyFrom := goodIn_r _ [21, 22, 23, 24, 25, 26, 34, 35, 36, 37, 38] (by decide +kernel) (by decide +kernel)
set_option maxRecDepth 20000 in
theorem gX2_remember_X4_copyFrom : GoodIn wsX2_remember (wsV RX2 36 RX4 yX4_copyFrom wsX4_copyFrom) := goodIn_app (goodIn_of _ (by decide +kernel)) ggX2_remember_X4_copyFrom
theorem dX2_remember_0 : decode cX2_remember 0 = .ok (.aload_n 0, 1) := by decide +kernel
theorem dX2_remember_1 : decode cX2_remember 1 = .ok (.aload_n 0, 1) := by decide +kernel
theorem dX2_remember_2 : decode cX2_remember 2 = .ok (.getfield 29, 3) := by decide +kernel
theorem dX2_remember_5 : decode cX2_remember 5 = .ok (.iconst 3, 1) := by decide +kernel
theorem dX2_remember_6 : decode cX2_remember 6 = .ok (.if_icmp .lt 7, 3) := by decide +kernel
theorem dX2_remember_9 : decode cX2_remember 9 = .ok (.iconst 0, 1) := by decide +kernel
theorem dX2_remember_10 : decode cX2_remember 10 = .ok (.goto 9, 3) := by decide +kernel
theorem dX2_remember_13 : decode cX2_remember 13 = .ok (.aload_n 0, 1) := by decide +kernel
theorem dX2_remember_14 : decode cX2_remember 14 = .ok (.getfield 29, 3) := by decide +kernel
theorem dX2_remember_17 : decode cX2_remember 17 = .ok (.iconst 1, 1) := by decide +kernel
theorem dX2_remember_18 : decode cX2_remember 18 = .ok (.iadd, 1) := by decide +kernel
theorem dX2_remember_19 : decode cX2_remember 19 = .ok (.putfield 29, 3) := by decide +kernel
theorem dX2_remember_22 : decode cX2_remember 22 = .ok (.aload_n 0, 1) := by decide +kernel
theorem dX2_remember_23 : decode cX2_remember 23 = .ok (.getfield 11, 3) := by decide +kernel
theorem dX2_remember_26 : decode cX2_remember 26 = .ok (.aload_n 0, 1) := by decide +kernel
theorem dX2_remember_27 : decode cX2_remember 27 = .ok (.getfield 29, 3) := by decide +kernel
theorem dX2_remember_30 : decode cX2_remember 30 = .ok (.aaload, 1) := by decide +kernel
theorem dX2_remember_31 : decode cX2_remember 31 = .ok (.aload_n 1, 1) := by decide +kernel
theorem dX2_remember_32 : decode cX2_remember 32 = .ok (.invokevirtual 32, 3) := by decide +kernel
theorem dX2_remember_35 : decode cX2_remember 35 = .ok (.aload_n 0, 1) := by decide +kernel
theorem dX2_remember_36 : decode cX2_remember 36 = .ok (.getfield 19, 3) := by decide +kernel
theorem dX2_remember_39 : decode cX2_remember 39 = .ok (.aload_n 0, 1) := by decide +kernel
theorem dX2_remember_40 : decode cX2_remember 40 = .ok (.getfield 29, 3) := by decide +kernel
theorem dX2_remember_43 : decode cX2_remember 43 = .ok (.aaload, 1) := by decide +kernel
theorem dX2_remember_44 : decode cX2_remember 44 = .ok (.aload_n 2, 1) := by decide +kernel
theorem dX2_remember_45 : decode cX2_remember 45 = .ok (.invokevirtual 36, 3) := by decide +kernel
theorem dX2_remember_48 : decode cX2_remember 48 = .ok (.aload_n 0, 1) := by decide +kernel
theorem dX2_remember_49 : decode cX2_remember 49 = .ok (.aload_n 0, 1) := by decide +kernel
theorem dX2_remember_50 : decode cX2_remember 50 = .ok (.getfield 25, 3) := by decide +kernel
theorem dX2_remember_53 : decode cX2_remember 53 = .ok (.iconst 1, 1) := by decide +kernel
theorem dX2_remember_54 : decode cX2_remember 54 = .ok (.iadd, 1) := by decide +kernel
theorem dX2_remember_55 : decode cX2_remember 55 = .ok (.iconst 4, 1) := by decide +kernel
theorem dX2_remember_56 : decode cX2_remember 56 = .ok (.invokestatic 39, 3) := by decide +kernel
theorem dX2_remember_59 : decode cX2_remember 59 = .ok (.putfield 25, 3) := by decide +kernel
theorem dX2_remember_62 : decode cX2_remember 62 = .ok (.return_, 1) := by decide +kernel
set_option maxRecDepth 20000 in
theorem ggX2_takeBack_X2_isEmpty : GoodIn wsX2_takeBack wsX2_isEmpty := goodIn_r _ [9, 4, 28, 29, 30, 31] (by decide +kernel) (by decide +kernel)
set_option maxRecDepth 20000 in
theorem gX2_takeBack_X2_isEmpty : GoodIn wsX2_takeBack (wsV RX2 45 RX2 yX2_isEmpty wsX2_isEmpty) := goodIn_app (goodIn_of _ (by decide +kernel)) ggX2_takeBack_X2_isEmpty
set_option maxRecDepth 20000 in
theorem ggX2_takeBack_X3_copyFrom : GoodIn wsX2_takeBack wsX3_copyFrom := goodIn_r _ [14, 15, 16, 17, 32, 33, 34] (by decide +kernel) (by decide +kernel)
set_option maxRecDepth 20000 in
theorem gX2_takeBack_X3_copyFrom : GoodIn wsX2_takeBack (wsV RX2 32 RX3 yX3_copyFrom wsX3_copyFrom) := goodIn_app (goodIn_of _ (by decide +kernel)) ggX2_takeBack_X3_copyFrom
set_option maxRecDepth 20000 in
theorem ggX2_takeBack_X4_copyFrom : GoodIn wsX2_takeBack wsX4_copyFrom := goodIn_r _ [22, 23, 24, 25, 26, 27, 35, 36, 37, 38, 39] (by decide +kernel) (by decide +kernel)
set_option maxRecDepth 20000 in
theorem gX2_takeBack_X4_copyFrom : GoodIn wsX2_takeBack (wsV RX2 36 RX4 yX4_copyFrom wsX4_copyFrom) := goodIn_app (goodIn_of _ (by decide +kernel)) ggX2_takeBack_X4_copyFrom
theorem dX2_takeBack_0 : decode cX2_takeBack 0 = .ok (.aload_n 0, 1) := by decide +kernel
theorem dX2_takeBack_1 : decode cX2_takeBack 1 = .ok (.invokevirtual 45, 3) := by decide +kernel
theorem dX2_takeBack_4 : decode cX2_takeBack 4 = .ok (.ifCond .eq 4, 3) := by decide +kernel
theorem dX2_takeBack_7 : decode cX2_takeBack 7 = .ok (.return_, 1) := by decide +kernel
theorem dX2_takeBack_8 : decode cX2_takeBack 8 = .ok (.aload_n 1, 1) := by decide +kernel
theorem dX2_takeBack_9 : decode cX2_takeBack 9 = .ok (.aload_n 0, 1) := by decide +kernel
theorem dX2_takeBack_10 : decode cX2_takeBack 10 = .ok (.getfield 11, 3) := by decide +kernel
theorem dX2_takeBack_13 : decode cX2_takeBack 13 = .ok (.aload_n 0, 1) := by decide +kernel
theorem dX2_takeBack_14 : decode cX2_takeBack 14 = .ok (.getfield 29, 3) := by decide +kernel
theorem dX2_takeBack_17 : decode cX2_takeBack 17 = .ok (.aaload, 1) := by decide +kernel
theorem dX2_takeBack_18 : decode cX2_takeBack 18 = .ok (.invokevirtual 32, 3) := by decide +kernel
theorem dX2_takeBack_21 : decode cX2_takeBack 21 = .ok (.aload_n 2, 1) := by decide +kernel
theorem dX2_takeBack_22 : decode cX2_takeBack 22 = .ok (.aload_n 0, 1) := by decide +kernel
theorem dX2_takeBack_23 : decode cX2_takeBack 23 = .ok (.getfield 19, 3) := by decide +kernel
theorem dX2_takeBack_26 : decode cX2_takeBack 26 = .ok (.aload_n 0, 1) := by decide +kernel
theorem dX2_takeBack_27 : decode cX2_takeBack 27 = .ok (.getfield 29, 3) := by decide +kernel
theorem dX2_takeBack_30 : decode cX2_takeBack 30 = .ok (.aaload, 1) := by decide +kernel
theorem dX2_takeBack_31 : decode cX2_takeBack 31 = .ok (.invokevirtual 36, 3) := by decide +kernel
theorem dX2_takeBack_34 : decode cX2_takeBack 34 = .ok (.aload_n 0, 1) := by decide +kernel
theorem dX2_takeBack_35 : decode cX2_takeBack 35 = .ok (.aload_n 0, 1) := by decide +kernel
theorem dX2_takeBack_36 : decode cX2_takeBack 36 = .ok (.getfield 29, 3) := by decide +kernel
theorem dX2_takeBack_39 : decode cX2_takeBack 39 = .ok (.ifCond .gt 7, 3) := by decide +kernel
theorem dX2_takeBack_42 : decode cX2_takeBack 42 = .ok (.iconst 3, 1) := by decide +kernel
theorem dX2_takeBack_43 : decode cX2_takeBack 43 = .ok (.goto 9, 3) := by decide +kernel
theorem dX2_takeBack_46 : decode cX2_takeBack 46 = .ok (.aload_n 0, 1) := by decide +kernel
theorem dX2_takeBack_47 : decode cX2_takeBack 47 = .ok (.getfield 29, 3) := by decide +kernel
theorem dX2_takeBack_50 : decode cX2_takeBack 50 = .ok (.iconst 1, 1) := by decide +kernel
theorem dX2_takeBack_51 : decode cX2_takeBack 51 = .ok (.isub, 1) := by decide +kernel
theorem dX2_takeBack_52 : decode cX2_takeBack 52 = .ok (.putfield 29, 3) := by decide +kernel
theorem dX2_takeBack_55 : decode cX2_takeBack 55 = .ok (.aload_n 0, 1) := by decide +kernel
theorem dX2_takeBack_56 : decode cX2_takeBack 56 = .ok (.dup, 1) := by decide +kernel
theorem dX2_takeBack_57 : decode cX2_takeBack 57 = .ok (.getfield 25, 3) := by decide +kernel
theorem dX2_takeBack_60 : decode cX2_takeBack 60 = .ok (.iconst 1, 1) := by decide +kernel
theorem dX2_takeBack_61 : decode cX2_takeBack 61 = .ok (.isub, 1) := by decide +kernel
theorem dX2_takeBack_62 : decode cX2_takeBack 62 = .ok (.putfield 25, 3) := by decide +kernel
theorem dX2_takeBack_65 : decode cX2_takeBack 65 = .ok (.return_, 1) := by decide +kernel
theorem dX3_init_0 : decode cX3_init 0 = .ok (.aload_n 0, 1) := by decide +kernel
theorem dX3_init_1 : decode cX3_init 1 = .ok (.invokespecial 3, 3) := by decide +kernel
theorem dX3_init_4 : decode cX3_init 4 = .ok (.aload_n 0, 1) := by decide +kernel
theorem dX3_init_5 : decode cX3_init 5 = .ok (.bipush 20, 2) := by decide +kernel
theorem dX3_init_7 : decode cX3_init 7 = .ok (.newarray .int, 2) := by decide +kernel
theorem dX3_init_9 : decode cX3_init 9 = .ok (.putfield 9, 3) := by decide +kernel
theorem dX3_init_12 : decode cX3_init 12 = .ok (.aload_n 0, 1) := by decide +kernel
theorem dX3_init_13 : decode cX3_init 13 = .ok (.bipush 20, 2) := by decide +kernel
theorem dX3_init_15 : decode cX3_init 15 = .ok (.newarray .int, 2) := by decide +kernel
theorem dX3_init_17 : decode cX3_init 17 = .ok (.putfield 15, 3) := by decide +kernel
theorem dX3_init_20 : decode cX3_init 20 = .ok (.return_, 1) := by decide +kernel
set_option maxRecDepth 20000 in
theorem ggX3_begin_X0_statedWeight : GoodIn wsX3_begin wsX0_statedWeight := goodIn_r _ [6, 7, 8, 9, 10, 5, 11, 12, 71, 72, 73, 74, 75, 76, 77] (by decide +kernel) (by decide +kernel)
set_option maxRecDepth 20000 in
theorem gX3_begin_X0_statedWeight : GoodIn wsX3_begin (wsV RX3 18 RX0 yX0_statedWeight wsX0_statedWeight) := goodIn_app (goodIn_of _ (by decide +kernel)) ggX3_begin_X0_statedWeight
set_option maxRecDepth 20000 in
theorem ggX3_begin_X3_findTree : GoodIn wsX3_begin wsX3_findTree := goodIn_r _ [17, 18, 19, 20, 21, 5, 22, 12, 23, 24, 25, 16, 26, 27, 28, 29, 30, 31, 32, 33, 1, 34, 35, 36, 37, 38, 8, 9, 10, 11, 39, 40, 41, 42, 43, 44, 45, 46, 47, 48, 49, 50, 51, 52, 53, 54, 55, 56, 57, 58, 59, 60, 61, 62, 63, 64, 65, 66, 67, 68, 69, 70, 71, 72, 73, 74, 75, 76, 77] (by decide +kernel) (by decide +kernel)
set_option maxRecDepth 20000 in
theorem gX3_begin_X3_findTree : GoodIn wsX3_begin (wsV RX3 24 RX3 yX3_findTree wsX3_findTree) := goodIn_app (goodIn_of _ (by decide +kernel)) ggX3_begin_X3_findTree
theorem dX3_begin_0 : decode cX3_begin 0 = .ok (.iconst 0, 1) := by decide +kernel
theorem dX3_begin_1 : decode cX3_begin 1 = .ok (.istore_n 2, 1) := by decide +kernel
theorem dX3_begin_2 : decode cX3_begin 2 = .ok (.iload_n 2, 1) := by decide +kernel
theorem dX3_begin_3 : decode cX3_begin 3 = .ok (.bipush 20, 2) := by decide +kernel
theorem dX3_begin_5 : decode cX3_begin 5 = .ok (.if_icmp .ge 20, 3) := by decide +kernel
theorem dX3_begin_8 : decode cX3_begin 8 = .ok (.aload_n 0, 1) := by decide +kernel
theorem dX3_begin_9 : decode cX3_begin 9 = .ok (.getfield 9, 3) := by decide +kernel
theorem dX3_begin_12 : decode cX3_begin 12 = .ok (.iload_n 2, 1) := by decide +kernel
theorem dX3_begin_13 : decode cX3_begin 13 = .ok (.aload_n 1, 1) := by decide +kernel
theorem dX3_begin_14 : decode cX3_begin 14 = .ok (.iload_n 2, 1) := by decide +kernel
theorem dX3_begin_15 : decode cX3_begin 15 = .ok (.invokevirtual 18, 3) := by decide +kernel
theorem dX3_begin_18 : decode cX3_begin 18 = .ok (.iastore, 1) := by decide +kernel
theorem dX3_begin_19 : decode cX3_begin 19 = .ok (.iinc 2 1, 3) := by decide +kernel
theorem dX3_begin_22 : decode cX3_begin 22 = .ok (.goto (-20), 3) := by decide +kernel
theorem dX3_begin_25 : decode cX3_begin 25 = .ok (.aload_n 0, 1) := by decide +kernel
theorem dX3_begin_26 : decode cX3_begin 26 = .ok (.aload_n 1, 1) := by decide +kernel
theorem dX3_begin_27 : decode cX3_begin 27 = .ok (.invokevirtual 24, 3) := by decide +kernel
theorem dX3_begin_30 : decode cX3_begin 30 = .ok (.return_, 1) := by decide +kernel
theorem dX3_copyFrom_0 : decode cX3_copyFrom 0 = .ok (.iconst 0, 1) := by decide +kernel
theorem dX3_copyFrom_1 : decode cX3_copyFrom 1 = .ok (.istore_n 2, 1) := by decide +kernel
theorem dX3_copyFrom_2 : decode cX3_copyFrom 2 = .ok (.iload_n 2, 1) := by decide +kernel
theorem dX3_copyFrom_3 : decode cX3_copyFrom 3 = .ok (.bipush 20, 2) := by decide +kernel
theorem dX3_copyFrom_5 : decode cX3_copyFrom 5 = .ok (.if_icmp .ge 33, 3) := by decide +kernel
theorem dX3_copyFrom_8 : decode cX3_copyFrom 8 = .ok (.aload_n 0, 1) := by decide +kernel
theorem dX3_copyFrom_9 : decode cX3_copyFrom 9 = .ok (.getfield 9, 3) := by decide +kernel
theorem dX3_copyFrom_12 : decode cX3_copyFrom 12 = .ok (.iload_n 2, 1) := by decide +kernel
theorem dX3_copyFrom_13 : decode cX3_copyFrom 13 = .ok (.aload_n 1, 1) := by decide +kernel
theorem dX3_copyFrom_14 : decode cX3_copyFrom 14 = .ok (.getfield 9, 3) := by decide +kernel
theorem dX3_copyFrom_17 : decode cX3_copyFrom 17 = .ok (.iload_n 2, 1) := by decide +kernel
theorem dX3_copyFrom_18 : decode cX3_copyFrom 18 = .ok (.iaload, 1) := by decide +kernel
theorem dX3_copyFrom_19 : decode cX3_copyFrom 19 = .ok (.iastore, 1) := by decide +kernel
theorem dX3_copyFrom_20 : decode cX3_copyFrom 20 = .ok (.aload_n 0, 1) := by decide +kernel
theorem dX3_copyFrom_21 : decode cX3_copyFrom 21 = .ok (.getfield 15, 3) := by decide +kernel
theorem dX3_copyFrom_24 : decode cX3_copyFrom 24 = .ok (.iload_n 2, 1) := by decide +kernel
theorem dX3_copyFrom_25 : decode cX3_copyFrom 25 = .ok (.aload_n 1, 1) := by decide +kernel
theorem dX3_copyFrom_26 : decode cX3_copyFrom 26 = .ok (.getfield 15, 3) := by decide +kernel
theorem dX3_copyFrom_29 : decode cX3_copyFrom 29 = .ok (.iload_n 2, 1) := by decide +kernel
theorem dX3_copyFrom_30 : decode cX3_copyFrom 30 = .ok (.iaload, 1) := by decide +kernel
theorem dX3_copyFrom_31 : decode cX3_copyFrom 31 = .ok (.iastore, 1) := by decide +kernel
theorem dX3_copyFrom_32 : decode cX3_copyFrom 32 = .ok (.iinc 2 1, 3) := by decide +kernel
theorem dX3_copyFrom_35 : decode cX3_copyFrom 35 = .ok (.goto (-33), 3) := by decide +kernel
theorem dX3_copyFrom_38 : decode cX3_copyFrom 38 = .ok (.aload_n 0, 1) := by decide +kernel
theorem dX3_copyFrom_39 : decode cX3_copyFrom 39 = .ok (.aload_n 1, 1) := by decide +kernel
theorem dX3_copyFrom_40 : decode cX3_copyFrom 40 = .ok (.getfield 28, 3) := by decide +kernel
theorem dX3_copyFrom_43 : decode cX3_copyFrom 43 = .ok (.putfield 28, 3) := by decide +kernel
theorem dX3_copyFrom_46 : decode cX3_copyFrom 46 = .ok (.return_, 1) := by decide +kernel
theorem dX3_weight_0 : decode cX3_weight 0 = .ok (.iload_n 1, 1) := by decide +kernel
theorem dX3_weight_1 : decode cX3_weight 1 = .ok (.ifCond .lt 18, 3) := by decide +kernel
theorem dX3_weight_4 : decode cX3_weight 4 = .ok (.iload_n 1, 1) := by decide +kernel
theorem dX3_weight_5 : decode cX3_weight 5 = .ok (.bipush 20, 2) := by decide +kernel
theorem dX3_weight_7 : decode cX3_weight 7 = .ok (.if_icmp .ge 12, 3) := by decide +kernel
theorem dX3_weight_10 : decode cX3_weight 10 = .ok (.aload_n 0, 1) := by decide +kernel
theorem dX3_weight_11 : decode cX3_weight 11 = .ok (.getfield 9, 3) := by decide +kernel
theorem dX3_weight_14 : decode cX3_weight 14 = .ok (.iload_n 1, 1) := by decide +kernel
theorem dX3_weight_15 : decode cX3_weight 15 = .ok (.iaload, 1) := by decide +kernel
theorem dX3_weight_16 : decode cX3_weight 16 = .ok (.goto 4, 3) := by decide +kernel
theorem dX3_weight_19 : decode cX3_weight 19 = .ok (.iconst 0, 1) := by decide +kernel
theorem dX3_weight_20 : decode cX3_weight 20 = .ok (.ireturn, 1) := by decide +kernel
theorem dX3_putWeight_0 : decode cX3_putWeight 0 = .ok (.iload_n 1, 1) := by decide +kernel
theorem dX3_putWeight_1 : decode cX3_putWeight 1 = .ok (.ifCond .lt 16, 3) := by decide +kernel
theorem dX3_putWeight_4 : decode cX3_putWeight 4 = .ok (.iload_n 1, 1) := by decide +kernel
theorem dX3_putWeight_5 : decode cX3_putWeight 5 = .ok (.bipush 20, 2) := by decide +kernel
theorem dX3_putWeight_7 : decode cX3_putWeight 7 = .ok (.if_icmp .ge 10, 3) := by decide +kernel
theorem dX3_putWeight_10 : decode cX3_putWeight 10 = .ok (.aload_n 0, 1) := by decide +kernel
theorem dX3_putWeight_11 : decode cX3_putWeight 11 = .ok (.getfield 9, 3) := by decide +kernel
theorem dX3_putWeight_14 : decode cX3_putWeight 14 = .ok (.iload_n 1, 1) := by decide +kernel
theorem dX3_putWeight_15 : decode cX3_putWeight 15 = .ok (.iload_n 2, 1) := by decide +kernel
theorem dX3_putWeight_16 : decode cX3_putWeight 16 = .ok (.iastore, 1) := by decide +kernel
theorem dX3_putWeight_17 : decode cX3_putWeight 17 = .ok (.return_, 1) := by decide +kernel
set_option maxRecDepth 20000 in
theorem ggX3_isInTree_X6_holds : GoodIn wsX3_isInTree wsX6_holds := goodIn_r _ [4] (by decide +kernel) (by decide +kernel)
set_option maxRecDepth 20000 in
theorem gX3_isInTree_X6_holds_n32 : GoodIn wsX3_isInTree (wsX6_holds) := ggX3_isInTree_X6_holds
theorem dX3_isInTree_0 : decode cX3_isInTree 0 = .ok (.aload_n 0, 1) := by decide +kernel
theorem dX3_isInTree_1 : decode cX3_isInTree 1 = .ok (.getfield 28, 3) := by decide +kernel
theorem dX3_isInTree_4 : decode cX3_isInTree 4 = .ok (.iload_n 1, 1) := by decide +kernel
theorem dX3_isInTree_5 : decode cX3_isInTree 5 = .ok (.invokestatic 32, 3) := by decide +kernel
theorem dX3_isInTree_8 : decode cX3_isInTree 8 = .ok (.ireturn, 1) := by decide +kernel
set_option maxRecDepth 20000 in
theorem ggX3_findTree_X0_edges : GoodIn wsX3_findTree wsX0_edges := goodIn_r _ [6, 7, 62, 63, 64, 65, 66, 67, 68] (by decide +kernel) (by decide +kernel)
set_option maxRecDepth 20000 in
theorem gX3_findTree_X0_edges : GoodIn wsX3_findTree (wsV RX3 36 RX0 yX0_edges wsX0_edges) := goodIn_app (goodIn_of _ (by decide +kernel)) ggX3_findTree_X0_edges
set_option maxRecDepth 20000 in
theorem ggX3_findTree_X3_heaviestEdge : GoodIn wsX3_findTree wsX3_heaviestEdge := goodIn_r _ [12, 13, 14, 15, 16, 17, 18, 11, 19, 20, 59, 60, 61] (by decide +kernel) (by decide +kernel)
set_option maxRecDepth 20000 in
theorem gX3_findTree_X3_heaviestEdge : GoodIn wsX3_findTree (wsV RX3 40 RX3 yX3_heaviestEdge wsX3_heaviestEdge) := goodIn_app (goodIn_of _ (by decide +kernel)) ggX3_findTree_X3_heaviestEdge
set_option maxRecDepth 20000 in
theorem ggX3_findTree_X0_source : GoodIn wsX3_findTree wsX0_source := goodIn_r _ [24, 25, 26, 27, 28, 5, 29, 7, 62, 63, 64, 65, 66, 67, 68] (by decide +kernel) (by decide +kernel)
set_option maxRecDepth 20000 in
theorem gX3_findTree_X0_source : GoodIn wsX3_findTree (wsV RX3 44 RX0 yX0_source wsX0_source) := goodIn_app (goodIn_of _ (by decide +kernel)) ggX3_findTree_X0_source
set_option maxRecDepth 20000 in
theorem ggX3_findTree_X0_reach : GoodIn wsX3_findTree wsX0_reach := goodIn_r _ [33, 34, 7, 35, 36, 37, 5, 38, 39, 40, 41, 42, 13, 14, 15, 43, 22, 23, 24, 25, 26, 27, 28, 29, 44, 45, 46, 47, 48, 62, 63, 64, 65, 66, 67, 68] (by decide +kernel) (by decide +kernel)
set_option maxRecDepth 20000 in
theorem gX3_findTree_X0_reach : GoodIn wsX3_findTree (wsV RX3 47 RX0 yX0_reach wsX0_reach) := goodIn_app (goodIn_of _ (by decide +kernel)) ggX3_findTree_X0_reach
set_option maxRecDepth 20000 in
theorem ggX3_findTree_X0_target : GoodIn wsX3_findTree wsX0_target := goodIn_r _ [47, 48, 26, 27, 28, 5, 29, 7, 62, 63, 64, 65, 66, 67, 68] (by decide +kernel) (by decide +kernel)
set_option maxRecDepth 20000 in
theorem gX3_findTree_X0_target : GoodIn wsX3_findTree (wsV RX3 50 RX0 yX0_target wsX0_target) := goodIn_app (goodIn_of _ (by decide +kernel)) ggX3_findTree_X0_target
set_option maxRecDepth 20000 in
theorem ggX3_findTree_X6_holds : GoodIn wsX3_findTree wsX6_holds := goodIn_r _ [15] (by decide +kernel) (by decide +kernel)
set_option maxRecDepth 20000 in
theorem gX3_findTree_X6_holds_n32 : GoodIn wsX3_findTree (wsX6_holds) := ggX3_findTree_X6_holds
set_option maxRecDepth 20000 in
theorem ggX3_findTree_X3_findSides : GoodIn wsX3_findTree wsX3_findSides := goodIn_r _ [53, 54, 1, 55, 56, 57, 11, 58, 13, 14, 15, 21, 22, 23, 5, 24, 25, 26, 27, 28, 29, 7, 30, 31, 32, 33, 34, 35, 36, 37, 38, 39, 40, 41, 42, 43, 44, 45, 46, 47, 48, 59, 60, 61, 62, 63, 64, 65, 66, 67, 68] (by decide +kernel) (by decide +kernel)
set_option maxRecDepth 20000 in
theorem gX3_findTree_X3_findSides : GoodIn wsX3_findTree (wsV RX3 53 RX3 yX3_findSides wsX3_findSides) := goodIn_app (goodIn_of _ (by decide +kernel)) ggX3_findTree_X3_findSides
end
section
theorem dX3_findTree_0 : decode cX3_findTree 0 = .ok (.aload_n 0, 1) := by decide +kernel
theorem dX3_findTree_1 : decode cX3_findTree 1 = .ok (.iconst 0, 1) := by decide +kernel
theorem dX3_findTree_2 : decode cX3_findTree 2 = .ok (.putfield 28, 3) := by decide +kernel
theorem dX3_findTree_5 : decode cX3_findTree 5 = .ok (.iconst 0, 1) := by decide +kernel
theorem dX3_findTree_6 : decode cX3_findTree 6 = .ok (.istore_n 2, 1) := by decide +kernel
theorem dX3_findTree_7 : decode cX3_findTree 7 = .ok (.iconst 0, 1) := by decide +kernel
theorem dX3_findTree_8 : decode cX3_findTree 8 = .ok (.istore_n 3, 1) := by decide +kernel
theorem dX3_findTree_9 : decode cX3_findTree 9 = .ok (.iload_n 3, 1) := by decide +kernel
theorem dX3_findTree_10 : decode cX3_findTree 10 = .ok (.aload_n 1, 1) := by decide +kernel
theorem dX3_findTree_11 : decode cX3_findTree 11 = .ok (.invokevirtual 36, 3) := by decide +kernel
theorem dX3_findTree_14 : decode cX3_findTree 14 = .ok (.if_icmp .ge 66, 3) := by decide +kernel
theorem dX3_findTree_17 : decode cX3_findTree 17 = .ok (.aload_n 0, 1) := by decide +kernel
theorem dX3_findTree_18 : decode cX3_findTree 18 = .ok (.aload_n 1, 1) := by decide +kernel
theorem dX3_findTree_19 : decode cX3_findTree 19 = .ok (.invokevirtual 36, 3) := by decide +kernel
theorem dX3_findTree_22 : decode cX3_findTree 22 = .ok (.iload_n 2, 1) := by decide +kernel
theorem dX3_findTree_23 : decode cX3_findTree 23 = .ok (.invokevirtual 40, 3) := by decide +kernel
theorem dX3_findTree_26 : decode cX3_findTree 26 = .ok (.istore 4, 2) := by decide +kernel
theorem dX3_findTree_28 : decode cX3_findTree 28 = .ok (.iload_n 2, 1) := by decide +kernel
theorem dX3_findTree_29 : decode cX3_findTree 29 = .ok (.iconst 1, 1) := by decide +kernel
theorem dX3_findTree_30 : decode cX3_findTree 30 = .ok (.iload 4, 2) := by decide +kernel
theorem dX3_findTree_32 : decode cX3_findTree 32 = .ok (.ishl, 1) := by decide +kernel
theorem dX3_findTree_33 : decode cX3_findTree 33 = .ok (.ior, 1) := by decide +kernel
theorem dX3_findTree_34 : decode cX3_findTree 34 = .ok (.istore_n 2, 1) := by decide +kernel
theorem dX3_findTree_35 : decode cX3_findTree 35 = .ok (.aload_n 1, 1) := by decide +kernel
theorem dX3_findTree_36 : decode cX3_findTree 36 = .ok (.aload_n 1, 1) := by decide +kernel
theorem dX3_findTree_37 : decode cX3_findTree 37 = .ok (.iload 4, 2) := by decide +kernel
theorem dX3_findTree_39 : decode cX3_findTree 39 = .ok (.invokevirtual 44, 3) := by decide +kernel
theorem dX3_findTree_42 : decode cX3_findTree 42 = .ok (.aload_n 0, 1) := by decide +kernel
theorem dX3_findTree_43 : decode cX3_findTree 43 = .ok (.getfield 28, 3) := by decide +kernel
theorem dX3_findTree_46 : decode cX3_findTree 46 = .ok (.invokevirtual 47, 3) := by decide +kernel
theorem dX3_findTree_49 : decode cX3_findTree 49 = .ok (.aload_n 1, 1) := by decide +kernel
theorem dX3_findTree_50 : decode cX3_findTree 50 = .ok (.iload 4, 2) := by decide +kernel
theorem dX3_findTree_52 : decode cX3_findTree 52 = .ok (.invokevirtual 50, 3) := by decide +kernel
theorem dX3_findTree_55 : decode cX3_findTree 55 = .ok (.invokestatic 32, 3) := by decide +kernel
theorem dX3_findTree_58 : decode cX3_findTree 58 = .ok (.ifCond .ne 16, 3) := by decide +kernel
theorem dX3_findTree_61 : decode cX3_findTree 61 = .ok (.aload_n 0, 1) := by decide +kernel
theorem dX3_findTree_62 : decode cX3_findTree 62 = .ok (.dup, 1) := by decide +kernel
theorem dX3_findTree_63 : decode cX3_findTree 63 = .ok (.getfield 28, 3) := by decide +kernel
theorem dX3_findTree_66 : decode cX3_findTree 66 = .ok (.iconst 1, 1) := by decide +kernel
theorem dX3_findTree_67 : decode cX3_findTree 67 = .ok (.iload 4, 2) := by decide +kernel
theorem dX3_findTree_69 : decode cX3_findTree 69 = .ok (.ishl, 1) := by decide +kernel
theorem dX3_findTree_70 : decode cX3_findTree 70 = .ok (.ior, 1) := by decide +kernel
theorem dX3_findTree_71 : decode cX3_findTree 71 = .ok (.putfield 28, 3) := by decide +kernel
theorem dX3_findTree_74 : decode cX3_findTree 74 = .ok (.iinc 3 1, 3) := by decide +kernel
theorem dX3_findTree_77 : decode cX3_findTree 77 = .ok (.goto (-68), 3) := by decide +kernel
theorem dX3_findTree_80 : decode cX3_findTree 80 = .ok (.aload_n 0, 1) := by decide +kernel
theorem dX3_findTree_81 : decode cX3_findTree 81 = .ok (.aload_n 1, 1) := by decide +kernel
theorem dX3_findTree_82 : decode cX3_findTree 82 = .ok (.invokevirtual 53, 3) := by decide +kernel
theorem dX3_findTree_85 : decode cX3_findTree 85 = .ok (.return_, 1) := by decide +kernel
set_option maxRecDepth 20000 in
theorem ggX3_heaviestEdge_X6_holds : GoodIn wsX3_heaviestEdge wsX6_holds := goodIn_r _ [3] (by decide +kernel) (by decide +kernel)
set_option maxRecDepth 20000 in
theorem gX3_heaviestEdge_X6_holds_n32 : GoodIn wsX3_heaviestEdge (wsX6_holds) := ggX3_heaviestEdge_X6_holds
set_option maxRecDepth 20000 in
theorem ggX3_heaviestEdge_X3_weight : GoodIn wsX3_heaviestEdge wsX3_weight := goodIn_r _ [8, 9, 10, 11, 12] (by decide +kernel) (by decide +kernel)
set_option maxRecDepth 20000 in
theorem gX3_heaviestEdge_X3_weight : GoodIn wsX3_heaviestEdge (wsV RX3 56 RX3 yX3_weight wsX3_weight) := goodIn_app (goodIn_of _ (by decide +kernel)) ggX3_heaviestEdge_X3_weight
theorem dX3_heaviestEdge_0 : decode cX3_heaviestEdge 0 = .ok (.iconst 0, 1) := by decide +kernel
theorem dX3_heaviestEdge_1 : decode cX3_heaviestEdge 1 = .ok (.istore_n 3, 1) := by decide +kernel
theorem dX3_heaviestEdge_2 : decode cX3_heaviestEdge 2 = .ok (.iconst (-1), 1) := by decide +kernel
theorem dX3_heaviestEdge_3 : decode cX3_heaviestEdge 3 = .ok (.istore 4, 2) := by decide +kernel
theorem dX3_heaviestEdge_5 : decode cX3_heaviestEdge 5 = .ok (.iconst 0, 1) := by decide +kernel
theorem dX3_heaviestEdge_6 : decode cX3_heaviestEdge 6 = .ok (.istore 5, 2) := by decide +kernel
theorem dX3_heaviestEdge_8 : decode cX3_heaviestEdge 8 = .ok (.iload 5, 2) := by decide +kernel
theorem dX3_heaviestEdge_10 : decode cX3_heaviestEdge 10 = .ok (.iload_n 1, 1) := by decide +kernel
theorem dX3_heaviestEdge_11 : decode cX3_heaviestEdge 11 = .ok (.if_icmp .ge 40, 3) := by decide +kernel
theorem dX3_heaviestEdge_14 : decode cX3_heaviestEdge 14 = .ok (.iload_n 2, 1) := by decide +kernel
theorem dX3_heaviestEdge_15 : decode cX3_heaviestEdge 15 = .ok (.iload 5, 2) := by decide +kernel
theorem dX3_heaviestEdge_17 : decode cX3_heaviestEdge 17 = .ok (.invokestatic 32, 3) := by decide +kernel
theorem dX3_heaviestEdge_20 : decode cX3_heaviestEdge 20 = .ok (.ifCond .ne 25, 3) := by decide +kernel
theorem dX3_heaviestEdge_23 : decode cX3_heaviestEdge 23 = .ok (.aload_n 0, 1) := by decide +kernel
theorem dX3_heaviestEdge_24 : decode cX3_heaviestEdge 24 = .ok (.iload 5, 2) := by decide +kernel
theorem dX3_heaviestEdge_26 : decode cX3_heaviestEdge 26 = .ok (.invokevirtual 56, 3) := by decide +kernel
theorem dX3_heaviestEdge_29 : decode cX3_heaviestEdge 29 = .ok (.iload 4, 2) := by decide +kernel
theorem dX3_heaviestEdge_31 : decode cX3_heaviestEdge 31 = .ok (.if_icmp .le 14, 3) := by decide +kernel
theorem dX3_heaviestEdge_34 : decode cX3_heaviestEdge 34 = .ok (.iload 5, 2) := by decide +kernel
theorem dX3_heaviestEdge_36 : decode cX3_heaviestEdge 36 = .ok (.istore_n 3, 1) := by decide +kernel
theorem dX3_heaviestEdge_37 : decode cX3_heaviestEdge 37 = .ok (.aload_n 0, 1) := by decide +kernel
theorem dX3_heaviestEdge_38 : decode cX3_heaviestEdge 38 = .ok (.iload 5, 2) := by decide +kernel
theorem dX3_heaviestEdge_40 : decode cX3_heaviestEdge 40 = .ok (.invokevirtual 56, 3) := by decide +kernel
theorem dX3_heaviestEdge_43 : decode cX3_heaviestEdge 43 = .ok (.istore 4, 2) := by decide +kernel
theorem dX3_heaviestEdge_45 : decode cX3_heaviestEdge 45 = .ok (.iinc 5 1, 3) := by decide +kernel
theorem dX3_heaviestEdge_48 : decode cX3_heaviestEdge 48 = .ok (.goto (-40), 3) := by decide +kernel
theorem dX3_heaviestEdge_51 : decode cX3_heaviestEdge 51 = .ok (.iload_n 3, 1) := by decide +kernel
theorem dX3_heaviestEdge_52 : decode cX3_heaviestEdge 52 = .ok (.ireturn, 1) := by decide +kernel
set_option maxRecDepth 20000 in
theorem ggX3_findSides_X3_isInTree : GoodIn wsX3_findSides wsX3_isInTree := goodIn_r _ [7, 2, 8, 9, 10, 41, 42, 43] (by decide +kernel) (by decide +kernel)
set_option maxRecDepth 20000 in
theorem gX3_findSides_X3_isInTree : GoodIn wsX3_findSides (wsV RX3 58 RX3 yX3_isInTree wsX3_isInTree) := goodIn_app (goodIn_of _ (by decide +kernel)) ggX3_findSides_X3_isInTree
set_option maxRecDepth 20000 in
theorem ggX3_findSides_X0_source : GoodIn wsX3_findSides wsX0_source := goodIn_r _ [15, 16, 17, 18, 19, 14, 20, 21, 44, 45, 46, 47, 48, 49, 50] (by decide +kernel) (by decide +kernel)
set_option maxRecDepth 20000 in
theorem gX3_findSides_X0_source : GoodIn wsX3_findSides (wsV RX3 44 RX0 yX0_source wsX0_source) := goodIn_app (goodIn_of _ (by decide +kernel)) ggX3_findSides_X0_source
set_option maxRecDepth 20000 in
theorem ggX3_findSides_X0_reach : GoodIn wsX3_findSides wsX0_reach := goodIn_r _ [25, 26, 21, 27, 28, 29, 14, 30, 31, 32, 33, 34, 8, 9, 10, 35, 12, 13, 15, 16, 17, 18, 19, 20, 36, 37, 38, 39, 40, 44, 45, 46, 47, 48, 49, 50] (by decide +kernel) (by decide +kernel)
set_option maxRecDepth 20000 in
theorem gX3_findSides_X0_reach : GoodIn wsX3_findSides (wsV RX3 47 RX0 yX0_reach wsX0_reach) := goodIn_app (goodIn_of _ (by decide +kernel)) ggX3_findSides_X0_reach
theorem dX3_findSides_0 : decode cX3_findSides 0 = .ok (.iconst 0, 1) := by decide +kernel
theorem dX3_findSides_1 : decode cX3_findSides 1 = .ok (.istore_n 2, 1) := by decide +kernel
theorem dX3_findSides_2 : decode cX3_findSides 2 = .ok (.iload_n 2, 1) := by decide +kernel
theorem dX3_findSides_3 : decode cX3_findSides 3 = .ok (.bipush 20, 2) := by decide +kernel
theorem dX3_findSides_5 : decode cX3_findSides 5 = .ok (.if_icmp .ge 49, 3) := by decide +kernel
theorem dX3_findSides_8 : decode cX3_findSides 8 = .ok (.aload_n 0, 1) := by decide +kernel
theorem dX3_findSides_9 : decode cX3_findSides 9 = .ok (.getfield 15, 3) := by decide +kernel
theorem dX3_findSides_12 : decode cX3_findSides 12 = .ok (.iload_n 2, 1) := by decide +kernel
theorem dX3_findSides_13 : decode cX3_findSides 13 = .ok (.iconst 0, 1) := by decide +kernel
theorem dX3_findSides_14 : decode cX3_findSides 14 = .ok (.iastore, 1) := by decide +kernel
theorem dX3_findSides_15 : decode cX3_findSides 15 = .ok (.aload_n 0, 1) := by decide +kernel
theorem dX3_findSides_16 : decode cX3_findSides 16 = .ok (.iload_n 2, 1) := by decide +kernel
theorem dX3_findSides_17 : decode cX3_findSides 17 = .ok (.invokevirtual 58, 3) := by decide +kernel
theorem dX3_findSides_20 : decode cX3_findSides 20 = .ok (.ifCond .eq 28, 3) := by decide +kernel
theorem dX3_findSides_23 : decode cX3_findSides 23 = .ok (.aload_n 0, 1) := by decide +kernel
theorem dX3_findSides_24 : decode cX3_findSides 24 = .ok (.getfield 15, 3) := by decide +kernel
theorem dX3_findSides_27 : decode cX3_findSides 27 = .ok (.iload_n 2, 1) := by decide +kernel
theorem dX3_findSides_28 : decode cX3_findSides 28 = .ok (.aload_n 1, 1) := by decide +kernel
theorem dX3_findSides_29 : decode cX3_findSides 29 = .ok (.aload_n 1, 1) := by decide +kernel
theorem dX3_findSides_30 : decode cX3_findSides 30 = .ok (.iload_n 2, 1) := by decide +kernel
theorem dX3_findSides_31 : decode cX3_findSides 31 = .ok (.invokevirtual 44, 3) := by decide +kernel
theorem dX3_findSides_34 : decode cX3_findSides 34 = .ok (.aload_n 0, 1) := by decide +kernel
theorem dX3_findSides_35 : decode cX3_findSides 35 = .ok (.getfield 28, 3) := by decide +kernel
theorem dX3_findSides_38 : decode cX3_findSides 38 = .ok (.iconst 1, 1) := by decide +kernel
theorem dX3_findSides_39 : decode cX3_findSides 39 = .ok (.iload_n 2, 1) := by decide +kernel
theorem dX3_findSides_40 : decode cX3_findSides 40 = .ok (.ishl, 1) := by decide +kernel
theorem dX3_findSides_41 : decode cX3_findSides 41 = .ok (.iconst (-1), 1) := by decide +kernel
theorem dX3_findSides_42 : decode cX3_findSides 42 = .ok (.ixor, 1) := by decide +kernel
theorem dX3_findSides_43 : decode cX3_findSides 43 = .ok (.iand, 1) := by decide +kernel
theorem dX3_findSides_44 : decode cX3_findSides 44 = .ok (.invokevirtual 47, 3) := by decide +kernel
theorem dX3_findSides_47 : decode cX3_findSides 47 = .ok (.iastore, 1) := by decide +kernel
theorem dX3_findSides_48 : decode cX3_findSides 48 = .ok (.iinc 2 1, 3) := by decide +kernel
theorem dX3_findSides_51 : decode cX3_findSides 51 = .ok (.goto (-49), 3) := by decide +kernel
theorem dX3_findSides_54 : decode cX3_findSides 54 = .ok (.return_, 1) := by decide +kernel
set_option maxRecDepth 20000 in
theorem ggX3_factor_X6_holds : GoodIn wsX3_factor wsX6_holds := goodIn_r _ [4] (by decide +kernel) (by decide +kernel)
set_option maxRecDepth 20000 in
theorem gX3_factor_X6_holds_n32 : GoodIn wsX3_factor (wsX6_holds) := ggX3_factor_X6_holds
theorem dX3_factor_0 : decode cX3_factor 0 = .ok (.iload_n 1, 1) := by decide +kernel
theorem dX3_factor_1 : decode cX3_factor 1 = .ok (.ifCond .lt 9, 3) := by decide +kernel
theorem dX3_factor_4 : decode cX3_factor 4 = .ok (.iload_n 1, 1) := by decide +kernel
theorem dX3_factor_5 : decode cX3_factor 5 = .ok (.bipush 20, 2) := by decide +kernel
theorem dX3_factor_7 : decode cX3_factor 7 = .ok (.if_icmp .lt 5, 3) := by decide +kernel
theorem dX3_factor_10 : decode cX3_factor 10 = .ok (.iconst 0, 1) := by decide +kernel
theorem dX3_factor_11 : decode cX3_factor 11 = .ok (.ireturn, 1) := by decide +kernel
theorem dX3_factor_12 : decode cX3_factor 12 = .ok (.aload_n 0, 1) := by decide +kernel
theorem dX3_factor_13 : decode cX3_factor 13 = .ok (.getfield 15, 3) := by decide +kernel
theorem dX3_factor_16 : decode cX3_factor 16 = .ok (.iload_n 1, 1) := by decide +kernel
theorem dX3_factor_17 : decode cX3_factor 17 = .ok (.iaload, 1) := by decide +kernel
theorem dX3_factor_18 : decode cX3_factor 18 = .ok (.iload_n 2, 1) := by decide +kernel
theorem dX3_factor_19 : decode cX3_factor 19 = .ok (.invokestatic 32, 3) := by decide +kernel
theorem dX3_factor_22 : decode cX3_factor 22 = .ok (.istore 4, 2) := by decide +kernel
theorem dX3_factor_24 : decode cX3_factor 24 = .ok (.aload_n 0, 1) := by decide +kernel
theorem dX3_factor_25 : decode cX3_factor 25 = .ok (.getfield 15, 3) := by decide +kernel
theorem dX3_factor_28 : decode cX3_factor 28 = .ok (.iload_n 1, 1) := by decide +kernel
theorem dX3_factor_29 : decode cX3_factor 29 = .ok (.iaload, 1) := by decide +kernel
theorem dX3_factor_30 : decode cX3_factor 30 = .ok (.iload_n 3, 1) := by decide +kernel
theorem dX3_factor_31 : decode cX3_factor 31 = .ok (.invokestatic 32, 3) := by decide +kernel
theorem dX3_factor_34 : decode cX3_factor 34 = .ok (.istore 5, 2) := by decide +kernel
theorem dX3_factor_36 : decode cX3_factor 36 = .ok (.iload 4, 2) := by decide +kernel
theorem dX3_factor_38 : decode cX3_factor 38 = .ok (.iload 5, 2) := by decide +kernel
theorem dX3_factor_40 : decode cX3_factor 40 = .ok (.if_icmp .ne 5, 3) := by decide +kernel
theorem dX3_factor_43 : decode cX3_factor 43 = .ok (.iconst 0, 1) := by decide +kernel
theorem dX3_factor_44 : decode cX3_factor 44 = .ok (.ireturn, 1) := by decide +kernel
theorem dX3_factor_45 : decode cX3_factor 45 = .ok (.iload 4, 2) := by decide +kernel
theorem dX3_factor_47 : decode cX3_factor 47 = .ok (.ifCond .eq 7, 3) := by decide +kernel
theorem dX3_factor_50 : decode cX3_factor 50 = .ok (.iconst (-1), 1) := by decide +kernel
theorem dX3_factor_51 : decode cX3_factor 51 = .ok (.goto 4, 3) := by decide +kernel
theorem dX3_factor_54 : decode cX3_factor 54 = .ok (.iconst 1, 1) := by decide +kernel
theorem dX3_factor_55 : decode cX3_factor 55 = .ok (.ireturn, 1) := by decide +kernel
theorem dX4_init_0 : decode cX4_init 0 = .ok (.aload_n 0, 1) := by decide +kernel
theorem dX4_init_1 : decode cX4_init 1 = .ok (.invokespecial 3, 3) := by decide +kernel
theorem dX4_init_4 : decode cX4_init 4 = .ok (.aload_n 0, 1) := by decide +kernel
theorem dX4_init_5 : decode cX4_init 5 = .ok (.bipush 20, 2) := by decide +kernel
theorem dX4_init_7 : decode cX4_init 7 = .ok (.newarray .int, 2) := by decide +kernel
theorem dX4_init_9 : decode cX4_init 9 = .ok (.putfield 9, 3) := by decide +kernel
theorem dX4_init_12 : decode cX4_init 12 = .ok (.aload_n 0, 1) := by decide +kernel
theorem dX4_init_13 : decode cX4_init 13 = .ok (.bipush 20, 2) := by decide +kernel
theorem dX4_init_15 : decode cX4_init 15 = .ok (.newarray .int, 2) := by decide +kernel
theorem dX4_init_17 : decode cX4_init 17 = .ok (.putfield 15, 3) := by decide +kernel
theorem dX4_init_20 : decode cX4_init 20 = .ok (.return_, 1) := by decide +kernel
set_option maxRecDepth 20000 in
theorem ggX4_begin_X4_restart : GoodIn wsX4_begin wsX4_restart := goodIn_r _ [7, 8, 9, 10, 11, 12, 13, 14, 15, 16] (by decide +kernel) (by decide +kernel)
set_option maxRecDepth 20000 in
theorem gX4_begin_X4_restart : GoodIn wsX4_begin (wsV RX4 23 RX4 yX4_restart wsX4_restart) := goodIn_app (goodIn_of _ (by decide +kernel)) ggX4_begin_X4_restart
theorem dX4_begin_0 : decode cX4_begin 0 = .ok (.aload_n 0, 1) := by decide +kernel
theorem dX4_begin_1 : decode cX4_begin 1 = .ok (.ldc 18, 2) := by decide +kernel
theorem dX4_begin_3 : decode cX4_begin 3 = .ok (.putfield 19, 3) := by decide +kernel
theorem dX4_begin_6 : decode cX4_begin 6 = .ok (.aload_n 0, 1) := by decide +kernel
theorem dX4_begin_7 : decode cX4_begin 7 = .ok (.invokevirtual 23, 3) := by decide +kernel
theorem dX4_begin_10 : decode cX4_begin 10 = .ok (.return_, 1) := by decide +kernel
theorem dX4_restart_0 : decode cX4_restart 0 = .ok (.iconst 0, 1) := by decide +kernel
theorem dX4_restart_1 : decode cX4_restart 1 = .ok (.istore_n 1, 1) := by decide +kernel
theorem dX4_restart_2 : decode cX4_restart 2 = .ok (.iload_n 1, 1) := by decide +kernel
theorem dX4_restart_3 : decode cX4_restart 3 = .ok (.bipush 20, 2) := by decide +kernel
theorem dX4_restart_5 : decode cX4_restart 5 = .ok (.if_icmp .ge 23, 3) := by decide +kernel
theorem dX4_restart_8 : decode cX4_restart 8 = .ok (.aload_n 0, 1) := by decide +kernel
theorem dX4_restart_9 : decode cX4_restart 9 = .ok (.getfield 9, 3) := by decide +kernel
theorem dX4_restart_12 : decode cX4_restart 12 = .ok (.iload_n 1, 1) := by decide +kernel
theorem dX4_restart_13 : decode cX4_restart 13 = .ok (.iconst 0, 1) := by decide +kernel
theorem dX4_restart_14 : decode cX4_restart 14 = .ok (.iastore, 1) := by decide +kernel
theorem dX4_restart_15 : decode cX4_restart 15 = .ok (.aload_n 0, 1) := by decide +kernel
theorem dX4_restart_16 : decode cX4_restart 16 = .ok (.getfield 15, 3) := by decide +kernel
theorem dX4_restart_19 : decode cX4_restart 19 = .ok (.iload_n 1, 1) := by decide +kernel
theorem dX4_restart_20 : decode cX4_restart 20 = .ok (.iconst 0, 1) := by decide +kernel
theorem dX4_restart_21 : decode cX4_restart 21 = .ok (.iastore, 1) := by decide +kernel
theorem dX4_restart_22 : decode cX4_restart 22 = .ok (.iinc 1 1, 3) := by decide +kernel
theorem dX4_restart_25 : decode cX4_restart 25 = .ok (.goto (-23), 3) := by decide +kernel
theorem dX4_restart_28 : decode cX4_restart 28 = .ok (.aload_n 0, 1) := by decide +kernel
theorem dX4_restart_29 : decode cX4_restart 29 = .ok (.iconst 0, 1) := by decide +kernel
theorem dX4_restart_30 : decode cX4_restart 30 = .ok (.putfield 26, 3) := by decide +kernel
theorem dX4_restart_33 : decode cX4_restart 33 = .ok (.aload_n 0, 1) := by decide +kernel
theorem dX4_restart_34 : decode cX4_restart 34 = .ok (.iconst 0, 1) := by decide +kernel
theorem dX4_restart_35 : decode cX4_restart 35 = .ok (.putfield 29, 3) := by decide +kernel
theorem dX4_restart_38 : decode cX4_restart 38 = .ok (.return_, 1) := by decide +kernel
theorem dX4_copyFrom_0 : decode cX4_copyFrom 0 = .ok (.iconst 0, 1) := by decide +kernel
theorem dX4_copyFrom_1 : decode cX4_copyFrom 1 = .ok (.istore_n 2, 1) := by decide +kernel
theorem dX4_copyFrom_2 : decode cX4_copyFrom 2 = .ok (.iload_n 2, 1) := by decide +kernel
theorem dX4_copyFrom_3 : decode cX4_copyFrom 3 = .ok (.bipush 20, 2) := by decide +kernel
theorem dX4_copyFrom_5 : decode cX4_copyFrom 5 = .ok (.if_icmp .ge 33, 3) := by decide +kernel
theorem dX4_copyFrom_8 : decode cX4_copyFrom 8 = .ok (.aload_n 0, 1) := by decide +kernel
theorem dX4_copyFrom_9 : decode cX4_copyFrom 9 = .ok (.getfield 9, 3) := by decide +kernel
theorem dX4_copyFrom_12 : decode cX4_copyFrom 12 = .ok (.iload_n 2, 1) := by decide +kernel
theorem dX4_copyFrom_13 : decode cX4_copyFrom 13 = .ok (.aload_n 1, 1) := by decide +kernel
theorem dX4_copyFrom_14 : decode cX4_copyFrom 14 = .ok (.getfield 9, 3) := by decide +kernel
theorem dX4_copyFrom_17 : decode cX4_copyFrom 17 = .ok (.iload_n 2, 1) := by decide +kernel
theorem dX4_copyFrom_18 : decode cX4_copyFrom 18 = .ok (.iaload, 1) := by decide +kernel
theorem dX4_copyFrom_19 : decode cX4_copyFrom 19 = .ok (.iastore, 1) := by decide +kernel
theorem dX4_copyFrom_20 : decode cX4_copyFrom 20 = .ok (.aload_n 0, 1) := by decide +kernel
theorem dX4_copyFrom_21 : decode cX4_copyFrom 21 = .ok (.getfield 15, 3) := by decide +kernel
theorem dX4_copyFrom_24 : decode cX4_copyFrom 24 = .ok (.iload_n 2, 1) := by decide +kernel
theorem dX4_copyFrom_25 : decode cX4_copyFrom 25 = .ok (.aload_n 1, 1) := by decide +kernel
theorem dX4_copyFrom_26 : decode cX4_copyFrom 26 = .ok (.getfield 15, 3) := by decide +kernel
theorem dX4_copyFrom_29 : decode cX4_copyFrom 29 = .ok (.iload_n 2, 1) := by decide +kernel
theorem dX4_copyFrom_30 : decode cX4_copyFrom 30 = .ok (.iaload, 1) := by decide +kernel
theorem dX4_copyFrom_31 : decode cX4_copyFrom 31 = .ok (.iastore, 1) := by decide +kernel
theorem dX4_copyFrom_32 : decode cX4_copyFrom 32 = .ok (.iinc 2 1, 3) := by decide +kernel
theorem dX4_copyFrom_35 : decode cX4_copyFrom 35 = .ok (.goto (-33), 3) := by decide +kernel
theorem dX4_copyFrom_38 : decode cX4_copyFrom 38 = .ok (.aload_n 0, 1) := by decide +kernel
theorem dX4_copyFrom_39 : decode cX4_copyFrom 39 = .ok (.aload_n 1, 1) := by decide +kernel
theorem dX4_copyFrom_40 : decode cX4_copyFrom 40 = .ok (.getfield 19, 3) := by decide +kernel
theorem dX4_copyFrom_43 : decode cX4_copyFrom 43 = .ok (.putfield 19, 3) := by decide +kernel
theorem dX4_copyFrom_46 : decode cX4_copyFrom 46 = .ok (.aload_n 0, 1) := by decide +kernel
theorem dX4_copyFrom_47 : decode cX4_copyFrom 47 = .ok (.aload_n 1, 1) := by decide +kernel
theorem dX4_copyFrom_48 : decode cX4_copyFrom 48 = .ok (.getfield 26, 3) := by decide +kernel
theorem dX4_copyFrom_51 : decode cX4_copyFrom 51 = .ok (.putfield 26, 3) := by decide +kernel
theorem dX4_copyFrom_54 : decode cX4_copyFrom 54 = .ok (.aload_n 0, 1) := by decide +kernel
theorem dX4_copyFrom_55 : decode cX4_copyFrom 55 = .ok (.aload_n 1, 1) := by decide +kernel
theorem dX4_copyFrom_56 : decode cX4_copyFrom 56 = .ok (.getfield 29, 3) := by decide +kernel
theorem dX4_copyFrom_59 : decode cX4_copyFrom 59 = .ok (.putfield 29, 3) := by decide +kernel
theorem dX4_copyFrom_62 : decode cX4_copyFrom 62 = .ok (.return_, 1) := by decide +kernel
theorem dX4_limit_0 : decode cX4_limit 0 = .ok (.aload_n 0, 1) := by decide +kernel
theorem dX4_limit_1 : decode cX4_limit 1 = .ok (.getfield 19, 3) := by decide +kernel
theorem dX4_limit_4 : decode cX4_limit 4 = .ok (.ireturn, 1) := by decide +kernel
theorem dX4_putLimit_0 : decode cX4_putLimit 0 = .ok (.aload_n 0, 1) := by decide +kernel
theorem dX4_putLimit_1 : decode cX4_putLimit 1 = .ok (.iload_n 1, 1) := by decide +kernel
theorem dX4_putLimit_2 : decode cX4_putLimit 2 = .ok (.putfield 19, 3) := by decide +kernel
theorem dX4_putLimit_5 : decode cX4_putLimit 5 = .ok (.return_, 1) := by decide +kernel
theorem dX4_present_0 : decode cX4_present 0 = .ok (.aload_n 0, 1) := by decide +kernel
theorem dX4_present_1 : decode cX4_present 1 = .ok (.getfield 26, 3) := by decide +kernel
theorem dX4_present_4 : decode cX4_present 4 = .ok (.ireturn, 1) := by decide +kernel
theorem dX4_finished_0 : decode cX4_finished 0 = .ok (.aload_n 0, 1) := by decide +kernel
theorem dX4_finished_1 : decode cX4_finished 1 = .ok (.getfield 29, 3) := by decide +kernel
theorem dX4_finished_4 : decode cX4_finished 4 = .ok (.ireturn, 1) := by decide +kernel
theorem dX4_counterValue_0 : decode cX4_counterValue 0 = .ok (.iload_n 1, 1) := by decide +kernel
theorem dX4_counterValue_1 : decode cX4_counterValue 1 = .ok (.ifCond .lt 18, 3) := by decide +kernel
theorem dX4_counterValue_4 : decode cX4_counterValue 4 = .ok (.iload_n 1, 1) := by decide +kernel
theorem dX4_counterValue_5 : decode cX4_counterValue 5 = .ok (.bipush 20, 2) := by decide +kernel
theorem dX4_counterValue_7 : decode cX4_counterValue 7 = .ok (.if_icmp .ge 12, 3) := by decide +kernel
theorem dX4_counterValue_10 : decode cX4_counterValue 10 = .ok (.aload_n 0, 1) := by decide +kernel
theorem dX4_counterValue_11 : decode cX4_counterValue 11 = .ok (.getfield 9, 3) := by decide +kernel
theorem dX4_counterValue_14 : decode cX4_counterValue 14 = .ok (.iload_n 1, 1) := by decide +kernel
theorem dX4_counterValue_15 : decode cX4_counterValue 15 = .ok (.iaload, 1) := by decide +kernel
theorem dX4_counterValue_16 : decode cX4_counterValue 16 = .ok (.goto 4, 3) := by decide +kernel
theorem dX4_counterValue_19 : decode cX4_counterValue 19 = .ok (.iconst 0, 1) := by decide +kernel
theorem dX4_counterValue_20 : decode cX4_counterValue 20 = .ok (.ireturn, 1) := by decide +kernel
theorem dX4_passes_0 : decode cX4_passes 0 = .ok (.iload_n 1, 1) := by decide +kernel
theorem dX4_passes_1 : decode cX4_passes 1 = .ok (.ifCond .lt 18, 3) := by decide +kernel
theorem dX4_passes_4 : decode cX4_passes 4 = .ok (.iload_n 1, 1) := by decide +kernel
theorem dX4_passes_5 : decode cX4_passes 5 = .ok (.bipush 20, 2) := by decide +kernel
theorem dX4_passes_7 : decode cX4_passes 7 = .ok (.if_icmp .ge 12, 3) := by decide +kernel
theorem dX4_passes_10 : decode cX4_passes 10 = .ok (.aload_n 0, 1) := by decide +kernel
theorem dX4_passes_11 : decode cX4_passes 11 = .ok (.getfield 15, 3) := by decide +kernel
theorem dX4_passes_14 : decode cX4_passes 14 = .ok (.iload_n 1, 1) := by decide +kernel
theorem dX4_passes_15 : decode cX4_passes 15 = .ok (.iaload, 1) := by decide +kernel
theorem dX4_passes_16 : decode cX4_passes 16 = .ok (.goto 4, 3) := by decide +kernel
theorem dX4_passes_19 : decode cX4_passes 19 = .ok (.iconst 0, 1) := by decide +kernel
theorem dX4_passes_20 : decode cX4_passes 20 = .ok (.ireturn, 1) := by decide +kernel
set_option maxRecDepth 20000 in
theorem ggX4_isAtLimit_X4_counterValue : GoodIn wsX4_isAtLimit wsX4_counterValue := goodIn_r _ [6, 7, 8, 9, 10, 11, 12] (by decide +kernel) (by decide +kernel)
set_option maxRecDepth 20000 in
theorem gX4_isAtLimit_X4_counterValue : GoodIn wsX4_isAtLimit (wsV RX4 32 RX4 yX4_counterValue wsX4_counterValue) := goodIn_app (goodIn_of _ (by decide +kernel)) ggX4_isAtLimit_X4_counterValue
theorem dX4_isAtLimit_0 : decode cX4_isAtLimit 0 = .ok (.aload_n 0, 1) := by decide +kernel
theorem dX4_isAtLimit_1 : decode cX4_isAtLimit 1 = .ok (.iload_n 1, 1) := by decide +kernel
theorem dX4_isAtLimit_2 : decode cX4_isAtLimit 2 = .ok (.invokevirtual 32, 3) := by decide +kernel
theorem dX4_isAtLimit_5 : decode cX4_isAtLimit 5 = .ok (.aload_n 0, 1) := by decide +kernel
theorem dX4_isAtLimit_6 : decode cX4_isAtLimit 6 = .ok (.getfield 19, 3) := by decide +kernel
theorem dX4_isAtLimit_9 : decode cX4_isAtLimit 9 = .ok (.if_icmp .ne 7, 3) := by decide +kernel
theorem dX4_isAtLimit_12 : decode cX4_isAtLimit 12 = .ok (.iconst 1, 1) := by decide +kernel
theorem dX4_isAtLimit_13 : decode cX4_isAtLimit 13 = .ok (.goto 4, 3) := by decide +kernel
theorem dX4_isAtLimit_16 : decode cX4_isAtLimit 16 = .ok (.iconst 0, 1) := by decide +kernel
theorem dX4_isAtLimit_17 : decode cX4_isAtLimit 17 = .ok (.ireturn, 1) := by decide +kernel
set_option maxRecDepth 20000 in
theorem ggX4_pass_X0_hasEdge : GoodIn wsX4_pass wsX0_hasEdge := goodIn_r _ [9, 10, 46, 47, 48, 49, 50, 51, 52] (by decide +kernel) (by decide +kernel)
set_option maxRecDepth 20000 in
theorem gX4_pass_X0_hasEdge : GoodIn wsX4_pass (wsV RX4 35 RX0 yX0_hasEdge wsX0_hasEdge) := goodIn_app (goodIn_of _ (by decide +kernel)) ggX4_pass_X0_hasEdge
set_option maxRecDepth 20000 in
theorem ggX4_pass_X3_isInTree : GoodIn wsX4_pass wsX3_isInTree := goodIn_r _ [15, 16, 17, 18, 19, 53, 54, 55] (by decide +kernel) (by decide +kernel)
set_option maxRecDepth 20000 in
theorem gX4_pass_X3_isInTree : GoodIn wsX4_pass (wsV RX4 41 RX3 yX3_isInTree wsX3_isInTree) := goodIn_app (goodIn_of _ (by decide +kernel)) ggX4_pass_X3_isInTree
set_option maxRecDepth 20000 in
theorem ggX4_pass_X4_isAtLimit : GoodIn wsX4_pass wsX4_isAtLimit := goodIn_r _ [24, 25, 26, 27, 28, 23, 29, 2, 41, 42, 43, 44, 45] (by decide +kernel) (by decide +kernel)
set_option maxRecDepth 20000 in
theorem gX4_pass_X4_isAtLimit : GoodIn wsX4_pass (wsV RX4 46 RX4 yX4_isAtLimit wsX4_isAtLimit) := goodIn_app (goodIn_of _ (by decide +kernel)) ggX4_pass_X4_isAtLimit
set_option maxRecDepth 20000 in
theorem ggX4_pass_X0_target : GoodIn wsX4_pass wsX0_target := goodIn_r _ [33, 34, 35, 6, 7, 8, 9, 10, 46, 47, 48, 49, 50, 51, 52] (by decide +kernel) (by decide +kernel)
set_option maxRecDepth 20000 in
theorem gX4_pass_X0_target : GoodIn wsX4_pass (wsV RX4 49 RX0 yX0_target wsX0_target) := goodIn_app (goodIn_of _ (by decide +kernel)) ggX4_pass_X0_target
set_option maxRecDepth 20000 in
theorem ggX4_pass_X0_exit : GoodIn wsX4_pass wsX0_exit := goodIn_r _ [39, 40, 46, 47, 48, 49, 50, 51, 52] (by decide +kernel) (by decide +kernel)
set_option maxRecDepth 20000 in
theorem gX4_pass_X0_exit : GoodIn wsX4_pass (wsV RX4 52 RX0 yX0_exit wsX0_exit) := goodIn_app (goodIn_of _ (by decide +kernel)) ggX4_pass_X0_exit
theorem dX4_pass_0 : decode cX4_pass 0 = .ok (.aload_n 2, 1) := by decide +kernel
theorem dX4_pass_1 : decode cX4_pass 1 = .ok (.iload_n 1, 1) := by decide +kernel
theorem dX4_pass_2 : decode cX4_pass 2 = .ok (.invokevirtual 35, 3) := by decide +kernel
theorem dX4_pass_5 : decode cX4_pass 5 = .ok (.ifCond .ne 4, 3) := by decide +kernel
theorem dX4_pass_8 : decode cX4_pass 8 = .ok (.return_, 1) := by decide +kernel
theorem dX4_pass_9 : decode cX4_pass 9 = .ok (.aload_n 0, 1) := by decide +kernel
theorem dX4_pass_10 : decode cX4_pass 10 = .ok (.getfield 15, 3) := by decide +kernel
theorem dX4_pass_13 : decode cX4_pass 13 = .ok (.iload_n 1, 1) := by decide +kernel
theorem dX4_pass_14 : decode cX4_pass 14 = .ok (.dup2, 1) := by decide +kernel
theorem dX4_pass_15 : decode cX4_pass 15 = .ok (.iaload, 1) := by decide +kernel
theorem dX4_pass_16 : decode cX4_pass 16 = .ok (.iconst 1, 1) := by decide +kernel
theorem dX4_pass_17 : decode cX4_pass 17 = .ok (.iadd, 1) := by decide +kernel
theorem dX4_pass_18 : decode cX4_pass 18 = .ok (.iastore, 1) := by decide +kernel
theorem dX4_pass_19 : decode cX4_pass 19 = .ok (.aload_n 3, 1) := by decide +kernel
theorem dX4_pass_20 : decode cX4_pass 20 = .ok (.iload_n 1, 1) := by decide +kernel
theorem dX4_pass_21 : decode cX4_pass 21 = .ok (.invokevirtual 41, 3) := by decide +kernel
theorem dX4_pass_24 : decode cX4_pass 24 = .ok (.ifCond .ne 21, 3) := by decide +kernel
theorem dX4_pass_27 : decode cX4_pass 27 = .ok (.aload_n 0, 1) := by decide +kernel
theorem dX4_pass_28 : decode cX4_pass 28 = .ok (.iload_n 1, 1) := by decide +kernel
theorem dX4_pass_29 : decode cX4_pass 29 = .ok (.invokevirtual 46, 3) := by decide +kernel
theorem dX4_pass_32 : decode cX4_pass 32 = .ok (.ifCond .ne 13, 3) := by decide +kernel
theorem dX4_pass_35 : decode cX4_pass 35 = .ok (.aload_n 0, 1) := by decide +kernel
theorem dX4_pass_36 : decode cX4_pass 36 = .ok (.getfield 9, 3) := by decide +kernel
theorem dX4_pass_39 : decode cX4_pass 39 = .ok (.iload_n 1, 1) := by decide +kernel
theorem dX4_pass_40 : decode cX4_pass 40 = .ok (.dup2, 1) := by decide +kernel
theorem dX4_pass_41 : decode cX4_pass 41 = .ok (.iaload, 1) := by decide +kernel
theorem dX4_pass_42 : decode cX4_pass 42 = .ok (.iconst 1, 1) := by decide +kernel
theorem dX4_pass_43 : decode cX4_pass 43 = .ok (.iadd, 1) := by decide +kernel
theorem dX4_pass_44 : decode cX4_pass 44 = .ok (.iastore, 1) := by decide +kernel
theorem dX4_pass_45 : decode cX4_pass 45 = .ok (.aload_n 2, 1) := by decide +kernel
theorem dX4_pass_46 : decode cX4_pass 46 = .ok (.iload_n 1, 1) := by decide +kernel
theorem dX4_pass_47 : decode cX4_pass 47 = .ok (.invokevirtual 49, 3) := by decide +kernel
theorem dX4_pass_50 : decode cX4_pass 50 = .ok (.aload_n 2, 1) := by decide +kernel
theorem dX4_pass_51 : decode cX4_pass 51 = .ok (.invokevirtual 52, 3) := by decide +kernel
theorem dX4_pass_54 : decode cX4_pass 54 = .ok (.if_icmp .ne 21, 3) := by decide +kernel
theorem dX4_pass_57 : decode cX4_pass 57 = .ok (.aload_n 0, 1) := by decide +kernel
theorem dX4_pass_58 : decode cX4_pass 58 = .ok (.dup, 1) := by decide +kernel
theorem dX4_pass_59 : decode cX4_pass 59 = .ok (.getfield 29, 3) := by decide +kernel
theorem dX4_pass_62 : decode cX4_pass 62 = .ok (.iconst 1, 1) := by decide +kernel
theorem dX4_pass_63 : decode cX4_pass 63 = .ok (.iadd, 1) := by decide +kernel
theorem dX4_pass_64 : decode cX4_pass 64 = .ok (.putfield 29, 3) := by decide +kernel
theorem dX4_pass_67 : decode cX4_pass 67 = .ok (.aload_n 0, 1) := by decide +kernel
theorem dX4_pass_68 : decode cX4_pass 68 = .ok (.iconst 0, 1) := by decide +kernel
theorem dX4_pass_69 : decode cX4_pass 69 = .ok (.putfield 26, 3) := by decide +kernel
theorem dX4_pass_72 : decode cX4_pass 72 = .ok (.goto 12, 3) := by decide +kernel
theorem dX4_pass_75 : decode cX4_pass 75 = .ok (.aload_n 0, 1) := by decide +kernel
theorem dX4_pass_76 : decode cX4_pass 76 = .ok (.aload_n 2, 1) := by decide +kernel
theorem dX4_pass_77 : decode cX4_pass 77 = .ok (.iload_n 1, 1) := by decide +kernel
theorem dX4_pass_78 : decode cX4_pass 78 = .ok (.invokevirtual 49, 3) := by decide +kernel
theorem dX4_pass_81 : decode cX4_pass 81 = .ok (.putfield 26, 3) := by decide +kernel
theorem dX4_pass_84 : decode cX4_pass 84 = .ok (.return_, 1) := by decide +kernel
theorem dX5_init_0 : decode cX5_init 0 = .ok (.aload_n 0, 1) := by decide +kernel
theorem dX5_init_1 : decode cX5_init 1 = .ok (.invokespecial 3, 3) := by decide +kernel
theorem dX5_init_4 : decode cX5_init 4 = .ok (.aload_n 0, 1) := by decide +kernel
theorem dX5_init_5 : decode cX5_init 5 = .ok (.iconst 3, 1) := by decide +kernel
theorem dX5_init_6 : decode cX5_init 6 = .ok (.newarray .int, 2) := by decide +kernel
theorem dX5_init_8 : decode cX5_init 8 = .ok (.putfield 11, 3) := by decide +kernel
theorem dX5_init_11 : decode cX5_init 11 = .ok (.return_, 1) := by decide +kernel
theorem dX5_errorPlace_0 : decode cX5_errorPlace 0 = .ok (.aload_n 0, 1) := by decide +kernel
theorem dX5_errorPlace_1 : decode cX5_errorPlace 1 = .ok (.getfield 15, 3) := by decide +kernel
theorem dX5_errorPlace_4 : decode cX5_errorPlace 4 = .ok (.ireturn, 1) := by decide +kernel
theorem dX5_reason_0 : decode cX5_reason 0 = .ok (.aload_n 0, 1) := by decide +kernel
theorem dX5_reason_1 : decode cX5_reason 1 = .ok (.getfield 19, 3) := by decide +kernel
theorem dX5_reason_4 : decode cX5_reason 4 = .ok (.ireturn, 1) := by decide +kernel
set_option maxRecDepth 20000 in
theorem ggX5_read_X0_begin : GoodIn wsX5_read wsX0_begin := goodIn_r _ [9, 10, 11, 12, 80, 81, 82, 83, 84, 85, 86] (by decide +kernel) (by decide +kernel)
set_option maxRecDepth 20000 in
theorem gX5_read_X0_begin : GoodIn wsX5_read (wsV RX5 22 RX0 yX0_begin wsX0_begin) := goodIn_app (goodIn_of _ (by decide +kernel)) ggX5_read_X0_begin
set_option maxRecDepth 20000 in
theorem ggX5_read_X1_length : GoodIn wsX5_read wsX1_length := goodIn_r _ [17, 18, 87, 88] (by decide +kernel) (by decide +kernel)
set_option maxRecDepth 20000 in
theorem gX5_read_X1_length : GoodIn wsX5_read (wsV RX5 34 RX1 yX1_length wsX1_length) := goodIn_app (goodIn_of _ (by decide +kernel)) ggX5_read_X1_length
set_option maxRecDepth 20000 in
theorem ggX5_read_X5_readStatement : GoodIn wsX5_read wsX5_readStatement := goodIn_r _ [23, 1, 24, 25, 26, 16, 27, 18, 28, 29, 30, 31, 22, 32, 33, 34, 35, 36, 37, 38, 39, 40, 41, 5, 6, 7, 8, 9, 10, 11, 12, 42, 43, 44, 45, 46, 47, 48, 49, 50, 51, 52, 53, 54, 55, 56, 57, 58, 59, 60, 61, 62, 63, 64, 65, 66, 67, 68, 69, 70, 71, 2, 72, 73, 74, 75, 76, 77, 78, 79, 87, 88, 80, 81, 82, 83, 84, 85, 86] (by decide +kernel) (by decide +kernel)
set_option maxRecDepth 20000 in
theorem gX5_read_X5_readStatement : GoodIn wsX5_read (wsV RX5 40 RX5 yX5_readStatement wsX5_readStatement) := goodIn_app (goodIn_of _ (by decide +kernel)) ggX5_read_X5_readStatement
theorem dX5_read_0 : decode cX5_read 0 = .ok (.aload_n 2, 1) := by decide +kernel
theorem dX5_read_1 : decode cX5_read 1 = .ok (.iconst 0, 1) := by decide +kernel
theorem dX5_read_2 : decode cX5_read 2 = .ok (.invokevirtual 22, 3) := by decide +kernel
theorem dX5_read_5 : decode cX5_read 5 = .ok (.aload_n 0, 1) := by decide +kernel
theorem dX5_read_6 : decode cX5_read 6 = .ok (.iconst 0, 1) := by decide +kernel
theorem dX5_read_7 : decode cX5_read 7 = .ok (.putfield 28, 3) := by decide +kernel
theorem dX5_read_10 : decode cX5_read 10 = .ok (.aload_n 0, 1) := by decide +kernel
theorem dX5_read_11 : decode cX5_read 11 = .ok (.iconst 0, 1) := by decide +kernel
theorem dX5_read_12 : decode cX5_read 12 = .ok (.putfield 31, 3) := by decide +kernel
theorem dX5_read_15 : decode cX5_read 15 = .ok (.aload_n 0, 1) := by decide +kernel
theorem dX5_read_16 : decode cX5_read 16 = .ok (.iconst 0, 1) := by decide +kernel
theorem dX5_read_17 : decode cX5_read 17 = .ok (.putfield 19, 3) := by decide +kernel
theorem dX5_read_20 : decode cX5_read 20 = .ok (.iconst 0, 1) := by decide +kernel
theorem dX5_read_21 : decode cX5_read 21 = .ok (.istore_n 3, 1) := by decide +kernel
theorem dX5_read_22 : decode cX5_read 22 = .ok (.iload_n 3, 1) := by decide +kernel
theorem dX5_read_23 : decode cX5_read 23 = .ok (.sipush 200, 3) := by decide +kernel
theorem dX5_read_26 : decode cX5_read 26 = .ok (.if_icmp .ge 46, 3) := by decide +kernel
theorem dX5_read_29 : decode cX5_read 29 = .ok (.aload_n 0, 1) := by decide +kernel
theorem dX5_read_30 : decode cX5_read 30 = .ok (.getfield 28, 3) := by decide +kernel
theorem dX5_read_33 : decode cX5_read 33 = .ok (.aload_n 1, 1) := by decide +kernel
theorem dX5_read_34 : decode cX5_read 34 = .ok (.invokevirtual 34, 3) := by decide +kernel
theorem dX5_read_37 : decode cX5_read 37 = .ok (.if_icmp .ge 10, 3) := by decide +kernel
theorem dX5_read_40 : decode cX5_read 40 = .ok (.aload_n 0, 1) := by decide +kernel
theorem dX5_read_41 : decode cX5_read 41 = .ok (.getfield 19, 3) := by decide +kernel
theorem dX5_read_44 : decode cX5_read 44 = .ok (.ifCond .eq 4, 3) := by decide +kernel
theorem dX5_read_47 : decode cX5_read 47 = .ok (.return_, 1) := by decide +kernel
theorem dX5_read_48 : decode cX5_read 48 = .ok (.aload_n 0, 1) := by decide +kernel
theorem dX5_read_49 : decode cX5_read 49 = .ok (.aload_n 0, 1) := by decide +kernel
theorem dX5_read_50 : decode cX5_read 50 = .ok (.getfield 28, 3) := by decide +kernel
theorem dX5_read_53 : decode cX5_read 53 = .ok (.putfield 15, 3) := by decide +kernel
theorem dX5_read_56 : decode cX5_read 56 = .ok (.aload_n 0, 1) := by decide +kernel
theorem dX5_read_57 : decode cX5_read 57 = .ok (.aload_n 0, 1) := by decide +kernel
theorem dX5_read_58 : decode cX5_read 58 = .ok (.aload_n 1, 1) := by decide +kernel
theorem dX5_read_59 : decode cX5_read 59 = .ok (.aload_n 2, 1) := by decide +kernel
theorem dX5_read_60 : decode cX5_read 60 = .ok (.invokevirtual 40, 3) := by decide +kernel
theorem dX5_read_63 : decode cX5_read 63 = .ok (.putfield 19, 3) := by decide +kernel
theorem dX5_read_66 : decode cX5_read 66 = .ok (.iinc 3 1, 3) := by decide +kernel
theorem dX5_read_69 : decode cX5_read 69 = .ok (.goto (-47), 3) := by decide +kernel
theorem dX5_read_72 : decode cX5_read 72 = .ok (.return_, 1) := by decide +kernel
set_option maxRecDepth 20000 in
theorem ggX5_readStatement_X1_at : GoodIn wsX5_readStatement wsX1_at := goodIn_r _ [6, 7, 8, 70, 71] (by decide +kernel) (by decide +kernel)
set_option maxRecDepth 20000 in
theorem gX5_readStatement_X1_at : GoodIn wsX5_readStatement (wsV RX5 44 RX1 yX1_at wsX1_at) := goodIn_app (goodIn_of _ (by decide +kernel)) ggX5_readStatement_X1_at
set_option maxRecDepth 20000 in
theorem ggX5_readStatement_X5_readNumbers : GoodIn wsX5_readStatement wsX5_readNumbers := goodIn_r _ [13, 1, 14, 15, 16, 17, 12, 18, 2, 3, 4, 5, 6, 7, 8, 65, 66, 67, 68, 69, 70, 71] (by decide +kernel) (by decide +kernel)
set_option maxRecDepth 20000 in
theorem gX5_readStatement_X5_readNumbers : GoodIn wsX5_readStatement (wsV RX5 48 RX5 yX5_readNumbers wsX5_readNumbers) := goodIn_app (goodIn_of _ (by decide +kernel)) ggX5_readStatement_X5_readNumbers
set_option maxRecDepth 20000 in
theorem ggX5_readStatement_X5_takeBlocks : GoodIn wsX5_readStatement wsX5_takeBlocks := goodIn_r _ [22, 14, 23, 24, 25, 26, 27, 28, 29, 30, 65, 66, 67, 68, 69, 72, 73, 74, 75, 76, 77, 78] (by decide +kernel) (by decide +kernel)
set_option maxRecDepth 20000 in
theorem gX5_readStatement_X5_takeBlocks : GoodIn wsX5_readStatement (wsV RX5 52 RX5 yX5_takeBlocks wsX5_takeBlocks) := goodIn_app (goodIn_of _ (by decide +kernel)) ggX5_readStatement_X5_takeBlocks
set_option maxRecDepth 20000 in
theorem ggX5_readStatement_X5_takeEdge : GoodIn wsX5_readStatement wsX5_takeEdge := goodIn_r _ [34, 14, 35, 36, 37, 26, 38, 28, 39, 40, 41, 42, 43, 44, 45, 46, 29, 47, 48, 49, 50, 51, 52, 53, 54, 30, 55, 56, 65, 66, 67, 68, 69, 72, 73, 74, 75, 76, 77, 78] (by decide +kernel) (by decide +kernel)
set_option maxRecDepth 20000 in
theorem gX5_readStatement_X5_takeEdge : GoodIn wsX5_readStatement (wsV RX5 56 RX5 yX5_takeEdge wsX5_takeEdge) := goodIn_app (goodIn_of _ (by decide +kernel)) ggX5_readStatement_X5_takeEdge
set_option maxRecDepth 20000 in
theorem ggX5_readStatement_X5_takeAbort : GoodIn wsX5_readStatement wsX5_takeAbort := goodIn_r _ [60, 14, 61, 35, 36, 37, 26, 38, 28, 39, 40, 41, 42, 62, 63, 64, 43, 44, 45, 46, 29, 47, 48, 49, 50, 51, 52, 53, 54, 30, 55, 56, 65, 66, 67, 68, 69, 72, 73, 74, 75, 76, 77, 78] (by decide +kernel) (by decide +kernel)
set_option maxRecDepth 20000 in
theorem gX5_readStatement_X5_takeAbort : GoodIn wsX5_readStatement (wsV RX5 59 RX5 yX5_takeAbort wsX5_takeAbort) := goodIn_app (goodIn_of _ (by decide +kernel)) ggX5_readStatement_X5_takeAbort
theorem dX5_readStatement_0 : decode cX5_readStatement 0 = .ok (.aload_n 1, 1) := by decide +kernel
theorem dX5_readStatement_1 : decode cX5_readStatement 1 = .ok (.aload_n 0, 1) := by decide +kernel
theorem dX5_readStatement_2 : decode cX5_readStatement 2 = .ok (.getfield 28, 3) := by decide +kernel
theorem dX5_readStatement_5 : decode cX5_readStatement 5 = .ok (.invokevirtual 44, 3) := by decide +kernel
theorem dX5_readStatement_8 : decode cX5_readStatement 8 = .ok (.istore_n 3, 1) := by decide +kernel
theorem dX5_readStatement_9 : decode cX5_readStatement 9 = .ok (.aload_n 0, 1) := by decide +kernel
theorem dX5_readStatement_10 : decode cX5_readStatement 10 = .ok (.getfield 28, 3) := by decide +kernel
theorem dX5_readStatement_13 : decode cX5_readStatement 13 = .ok (.ifCond .ne 17, 3) := by decide +kernel
theorem dX5_readStatement_16 : decode cX5_readStatement 16 = .ok (.iload_n 3, 1) := by decide +kernel
theorem dX5_readStatement_17 : decode cX5_readStatement 17 = .ok (.bipush 98, 2) := by decide +kernel
theorem dX5_readStatement_19 : decode cX5_readStatement 19 = .ok (.if_icmp .ne 7, 3) := by decide +kernel
theorem dX5_readStatement_22 : decode cX5_readStatement 22 = .ok (.iconst 1, 1) := by decide +kernel
theorem dX5_readStatement_23 : decode cX5_readStatement 23 = .ok (.goto 24, 3) := by decide +kernel
theorem dX5_readStatement_26 : decode cX5_readStatement 26 = .ok (.iconst 0, 1) := by decide +kernel
theorem dX5_readStatement_27 : decode cX5_readStatement 27 = .ok (.goto 20, 3) := by decide +kernel
theorem dX5_readStatement_30 : decode cX5_readStatement 30 = .ok (.iload_n 3, 1) := by decide +kernel
theorem dX5_readStatement_31 : decode cX5_readStatement 31 = .ok (.bipush 101, 2) := by decide +kernel
theorem dX5_readStatement_33 : decode cX5_readStatement 33 = .ok (.if_icmp .eq 9, 3) := by decide +kernel
theorem dX5_readStatement_36 : decode cX5_readStatement 36 = .ok (.iload_n 3, 1) := by decide +kernel
theorem dX5_readStatement_37 : decode cX5_readStatement 37 = .ok (.bipush 97, 2) := by decide +kernel
theorem dX5_readStatement_39 : decode cX5_readStatement 39 = .ok (.if_icmp .ne 7, 3) := by decide +kernel
theorem dX5_readStatement_42 : decode cX5_readStatement 42 = .ok (.iconst 1, 1) := by decide +kernel
theorem dX5_readStatement_43 : decode cX5_readStatement 43 = .ok (.goto 4, 3) := by decide +kernel
theorem dX5_readStatement_46 : decode cX5_readStatement 46 = .ok (.iconst 0, 1) := by decide +kernel
theorem dX5_readStatement_47 : decode cX5_readStatement 47 = .ok (.istore 4, 2) := by decide +kernel
theorem dX5_readStatement_49 : decode cX5_readStatement 49 = .ok (.iload 4, 2) := by decide +kernel
theorem dX5_readStatement_51 : decode cX5_readStatement 51 = .ok (.ifCond .ne 5, 3) := by decide +kernel
theorem dX5_readStatement_54 : decode cX5_readStatement 54 = .ok (.iconst 1, 1) := by decide +kernel
theorem dX5_readStatement_55 : decode cX5_readStatement 55 = .ok (.ireturn, 1) := by decide +kernel
theorem dX5_readStatement_56 : decode cX5_readStatement 56 = .ok (.aload_n 0, 1) := by decide +kernel
theorem dX5_readStatement_57 : decode cX5_readStatement 57 = .ok (.dup, 1) := by decide +kernel
theorem dX5_readStatement_58 : decode cX5_readStatement 58 = .ok (.getfield 28, 3) := by decide +kernel
theorem dX5_readStatement_61 : decode cX5_readStatement 61 = .ok (.iconst 1, 1) := by decide +kernel
theorem dX5_readStatement_62 : decode cX5_readStatement 62 = .ok (.iadd, 1) := by decide +kernel
theorem dX5_readStatement_63 : decode cX5_readStatement 63 = .ok (.putfield 28, 3) := by decide +kernel
theorem dX5_readStatement_66 : decode cX5_readStatement 66 = .ok (.aload_n 0, 1) := by decide +kernel
theorem dX5_readStatement_67 : decode cX5_readStatement 67 = .ok (.aload_n 1, 1) := by decide +kernel
theorem dX5_readStatement_68 : decode cX5_readStatement 68 = .ok (.iload_n 3, 1) := by decide +kernel
theorem dX5_readStatement_69 : decode cX5_readStatement 69 = .ok (.bipush 101, 2) := by decide +kernel
theorem dX5_readStatement_71 : decode cX5_readStatement 71 = .ok (.if_icmp .ne 7, 3) := by decide +kernel
theorem dX5_readStatement_74 : decode cX5_readStatement 74 = .ok (.iconst 3, 1) := by decide +kernel
theorem dX5_readStatement_75 : decode cX5_readStatement 75 = .ok (.goto 4, 3) := by decide +kernel
theorem dX5_readStatement_78 : decode cX5_readStatement 78 = .ok (.iconst 1, 1) := by decide +kernel
theorem dX5_readStatement_79 : decode cX5_readStatement 79 = .ok (.invokevirtual 48, 3) := by decide +kernel
theorem dX5_readStatement_82 : decode cX5_readStatement 82 = .ok (.ifCond .ne 5, 3) := by decide +kernel
theorem dX5_readStatement_85 : decode cX5_readStatement 85 = .ok (.iconst 2, 1) := by decide +kernel
theorem dX5_readStatement_86 : decode cX5_readStatement 86 = .ok (.ireturn, 1) := by decide +kernel
theorem dX5_readStatement_87 : decode cX5_readStatement 87 = .ok (.iload_n 3, 1) := by decide +kernel
theorem dX5_readStatement_88 : decode cX5_readStatement 88 = .ok (.bipush 98, 2) := by decide +kernel
theorem dX5_readStatement_90 : decode cX5_readStatement 90 = .ok (.if_icmp .ne 9, 3) := by decide +kernel
theorem dX5_readStatement_93 : decode cX5_readStatement 93 = .ok (.aload_n 0, 1) := by decide +kernel
theorem dX5_readStatement_94 : decode cX5_readStatement 94 = .ok (.aload_n 2, 1) := by decide +kernel
theorem dX5_readStatement_95 : decode cX5_readStatement 95 = .ok (.invokevirtual 52, 3) := by decide +kernel
theorem dX5_readStatement_98 : decode cX5_readStatement 98 = .ok (.ireturn, 1) := by decide +kernel
theorem dX5_readStatement_99 : decode cX5_readStatement 99 = .ok (.iload_n 3, 1) := by decide +kernel
theorem dX5_readStatement_100 : decode cX5_readStatement 100 = .ok (.bipush 101, 2) := by decide +kernel
theorem dX5_readStatement_102 : decode cX5_readStatement 102 = .ok (.if_icmp .ne 11, 3) := by decide +kernel
theorem dX5_readStatement_105 : decode cX5_readStatement 105 = .ok (.aload_n 0, 1) := by decide +kernel
theorem dX5_readStatement_106 : decode cX5_readStatement 106 = .ok (.aload_n 2, 1) := by decide +kernel
theorem dX5_readStatement_107 : decode cX5_readStatement 107 = .ok (.invokevirtual 56, 3) := by decide +kernel
theorem dX5_readStatement_110 : decode cX5_readStatement 110 = .ok (.goto 8, 3) := by decide +kernel
theorem dX5_readStatement_113 : decode cX5_readStatement 113 = .ok (.aload_n 0, 1) := by decide +kernel
theorem dX5_readStatement_114 : decode cX5_readStatement 114 = .ok (.aload_n 2, 1) := by decide +kernel
theorem dX5_readStatement_115 : decode cX5_readStatement 115 = .ok (.invokevirtual 59, 3) := by decide +kernel
theorem dX5_readStatement_118 : decode cX5_readStatement 118 = .ok (.ireturn, 1) := by decide +kernel
set_option maxRecDepth 20000 in
theorem ggX5_readNumbers_X5_readNumber : GoodIn wsX5_readNumbers wsX5_readNumber := goodIn_r _ [7, 1, 8, 9, 10, 11, 12, 13, 14, 15, 16, 17, 18, 19, 20, 21] (by decide +kernel) (by decide +kernel)
set_option maxRecDepth 20000 in
theorem gX5_readNumbers_X5_readNumber : GoodIn wsX5_readNumbers (wsV RX5 62 RX5 yX5_readNumber wsX5_readNumber) := goodIn_app (goodIn_of _ (by decide +kernel)) ggX5_readNumbers_X5_readNumber
set_option maxRecDepth 20000 in
theorem ggX5_readNumbers_X1_at : GoodIn wsX5_readNumbers wsX1_at := goodIn_r _ [12, 13, 14, 20, 21] (by decide +kernel) (by decide +kernel)
set_option maxRecDepth 20000 in
theorem gX5_readNumbers_X1_at : GoodIn wsX5_readNumbers (wsV RX5 44 RX1 yX1_at wsX1_at) := goodIn_app (goodIn_of _ (by decide +kernel)) ggX5_readNumbers_X1_at
theorem dX5_readNumbers_0 : decode cX5_readNumbers 0 = .ok (.iconst 0, 1) := by decide +kernel
theorem dX5_readNumbers_1 : decode cX5_readNumbers 1 = .ok (.istore_n 3, 1) := by decide +kernel
theorem dX5_readNumbers_2 : decode cX5_readNumbers 2 = .ok (.iload_n 3, 1) := by decide +kernel
theorem dX5_readNumbers_3 : decode cX5_readNumbers 3 = .ok (.iload_n 2, 1) := by decide +kernel
theorem dX5_readNumbers_4 : decode cX5_readNumbers 4 = .ok (.if_icmp .ge 81, 3) := by decide +kernel
theorem dX5_readNumbers_7 : decode cX5_readNumbers 7 = .ok (.iload_n 3, 1) := by decide +kernel
theorem dX5_readNumbers_8 : decode cX5_readNumbers 8 = .ok (.iconst 3, 1) := by decide +kernel
theorem dX5_readNumbers_9 : decode cX5_readNumbers 9 = .ok (.if_icmp .ge 76, 3) := by decide +kernel
theorem dX5_readNumbers_12 : decode cX5_readNumbers 12 = .ok (.aload_n 0, 1) := by decide +kernel
theorem dX5_readNumbers_13 : decode cX5_readNumbers 13 = .ok (.getfield 28, 3) := by decide +kernel
theorem dX5_readNumbers_16 : decode cX5_readNumbers 16 = .ok (.istore 4, 2) := by decide +kernel
theorem dX5_readNumbers_18 : decode cX5_readNumbers 18 = .ok (.aload_n 0, 1) := by decide +kernel
theorem dX5_readNumbers_19 : decode cX5_readNumbers 19 = .ok (.getfield 11, 3) := by decide +kernel
theorem dX5_readNumbers_22 : decode cX5_readNumbers 22 = .ok (.iload_n 3, 1) := by decide +kernel
theorem dX5_readNumbers_23 : decode cX5_readNumbers 23 = .ok (.aload_n 0, 1) := by decide +kernel
theorem dX5_readNumbers_24 : decode cX5_readNumbers 24 = .ok (.aload_n 1, 1) := by decide +kernel
theorem dX5_readNumbers_25 : decode cX5_readNumbers 25 = .ok (.invokevirtual 62, 3) := by decide +kernel
theorem dX5_readNumbers_28 : decode cX5_readNumbers 28 = .ok (.iastore, 1) := by decide +kernel
theorem dX5_readNumbers_29 : decode cX5_readNumbers 29 = .ok (.iload_n 3, 1) := by decide +kernel
theorem dX5_readNumbers_30 : decode cX5_readNumbers 30 = .ok (.iload_n 2, 1) := by decide +kernel
theorem dX5_readNumbers_31 : decode cX5_readNumbers 31 = .ok (.iconst 1, 1) := by decide +kernel
theorem dX5_readNumbers_32 : decode cX5_readNumbers 32 = .ok (.isub, 1) := by decide +kernel
theorem dX5_readNumbers_33 : decode cX5_readNumbers 33 = .ok (.if_icmp .ne 8, 3) := by decide +kernel
theorem dX5_readNumbers_36 : decode cX5_readNumbers 36 = .ok (.bipush 59, 2) := by decide +kernel
theorem dX5_readNumbers_38 : decode cX5_readNumbers 38 = .ok (.goto 5, 3) := by decide +kernel
theorem dX5_readNumbers_41 : decode cX5_readNumbers 41 = .ok (.bipush 44, 2) := by decide +kernel
theorem dX5_readNumbers_43 : decode cX5_readNumbers 43 = .ok (.istore 5, 2) := by decide +kernel
theorem dX5_readNumbers_45 : decode cX5_readNumbers 45 = .ok (.aload_n 0, 1) := by decide +kernel
theorem dX5_readNumbers_46 : decode cX5_readNumbers 46 = .ok (.getfield 28, 3) := by decide +kernel
theorem dX5_readNumbers_49 : decode cX5_readNumbers 49 = .ok (.iload 4, 2) := by decide +kernel
theorem dX5_readNumbers_51 : decode cX5_readNumbers 51 = .ok (.if_icmp .eq 16, 3) := by decide +kernel
theorem dX5_readNumbers_54 : decode cX5_readNumbers 54 = .ok (.aload_n 1, 1) := by decide +kernel
theorem dX5_readNumbers_55 : decode cX5_readNumbers 55 = .ok (.aload_n 0, 1) := by decide +kernel
theorem dX5_readNumbers_56 : decode cX5_readNumbers 56 = .ok (.getfield 28, 3) := by decide +kernel
theorem dX5_readNumbers_59 : decode cX5_readNumbers 59 = .ok (.invokevirtual 44, 3) := by decide +kernel
theorem dX5_readNumbers_62 : decode cX5_readNumbers 62 = .ok (.iload 5, 2) := by decide +kernel
theorem dX5_readNumbers_64 : decode cX5_readNumbers 64 = .ok (.if_icmp .eq 5, 3) := by decide +kernel
theorem dX5_readNumbers_67 : decode cX5_readNumbers 67 = .ok (.iconst 0, 1) := by decide +kernel
theorem dX5_readNumbers_68 : decode cX5_readNumbers 68 = .ok (.ireturn, 1) := by decide +kernel
theorem dX5_readNumbers_69 : decode cX5_readNumbers 69 = .ok (.aload_n 0, 1) := by decide +kernel
theorem dX5_readNumbers_70 : decode cX5_readNumbers 70 = .ok (.dup, 1) := by decide +kernel
theorem dX5_readNumbers_71 : decode cX5_readNumbers 71 = .ok (.getfield 28, 3) := by decide +kernel
theorem dX5_readNumbers_74 : decode cX5_readNumbers 74 = .ok (.iconst 1, 1) := by decide +kernel
theorem dX5_readNumbers_75 : decode cX5_readNumbers 75 = .ok (.iadd, 1) := by decide +kernel
theorem dX5_readNumbers_76 : decode cX5_readNumbers 76 = .ok (.putfield 28, 3) := by decide +kernel
theorem dX5_readNumbers_79 : decode cX5_readNumbers 79 = .ok (.iinc 3 1, 3) := by decide +kernel
theorem dX5_readNumbers_82 : decode cX5_readNumbers 82 = .ok (.goto (-80), 3) := by decide +kernel
theorem dX5_readNumbers_85 : decode cX5_readNumbers 85 = .ok (.iconst 1, 1) := by decide +kernel
theorem dX5_readNumbers_86 : decode cX5_readNumbers 86 = .ok (.ireturn, 1) := by decide +kernel
set_option maxRecDepth 20000 in
theorem ggX5_readNumber_X1_at : GoodIn wsX5_readNumber wsX1_at := goodIn_r _ [6, 7, 8, 14, 15] (by decide +kernel) (by decide +kernel)
set_option maxRecDepth 20000 in
theorem gX5_readNumber_X1_at : GoodIn wsX5_readNumber (wsV RX5 44 RX1 yX1_at wsX1_at) := goodIn_app (goodIn_of _ (by decide +kernel)) ggX5_readNumber_X1_at
theorem dX5_readNumber_0 : decode cX5_readNumber 0 = .ok (.iconst 0, 1) := by decide +kernel
theorem dX5_readNumber_1 : decode cX5_readNumber 1 = .ok (.istore_n 2, 1) := by decide +kernel
theorem dX5_readNumber_2 : decode cX5_readNumber 2 = .ok (.iconst 0, 1) := by decide +kernel
theorem dX5_readNumber_3 : decode cX5_readNumber 3 = .ok (.istore_n 3, 1) := by decide +kernel
theorem dX5_readNumber_4 : decode cX5_readNumber 4 = .ok (.iload_n 3, 1) := by decide +kernel
theorem dX5_readNumber_5 : decode cX5_readNumber 5 = .ok (.iconst 3, 1) := by decide +kernel
theorem dX5_readNumber_6 : decode cX5_readNumber 6 = .ok (.if_icmp .ge 56, 3) := by decide +kernel
theorem dX5_readNumber_9 : decode cX5_readNumber 9 = .ok (.aload_n 1, 1) := by decide +kernel
theorem dX5_readNumber_10 : decode cX5_readNumber 10 = .ok (.aload_n 0, 1) := by decide +kernel
theorem dX5_readNumber_11 : decode cX5_readNumber 11 = .ok (.getfield 28, 3) := by decide +kernel
theorem dX5_readNumber_14 : decode cX5_readNumber 14 = .ok (.invokevirtual 44, 3) := by decide +kernel
theorem dX5_readNumber_17 : decode cX5_readNumber 17 = .ok (.istore 4, 2) := by decide +kernel
theorem dX5_readNumber_19 : decode cX5_readNumber 19 = .ok (.iload 4, 2) := by decide +kernel
theorem dX5_readNumber_21 : decode cX5_readNumber 21 = .ok (.bipush 48, 2) := by decide +kernel
theorem dX5_readNumber_23 : decode cX5_readNumber 23 = .ok (.if_icmp .lt 10, 3) := by decide +kernel
theorem dX5_readNumber_26 : decode cX5_readNumber 26 = .ok (.iload 4, 2) := by decide +kernel
theorem dX5_readNumber_28 : decode cX5_readNumber 28 = .ok (.bipush 57, 2) := by decide +kernel
theorem dX5_readNumber_30 : decode cX5_readNumber 30 = .ok (.if_icmp .le 5, 3) := by decide +kernel
theorem dX5_readNumber_33 : decode cX5_readNumber 33 = .ok (.iload_n 2, 1) := by decide +kernel
theorem dX5_readNumber_34 : decode cX5_readNumber 34 = .ok (.ireturn, 1) := by decide +kernel
theorem dX5_readNumber_35 : decode cX5_readNumber 35 = .ok (.iload_n 2, 1) := by decide +kernel
theorem dX5_readNumber_36 : decode cX5_readNumber 36 = .ok (.bipush 10, 2) := by decide +kernel
theorem dX5_readNumber_38 : decode cX5_readNumber 38 = .ok (.imul, 1) := by decide +kernel
theorem dX5_readNumber_39 : decode cX5_readNumber 39 = .ok (.iload 4, 2) := by decide +kernel
theorem dX5_readNumber_41 : decode cX5_readNumber 41 = .ok (.bipush 48, 2) := by decide +kernel
theorem dX5_readNumber_43 : decode cX5_readNumber 43 = .ok (.isub, 1) := by decide +kernel
theorem dX5_readNumber_44 : decode cX5_readNumber 44 = .ok (.iadd, 1) := by decide +kernel
theorem dX5_readNumber_45 : decode cX5_readNumber 45 = .ok (.istore_n 2, 1) := by decide +kernel
theorem dX5_readNumber_46 : decode cX5_readNumber 46 = .ok (.aload_n 0, 1) := by decide +kernel
theorem dX5_readNumber_47 : decode cX5_readNumber 47 = .ok (.dup, 1) := by decide +kernel
theorem dX5_readNumber_48 : decode cX5_readNumber 48 = .ok (.getfield 28, 3) := by decide +kernel
theorem dX5_readNumber_51 : decode cX5_readNumber 51 = .ok (.iconst 1, 1) := by decide +kernel
theorem dX5_readNumber_52 : decode cX5_readNumber 52 = .ok (.iadd, 1) := by decide +kernel
theorem dX5_readNumber_53 : decode cX5_readNumber 53 = .ok (.putfield 28, 3) := by decide +kernel
theorem dX5_readNumber_56 : decode cX5_readNumber 56 = .ok (.iinc 3 1, 3) := by decide +kernel
theorem dX5_readNumber_59 : decode cX5_readNumber 59 = .ok (.goto (-55), 3) := by decide +kernel
theorem dX5_readNumber_62 : decode cX5_readNumber 62 = .ok (.iload_n 2, 1) := by decide +kernel
theorem dX5_readNumber_63 : decode cX5_readNumber 63 = .ok (.ireturn, 1) := by decide +kernel
set_option maxRecDepth 20000 in
theorem ggX5_takeBlocks_X0_begin : GoodIn wsX5_takeBlocks wsX0_begin := goodIn_r _ [6, 7, 8, 9, 15, 16, 17, 18, 19, 20, 21] (by decide +kernel) (by decide +kernel)
set_option maxRecDepth 20000 in
theorem gX5_takeBlocks_X0_begin : GoodIn wsX5_takeBlocks (wsV RX5 22 RX0 yX0_begin wsX0_begin) := goodIn_app (goodIn_of _ (by decide +kernel)) ggX5_takeBlocks_X0_begin
theorem dX5_takeBlocks_0 : decode cX5_takeBlocks 0 = .ok (.aload_n 0, 1) := by decide +kernel
theorem dX5_takeBlocks_1 : decode cX5_takeBlocks 1 = .ok (.getfield 11, 3) := by decide +kernel
theorem dX5_takeBlocks_4 : decode cX5_takeBlocks 4 = .ok (.iconst 0, 1) := by decide +kernel
theorem dX5_takeBlocks_5 : decode cX5_takeBlocks 5 = .ok (.iaload, 1) := by decide +kernel
theorem dX5_takeBlocks_6 : decode cX5_takeBlocks 6 = .ok (.istore_n 2, 1) := by decide +kernel
theorem dX5_takeBlocks_7 : decode cX5_takeBlocks 7 = .ok (.iload_n 2, 1) := by decide +kernel
theorem dX5_takeBlocks_8 : decode cX5_takeBlocks 8 = .ok (.iconst 2, 1) := by decide +kernel
theorem dX5_takeBlocks_9 : decode cX5_takeBlocks 9 = .ok (.if_icmp .lt 9, 3) := by decide +kernel
theorem dX5_takeBlocks_12 : decode cX5_takeBlocks 12 = .ok (.iload_n 2, 1) := by decide +kernel
theorem dX5_takeBlocks_13 : decode cX5_takeBlocks 13 = .ok (.bipush 10, 2) := by decide +kernel
theorem dX5_takeBlocks_15 : decode cX5_takeBlocks 15 = .ok (.if_icmp .le 5, 3) := by decide +kernel
theorem dX5_takeBlocks_18 : decode cX5_takeBlocks 18 = .ok (.iconst 3, 1) := by decide +kernel
theorem dX5_takeBlocks_19 : decode cX5_takeBlocks 19 = .ok (.ireturn, 1) := by decide +kernel
theorem dX5_takeBlocks_20 : decode cX5_takeBlocks 20 = .ok (.aload_n 1, 1) := by decide +kernel
theorem dX5_takeBlocks_21 : decode cX5_takeBlocks 21 = .ok (.iload_n 2, 1) := by decide +kernel
theorem dX5_takeBlocks_22 : decode cX5_takeBlocks 22 = .ok (.invokevirtual 22, 3) := by decide +kernel
theorem dX5_takeBlocks_25 : decode cX5_takeBlocks 25 = .ok (.iconst 0, 1) := by decide +kernel
theorem dX5_takeBlocks_26 : decode cX5_takeBlocks 26 = .ok (.ireturn, 1) := by decide +kernel
set_option maxRecDepth 20000 in
theorem ggX5_takeEdge_X0_hasBlock : GoodIn wsX5_takeEdge wsX0_hasBlock := goodIn_r _ [6, 7, 33, 34, 35, 36, 37, 38, 39] (by decide +kernel) (by decide +kernel)
set_option maxRecDepth 20000 in
theorem gX5_takeEdge_X0_hasBlock : GoodIn wsX5_takeEdge (wsV RX5 66 RX0 yX0_hasBlock wsX0_hasBlock) := goodIn_app (goodIn_of _ (by decide +kernel)) ggX5_takeEdge_X0_hasBlock
set_option maxRecDepth 20000 in
theorem ggX5_takeEdge_X0_exit : GoodIn wsX5_takeEdge wsX0_exit := goodIn_r _ [11, 7, 33, 34, 35, 36, 37, 38, 39] (by decide +kernel) (by decide +kernel)
set_option maxRecDepth 20000 in
theorem gX5_takeEdge_X0_exit : GoodIn wsX5_takeEdge (wsV RX5 70 RX0 yX0_exit wsX0_exit) := goodIn_app (goodIn_of _ (by decide +kernel)) ggX5_takeEdge_X0_exit
set_option maxRecDepth 20000 in
theorem ggX5_takeEdge_X0_isFull : GoodIn wsX5_takeEdge wsX0_isFull := goodIn_r _ [15, 16, 33, 34, 35, 36, 37, 38, 39] (by decide +kernel) (by decide +kernel)
set_option maxRecDepth 20000 in
theorem gX5_takeEdge_X0_isFull : GoodIn wsX5_takeEdge (wsV RX5 73 RX0 yX0_isFull wsX0_isFull) := goodIn_app (goodIn_of _ (by decide +kernel)) ggX5_takeEdge_X0_isFull
set_option maxRecDepth 20000 in
theorem ggX5_takeEdge_X0_addEdge : GoodIn wsX5_takeEdge wsX0_addEdge := goodIn_r _ [20, 21, 16, 22, 23, 24, 25, 26, 13, 14, 5, 15, 27, 3, 4, 6, 7, 33, 34, 35, 36, 37, 38, 39] (by decide +kernel) (by decide +kernel)
set_option maxRecDepth 20000 in
theorem gX5_takeEdge_X0_addEdge : GoodIn wsX5_takeEdge (wsV RX5 77 RX0 yX0_addEdge wsX0_addEdge) := goodIn_app (goodIn_of _ (by decide +kernel)) ggX5_takeEdge_X0_addEdge
theorem dX5_takeEdge_0 : decode cX5_takeEdge 0 = .ok (.aload_n 0, 1) := by decide +kernel
theorem dX5_takeEdge_1 : decode cX5_takeEdge 1 = .ok (.getfield 11, 3) := by decide +kernel
theorem dX5_takeEdge_4 : decode cX5_takeEdge 4 = .ok (.iconst 0, 1) := by decide +kernel
theorem dX5_takeEdge_5 : decode cX5_takeEdge 5 = .ok (.iaload, 1) := by decide +kernel
theorem dX5_takeEdge_6 : decode cX5_takeEdge 6 = .ok (.istore_n 2, 1) := by decide +kernel
theorem dX5_takeEdge_7 : decode cX5_takeEdge 7 = .ok (.aload_n 0, 1) := by decide +kernel
theorem dX5_takeEdge_8 : decode cX5_takeEdge 8 = .ok (.getfield 11, 3) := by decide +kernel
theorem dX5_takeEdge_11 : decode cX5_takeEdge 11 = .ok (.iconst 1, 1) := by decide +kernel
theorem dX5_takeEdge_12 : decode cX5_takeEdge 12 = .ok (.iaload, 1) := by decide +kernel
theorem dX5_takeEdge_13 : decode cX5_takeEdge 13 = .ok (.istore_n 3, 1) := by decide +kernel
theorem dX5_takeEdge_14 : decode cX5_takeEdge 14 = .ok (.aload_n 1, 1) := by decide +kernel
theorem dX5_takeEdge_15 : decode cX5_takeEdge 15 = .ok (.iload_n 2, 1) := by decide +kernel
theorem dX5_takeEdge_16 : decode cX5_takeEdge 16 = .ok (.invokevirtual 66, 3) := by decide +kernel
theorem dX5_takeEdge_19 : decode cX5_takeEdge 19 = .ok (.ifCond .eq 16, 3) := by decide +kernel
theorem dX5_takeEdge_22 : decode cX5_takeEdge 22 = .ok (.aload_n 1, 1) := by decide +kernel
theorem dX5_takeEdge_23 : decode cX5_takeEdge 23 = .ok (.iload_n 3, 1) := by decide +kernel
theorem dX5_takeEdge_24 : decode cX5_takeEdge 24 = .ok (.invokevirtual 66, 3) := by decide +kernel
theorem dX5_takeEdge_27 : decode cX5_takeEdge 27 = .ok (.ifCond .eq 8, 3) := by decide +kernel
theorem dX5_takeEdge_30 : decode cX5_takeEdge 30 = .ok (.iload_n 2, 1) := by decide +kernel
theorem dX5_takeEdge_31 : decode cX5_takeEdge 31 = .ok (.iload_n 3, 1) := by decide +kernel
theorem dX5_takeEdge_32 : decode cX5_takeEdge 32 = .ok (.if_icmp .ne 5, 3) := by decide +kernel
theorem dX5_takeEdge_35 : decode cX5_takeEdge 35 = .ok (.iconst 3, 1) := by decide +kernel
theorem dX5_takeEdge_36 : decode cX5_takeEdge 36 = .ok (.ireturn, 1) := by decide +kernel
theorem dX5_takeEdge_37 : decode cX5_takeEdge 37 = .ok (.iload_n 3, 1) := by decide +kernel
theorem dX5_takeEdge_38 : decode cX5_takeEdge 38 = .ok (.ifCond .eq 11, 3) := by decide +kernel
theorem dX5_takeEdge_41 : decode cX5_takeEdge 41 = .ok (.iload_n 2, 1) := by decide +kernel
theorem dX5_takeEdge_42 : decode cX5_takeEdge 42 = .ok (.aload_n 1, 1) := by decide +kernel
theorem dX5_takeEdge_43 : decode cX5_takeEdge 43 = .ok (.invokevirtual 70, 3) := by decide +kernel
theorem dX5_takeEdge_46 : decode cX5_takeEdge 46 = .ok (.if_icmp .ne 5, 3) := by decide +kernel
theorem dX5_takeEdge_49 : decode cX5_takeEdge 49 = .ok (.iconst 3, 1) := by decide +kernel
theorem dX5_takeEdge_50 : decode cX5_takeEdge 50 = .ok (.ireturn, 1) := by decide +kernel
theorem dX5_takeEdge_51 : decode cX5_takeEdge 51 = .ok (.aload_n 1, 1) := by decide +kernel
theorem dX5_takeEdge_52 : decode cX5_takeEdge 52 = .ok (.invokevirtual 73, 3) := by decide +kernel
theorem dX5_takeEdge_55 : decode cX5_takeEdge 55 = .ok (.ifCond .eq 5, 3) := by decide +kernel
theorem dX5_takeEdge_58 : decode cX5_takeEdge 58 = .ok (.iconst 5, 1) := by decide +kernel
theorem dX5_takeEdge_59 : decode cX5_takeEdge 59 = .ok (.ireturn, 1) := by decide +kernel
theorem dX5_takeEdge_60 : decode cX5_takeEdge 60 = .ok (.aload_n 1, 1) := by decide +kernel
theorem dX5_takeEdge_61 : decode cX5_takeEdge 61 = .ok (.iload_n 2, 1) := by decide +kernel
theorem dX5_takeEdge_62 : decode cX5_takeEdge 62 = .ok (.iload_n 3, 1) := by decide +kernel
theorem dX5_takeEdge_63 : decode cX5_takeEdge 63 = .ok (.aload_n 0, 1) := by decide +kernel
theorem dX5_takeEdge_64 : decode cX5_takeEdge 64 = .ok (.getfield 11, 3) := by decide +kernel
theorem dX5_takeEdge_67 : decode cX5_takeEdge 67 = .ok (.iconst 2, 1) := by decide +kernel
theorem dX5_takeEdge_68 : decode cX5_takeEdge 68 = .ok (.iaload, 1) := by decide +kernel
theorem dX5_takeEdge_69 : decode cX5_takeEdge 69 = .ok (.invokevirtual 77, 3) := by decide +kernel
theorem dX5_takeEdge_72 : decode cX5_takeEdge 72 = .ok (.iconst 0, 1) := by decide +kernel
theorem dX5_takeEdge_73 : decode cX5_takeEdge 73 = .ok (.ireturn, 1) := by decide +kernel
set_option maxRecDepth 20000 in
theorem ggX5_takeAbort_X0_hasBlock : GoodIn wsX5_takeAbort wsX0_hasBlock := goodIn_r _ [7, 8, 37, 38, 39, 40, 41, 42, 43] (by decide +kernel) (by decide +kernel)
set_option maxRecDepth 20000 in
theorem gX5_takeAbort_X0_hasBlock : GoodIn wsX5_takeAbort (wsV RX5 66 RX0 yX0_hasBlock wsX0_hasBlock) := goodIn_app (goodIn_of _ (by decide +kernel)) ggX5_takeAbort_X0_hasBlock
set_option maxRecDepth 20000 in
theorem ggX5_takeAbort_X0_exit : GoodIn wsX5_takeAbort wsX0_exit := goodIn_r _ [12, 8, 37, 38, 39, 40, 41, 42, 43] (by decide +kernel) (by decide +kernel)
set_option maxRecDepth 20000 in
theorem gX5_takeAbort_X0_exit : GoodIn wsX5_takeAbort (wsV RX5 70 RX0 yX0_exit wsX0_exit) := goodIn_app (goodIn_of _ (by decide +kernel)) ggX5_takeAbort_X0_exit
set_option maxRecDepth 20000 in
theorem ggX5_takeAbort_X6_holds : GoodIn wsX5_takeAbort wsX6_holds := goodIn_r _ [15] (by decide +kernel) (by decide +kernel)
set_option maxRecDepth 20000 in
theorem gX5_takeAbort_X6_holds_n81 : GoodIn wsX5_takeAbort (wsX6_holds) := ggX5_takeAbort_X6_holds
set_option maxRecDepth 20000 in
theorem ggX5_takeAbort_X0_isFull : GoodIn wsX5_takeAbort wsX0_isFull := goodIn_r _ [19, 20, 37, 38, 39, 40, 41, 42, 43] (by decide +kernel) (by decide +kernel)
set_option maxRecDepth 20000 in
theorem gX5_takeAbort_X0_isFull : GoodIn wsX5_takeAbort (wsV RX5 73 RX0 yX0_isFull wsX0_isFull) := goodIn_app (goodIn_of _ (by decide +kernel)) ggX5_takeAbort_X0_isFull
set_option maxRecDepth 20000 in
theorem ggX5_takeAbort_X0_addEdge : GoodIn wsX5_takeAbort wsX0_addEdge := goodIn_r _ [24, 25, 20, 26, 27, 28, 29, 30, 17, 18, 6, 19, 31, 4, 5, 7, 8, 37, 38, 39, 40, 41, 42, 43] (by decide +kernel) (by decide +kernel)
set_option maxRecDepth 20000 in
theorem gX5_takeAbort_X0_addEdge : GoodIn wsX5_takeAbort (wsV RX5 77 RX0 yX0_addEdge wsX0_addEdge) := goodIn_app (goodIn_of _ (by decide +kernel)) ggX5_takeAbort_X0_addEdge
end
section
theorem dX5_takeAbort_0 : decode cX5_takeAbort 0 = .ok (.aload_n 0, 1) := by decide +kernel
theorem dX5_takeAbort_1 : decode cX5_takeAbort 1 = .ok (.getfield 11, 3) := by decide +kernel
theorem dX5_takeAbort_4 : decode cX5_takeAbort 4 = .ok (.iconst 0, 1) := by decide +kernel
theorem dX5_takeAbort_5 : decode cX5_takeAbort 5 = .ok (.iaload, 1) := by decide +kernel
theorem dX5_takeAbort_6 : decode cX5_takeAbort 6 = .ok (.istore_n 2, 1) := by decide +kernel
theorem dX5_takeAbort_7 : decode cX5_takeAbort 7 = .ok (.aload_n 1, 1) := by decide +kernel
theorem dX5_takeAbort_8 : decode cX5_takeAbort 8 = .ok (.iload_n 2, 1) := by decide +kernel
theorem dX5_takeAbort_9 : decode cX5_takeAbort 9 = .ok (.invokevirtual 66, 3) := by decide +kernel
theorem dX5_takeAbort_12 : decode cX5_takeAbort 12 = .ok (.ifCond .eq 11, 3) := by decide +kernel
theorem dX5_takeAbort_15 : decode cX5_takeAbort 15 = .ok (.iload_n 2, 1) := by decide +kernel
theorem dX5_takeAbort_16 : decode cX5_takeAbort 16 = .ok (.aload_n 1, 1) := by decide +kernel
theorem dX5_takeAbort_17 : decode cX5_takeAbort 17 = .ok (.invokevirtual 70, 3) := by decide +kernel
theorem dX5_takeAbort_20 : decode cX5_takeAbort 20 = .ok (.if_icmp .ne 5, 3) := by decide +kernel
theorem dX5_takeAbort_23 : decode cX5_takeAbort 23 = .ok (.iconst 3, 1) := by decide +kernel
theorem dX5_takeAbort_24 : decode cX5_takeAbort 24 = .ok (.ireturn, 1) := by decide +kernel
theorem dX5_takeAbort_25 : decode cX5_takeAbort 25 = .ok (.aload_n 0, 1) := by decide +kernel
theorem dX5_takeAbort_26 : decode cX5_takeAbort 26 = .ok (.getfield 31, 3) := by decide +kernel
theorem dX5_takeAbort_29 : decode cX5_takeAbort 29 = .ok (.iload_n 2, 1) := by decide +kernel
theorem dX5_takeAbort_30 : decode cX5_takeAbort 30 = .ok (.invokestatic 81, 3) := by decide +kernel
theorem dX5_takeAbort_33 : decode cX5_takeAbort 33 = .ok (.ifCond .eq 5, 3) := by decide +kernel
theorem dX5_takeAbort_36 : decode cX5_takeAbort 36 = .ok (.iconst 4, 1) := by decide +kernel
theorem dX5_takeAbort_37 : decode cX5_takeAbort 37 = .ok (.ireturn, 1) := by decide +kernel
theorem dX5_takeAbort_38 : decode cX5_takeAbort 38 = .ok (.aload_n 1, 1) := by decide +kernel
theorem dX5_takeAbort_39 : decode cX5_takeAbort 39 = .ok (.invokevirtual 73, 3) := by decide +kernel
theorem dX5_takeAbort_42 : decode cX5_takeAbort 42 = .ok (.ifCond .eq 5, 3) := by decide +kernel
theorem dX5_takeAbort_45 : decode cX5_takeAbort 45 = .ok (.iconst 5, 1) := by decide +kernel
theorem dX5_takeAbort_46 : decode cX5_takeAbort 46 = .ok (.ireturn, 1) := by decide +kernel
theorem dX5_takeAbort_47 : decode cX5_takeAbort 47 = .ok (.aload_n 0, 1) := by decide +kernel
theorem dX5_takeAbort_48 : decode cX5_takeAbort 48 = .ok (.dup, 1) := by decide +kernel
theorem dX5_takeAbort_49 : decode cX5_takeAbort 49 = .ok (.getfield 31, 3) := by decide +kernel
theorem dX5_takeAbort_52 : decode cX5_takeAbort 52 = .ok (.iconst 1, 1) := by decide +kernel
theorem dX5_takeAbort_53 : decode cX5_takeAbort 53 = .ok (.iload_n 2, 1) := by decide +kernel
theorem dX5_takeAbort_54 : decode cX5_takeAbort 54 = .ok (.ishl, 1) := by decide +kernel
theorem dX5_takeAbort_55 : decode cX5_takeAbort 55 = .ok (.ior, 1) := by decide +kernel
theorem dX5_takeAbort_56 : decode cX5_takeAbort 56 = .ok (.putfield 31, 3) := by decide +kernel
theorem dX5_takeAbort_59 : decode cX5_takeAbort 59 = .ok (.aload_n 1, 1) := by decide +kernel
theorem dX5_takeAbort_60 : decode cX5_takeAbort 60 = .ok (.iload_n 2, 1) := by decide +kernel
theorem dX5_takeAbort_61 : decode cX5_takeAbort 61 = .ok (.aload_n 1, 1) := by decide +kernel
theorem dX5_takeAbort_62 : decode cX5_takeAbort 62 = .ok (.invokevirtual 70, 3) := by decide +kernel
theorem dX5_takeAbort_65 : decode cX5_takeAbort 65 = .ok (.iconst 0, 1) := by decide +kernel
theorem dX5_takeAbort_66 : decode cX5_takeAbort 66 = .ok (.invokevirtual 77, 3) := by decide +kernel
theorem dX5_takeAbort_69 : decode cX5_takeAbort 69 = .ok (.iconst 0, 1) := by decide +kernel
theorem dX5_takeAbort_70 : decode cX5_takeAbort 70 = .ok (.ireturn, 1) := by decide +kernel
set_option maxRecDepth 20000 in
theorem ggX6_init_X1_init : GoodIn wsX6_init wsX1_init := goodIn_r _ [30, 31, 2, 3, 32, 33, 291, 292] (by decide +kernel) (by decide +kernel)
set_option maxRecDepth 20000 in
theorem gX6_init_X1_init_n9 : GoodIn wsX6_init (wsX1_init) := ggX6_init_X1_init
set_option maxRecDepth 20000 in
theorem ggX6_init_X5_init : GoodIn wsX6_init wsX5_init := goodIn_r _ [35, 36, 2, 3, 37, 38, 300, 301, 302, 303, 304] (by decide +kernel) (by decide +kernel)
set_option maxRecDepth 20000 in
theorem gX6_init_X5_init_n18 : GoodIn wsX6_init (wsX5_init) := ggX6_init_X5_init
set_option maxRecDepth 20000 in
theorem ggX6_init_X3_init : GoodIn wsX6_init wsX3_init := goodIn_r _ [40, 41, 2, 3, 37, 42, 43, 305, 306, 307] (by decide +kernel) (by decide +kernel)
set_option maxRecDepth 20000 in
theorem gX6_init_X3_init_n25 : GoodIn wsX6_init (wsX3_init) := ggX6_init_X3_init
set_option maxRecDepth 20000 in
theorem ggX6_init_X4_init : GoodIn wsX6_init wsX4_init := goodIn_r _ [45, 46, 2, 3, 37, 47, 48, 308, 309, 310, 311, 312] (by decide +kernel) (by decide +kernel)
set_option maxRecDepth 20000 in
theorem gX6_init_X4_init_n32 : GoodIn wsX6_init (wsX4_init) := ggX6_init_X4_init
set_option maxRecDepth 20000 in
theorem ggX6_init_X2_init : GoodIn wsX6_init wsX2_init := goodIn_r _ [51, 52, 2, 3, 53, 54, 55, 56, 13, 14, 17, 18, 39, 40, 41, 37, 42, 43, 44, 45, 46, 47, 48, 313, 314, 315, 316, 305, 306, 307, 308, 309, 310, 311, 312] (by decide +kernel) (by decide +kernel)
set_option maxRecDepth 20000 in
theorem gX6_init_X2_init : GoodIn wsX6_init (wsX2_init) := ggX6_init_X2_init
set_option maxRecDepth 20000 in
theorem ggX6_init_X0_init : GoodIn wsX6_init wsX0_init := goodIn_r _ [58, 59, 2, 3, 37, 60, 61, 62, 63, 64, 65, 317, 318, 319, 320, 321, 322, 323] (by decide +kernel) (by decide +kernel)
set_option maxRecDepth 20000 in
theorem gX6_init_X0_init_n46 : GoodIn wsX6_init (wsX0_init) := ggX6_init_X0_init
set_option maxRecDepth 20000 in
theorem ggX6_init_J0_length_8abf5 : GoodIn wsX6_init wsJ0_length_8abf5 := goodIn_r _ [70, 71, 72, 73, 74, 69, 75, 76, 77] (by decide +kernel) (by decide +kernel)
set_option maxRecDepth 20000 in
theorem gX6_init_J0_length_8abf5 : GoodIn wsX6_init (wsV RX6 56 RJ0 yJ0_length_8abf5 wsJ0_length_8abf5) := goodIn_app (goodIn_of _ (by decide +kernel)) ggX6_init_J0_length_8abf5
set_option maxRecDepth 20000 in
theorem ggX6_init_J0_charAt_5068e : GoodIn wsX6_init wsJ0_charAt_5068e := goodIn_r _ [81, 71, 82, 83, 84, 69, 85, 76, 77, 86, 87, 88, 89, 90, 91, 92, 93, 94, 95, 96, 97, 98, 99, 100, 101, 102, 103, 104, 105, 106, 107, 108, 109, 110, 111, 112, 113, 114] (by decide +kernel) (by decide +kernel)
set_option maxRecDepth 20000 in
theorem gX6_init_J0_charAt_5068e : GoodIn wsX6_init (wsV RX6 62 RJ0 yJ0_charAt_5068e wsJ0_charAt_5068e) := goodIn_app (goodIn_of _ (by decide +kernel)) ggX6_init_J0_charAt_5068e
set_option maxRecDepth 20000 in
theorem ggX6_init_X1_add : GoodIn wsX6_init wsX1_add := goodIn_r _ [118, 33, 119, 120, 121, 122, 6, 123, 291, 292] (by decide +kernel) (by decide +kernel)
set_option maxRecDepth 20000 in
theorem gX6_init_X1_add : GoodIn wsX6_init (wsV RX6 66 RX1 yX1_add wsX1_add) := goodIn_app (goodIn_of _ (by decide +kernel)) ggX6_init_X1_add
set_option maxRecDepth 20000 in
theorem ggX6_init_X6_configure : GoodIn wsX6_init wsX6_configure := goodIn_r _ [128, 11, 7, 28, 15, 27, 19, 23, 129, 130, 131, 10, 132, 133, 134, 135, 136, 137, 138, 139, 26, 140, 141, 142, 65, 143, 144, 145, 6, 146, 119, 147, 148, 149, 150, 151, 152, 153, 154, 33, 155, 156, 157, 158, 38, 159, 160, 161, 162, 163, 164, 165, 166, 167, 168, 169, 170, 171, 172, 173, 174, 175, 176, 177, 178, 179, 180, 181, 182, 183, 184, 185, 186, 60, 61, 62, 64, 187, 188, 189, 190, 191, 192, 193, 127, 194, 195, 196, 197, 198, 199, 200, 201, 202, 203, 204, 205, 206, 207, 208, 209, 210, 211, 212, 213, 214, 215, 216, 217, 218, 219, 220, 221, 222, 223, 224, 225, 226, 227, 228, 229, 230, 231, 232, 233, 234, 235, 14, 236, 42, 237, 238, 239, 240, 241, 242, 243, 244, 245, 246, 247, 248, 249, 250, 251, 252, 253, 254, 255, 256, 257, 258, 259, 260, 261, 262, 263, 264, 43, 265, 266, 267, 268, 269, 270, 271, 18, 272, 273, 274, 275, 276, 277, 278, 47, 48, 279, 280, 281, 282, 283, 22, 284, 285, 286, 293, 294, 295, 296, 297, 298, 299, 300, 301, 302, 303, 304, 317, 318, 319, 320, 321, 322, 323, 291, 292, 305, 306, 307, 308, 309, 310, 311, 312, 313, 314, 315, 316] (by decide +kernel) (by decide +kernel)
set_option maxRecDepth 20000 in
theorem gX6_init_X6_configure : GoodIn wsX6_init (wsV RX6 70 RX6 yX6_configure wsX6_configure) := goodIn_app (goodIn_of _ (by decide +kernel)) ggX6_init_X6_configure
set_option maxRecDepth 20000 in
theorem ggX6_init_X1_clear : GoodIn wsX6_init wsX1_clear := goodIn_r _ [290, 119, 291, 292] (by decide +kernel) (by decide +kernel)
set_option maxRecDepth 20000 in
theorem gX6_init_X1_clear : GoodIn wsX6_init (wsV RX6 73 RX1 yX1_clear wsX1_clear) := goodIn_app (goodIn_of _ (by decide +kernel)) ggX6_init_X1_clear
theorem dX6_init_0 : decode cX6_init 0 = .ok (.aload_n 0, 1) := by decide +kernel
theorem dX6_init_1 : decode cX6_init 1 = .ok (.invokespecial 1, 3) := by decide +kernel
theorem dX6_init_4 : decode cX6_init 4 = .ok (.aload_n 0, 1) := by decide +kernel
theorem dX6_init_5 : decode cX6_init 5 = .ok (.new 7, 3) := by decide +kernel
theorem dX6_init_8 : decode cX6_init 8 = .ok (.dup, 1) := by decide +kernel
theorem dX6_init_9 : decode cX6_init 9 = .ok (.invokespecial 9, 3) := by decide +kernel
theorem dX6_init_12 : decode cX6_init 12 = .ok (.putfield 10, 3) := by decide +kernel
theorem dX6_init_15 : decode cX6_init 15 = .ok (.aload_n 0, 1) := by decide +kernel
theorem dX6_init_16 : decode cX6_init 16 = .ok (.new 16, 3) := by decide +kernel
theorem dX6_init_19 : decode cX6_init 19 = .ok (.dup, 1) := by decide +kernel
theorem dX6_init_20 : decode cX6_init 20 = .ok (.invokespecial 18, 3) := by decide +kernel
theorem dX6_init_23 : decode cX6_init 23 = .ok (.putfield 19, 3) := by decide +kernel
theorem dX6_init_26 : decode cX6_init 26 = .ok (.aload_n 0, 1) := by decide +kernel
theorem dX6_init_27 : decode cX6_init 27 = .ok (.new 23, 3) := by decide +kernel
theorem dX6_init_30 : decode cX6_init 30 = .ok (.dup, 1) := by decide +kernel
theorem dX6_init_31 : decode cX6_init 31 = .ok (.invokespecial 25, 3) := by decide +kernel
theorem dX6_init_34 : decode cX6_init 34 = .ok (.putfield 26, 3) := by decide +kernel
theorem dX6_init_37 : decode cX6_init 37 = .ok (.aload_n 0, 1) := by decide +kernel
theorem dX6_init_38 : decode cX6_init 38 = .ok (.new 30, 3) := by decide +kernel
theorem dX6_init_41 : decode cX6_init 41 = .ok (.dup, 1) := by decide +kernel
theorem dX6_init_42 : decode cX6_init 42 = .ok (.invokespecial 32, 3) := by decide +kernel
theorem dX6_init_45 : decode cX6_init 45 = .ok (.putfield 33, 3) := by decide +kernel
theorem dX6_init_48 : decode cX6_init 48 = .ok (.aload_n 0, 1) := by decide +kernel
theorem dX6_init_49 : decode cX6_init 49 = .ok (.new 37, 3) := by decide +kernel
theorem dX6_init_52 : decode cX6_init 52 = .ok (.dup, 1) := by decide +kernel
theorem dX6_init_53 : decode cX6_init 53 = .ok (.invokespecial 39, 3) := by decide +kernel
theorem dX6_init_56 : decode cX6_init 56 = .ok (.putfield 40, 3) := by decide +kernel
theorem dX6_init_59 : decode cX6_init 59 = .ok (.aload_n 0, 1) := by decide +kernel
theorem dX6_init_60 : decode cX6_init 60 = .ok (.new 44, 3) := by decide +kernel
theorem dX6_init_63 : decode cX6_init 63 = .ok (.dup, 1) := by decide +kernel
theorem dX6_init_64 : decode cX6_init 64 = .ok (.invokespecial 46, 3) := by decide +kernel
theorem dX6_init_67 : decode cX6_init 67 = .ok (.putfield 47, 3) := by decide +kernel
theorem dX6_init_70 : decode cX6_init 70 = .ok (.aload_n 0, 1) := by decide +kernel
theorem dX6_init_71 : decode cX6_init 71 = .ok (.new 44, 3) := by decide +kernel
theorem dX6_init_74 : decode cX6_init 74 = .ok (.dup, 1) := by decide +kernel
theorem dX6_init_75 : decode cX6_init 75 = .ok (.invokespecial 46, 3) := by decide +kernel
theorem dX6_init_78 : decode cX6_init 78 = .ok (.putfield 51, 3) := by decide +kernel
theorem dX6_init_81 : decode cX6_init 81 = .ok (.iconst 0, 1) := by decide +kernel
theorem dX6_init_82 : decode cX6_init 82 = .ok (.istore_n 1, 1) := by decide +kernel
theorem dX6_init_83 : decode cX6_init 83 = .ok (.iload_n 1, 1) := by decide +kernel
theorem dX6_init_84 : decode cX6_init 84 = .ok (.ldc 54, 2) := by decide +kernel
theorem dX6_init_86 : decode cX6_init 86 = .ok (.invokevirtual 56, 3) := by decide +kernel
theorem dX6_init_89 : decode cX6_init 89 = .ok (.if_icmp .ge 22, 3) := by decide +kernel
theorem dX6_init_92 : decode cX6_init 92 = .ok (.aload_n 0, 1) := by decide +kernel
theorem dX6_init_93 : decode cX6_init 93 = .ok (.getfield 10, 3) := by decide +kernel
theorem dX6_init_96 : decode cX6_init 96 = .ok (.ldc 54, 2) := by decide +kernel
theorem dX6_init_98 : decode cX6_init 98 = .ok (.iload_n 1, 1) := by decide +kernel
theorem dX6_init_99 : decode cX6_init 99 = .ok (.invokevirtual 62, 3) := by decide +kernel
theorem dX6_init_102 : decode cX6_init 102 = .ok (.invokevirtual 66, 3) := by decide +kernel
theorem dX6_init_105 : decode cX6_init 105 = .ok (.iinc 1 1, 3) := by decide +kernel
theorem dX6_init_108 : decode cX6_init 108 = .ok (.goto (-25), 3) := by decide +kernel
theorem dX6_init_111 : decode cX6_init 111 = .ok (.aload_n 0, 1) := by decide +kernel
theorem dX6_init_112 : decode cX6_init 112 = .ok (.invokevirtual 70, 3) := by decide +kernel
theorem dX6_init_115 : decode cX6_init 115 = .ok (.pop, 1) := by decide +kernel
theorem dX6_init_116 : decode cX6_init 116 = .ok (.aload_n 0, 1) := by decide +kernel
theorem dX6_init_117 : decode cX6_init 117 = .ok (.getfield 10, 3) := by decide +kernel
theorem dX6_init_120 : decode cX6_init 120 = .ok (.invokevirtual 73, 3) := by decide +kernel
theorem dX6_init_123 : decode cX6_init 123 = .ok (.return_, 1) := by decide +kernel
set_option maxRecDepth 20000 in
theorem ggX6_append_X1_isFull : GoodIn wsX6_append wsX1_isFull := goodIn_r _ [6, 7, 25, 26] (by decide +kernel) (by decide +kernel)
set_option maxRecDepth 20000 in
theorem gX6_append_X1_isFull : GoodIn wsX6_append (wsV RX6 76 RX1 yX1_isFull wsX1_isFull) := goodIn_app (goodIn_of _ (by decide +kernel)) ggX6_append_X1_isFull
set_option maxRecDepth 20000 in
theorem ggX6_append_X1_add : GoodIn wsX6_append wsX1_add := goodIn_r _ [11, 12, 7, 13, 3, 4, 5, 6, 25, 26] (by decide +kernel) (by decide +kernel)
set_option maxRecDepth 20000 in
theorem gX6_append_X1_add : GoodIn wsX6_append (wsV RX6 66 RX1 yX1_add wsX1_add) := goodIn_app (goodIn_of _ (by decide +kernel)) ggX6_append_X1_add
set_option maxRecDepth 20000 in
theorem ggX6_append_X1_length : GoodIn wsX6_append wsX1_length := goodIn_r _ [17, 7, 25, 26] (by decide +kernel) (by decide +kernel)
set_option maxRecDepth 20000 in
theorem gX6_append_X1_length : GoodIn wsX6_append (wsV RX6 80 RX1 yX1_length wsX1_length) := goodIn_app (goodIn_of _ (by decide +kernel)) ggX6_append_X1_length
theorem dX6_append_0 : decode cX6_append 0 = .ok (.iload_n 1, 1) := by decide +kernel
theorem dX6_append_1 : decode cX6_append 1 = .ok (.bipush 32, 2) := by decide +kernel
theorem dX6_append_3 : decode cX6_append 3 = .ok (.if_icmp .lt 9, 3) := by decide +kernel
theorem dX6_append_6 : decode cX6_append 6 = .ok (.iload_n 1, 1) := by decide +kernel
theorem dX6_append_7 : decode cX6_append 7 = .ok (.bipush 126, 2) := by decide +kernel
theorem dX6_append_9 : decode cX6_append 9 = .ok (.if_icmp .le 6, 3) := by decide +kernel
theorem dX6_append_12 : decode cX6_append 12 = .ok (.bipush (-101), 2) := by decide +kernel
theorem dX6_append_14 : decode cX6_append 14 = .ok (.ireturn, 1) := by decide +kernel
theorem dX6_append_15 : decode cX6_append 15 = .ok (.aload_n 0, 1) := by decide +kernel
theorem dX6_append_16 : decode cX6_append 16 = .ok (.getfield 10, 3) := by decide +kernel
theorem dX6_append_19 : decode cX6_append 19 = .ok (.invokevirtual 76, 3) := by decide +kernel
theorem dX6_append_22 : decode cX6_append 22 = .ok (.ifCond .eq 6, 3) := by decide +kernel
theorem dX6_append_25 : decode cX6_append 25 = .ok (.bipush (-103), 2) := by decide +kernel
theorem dX6_append_27 : decode cX6_append 27 = .ok (.ireturn, 1) := by decide +kernel
theorem dX6_append_28 : decode cX6_append 28 = .ok (.aload_n 0, 1) := by decide +kernel
theorem dX6_append_29 : decode cX6_append 29 = .ok (.getfield 10, 3) := by decide +kernel
theorem dX6_append_32 : decode cX6_append 32 = .ok (.iload_n 1, 1) := by decide +kernel
theorem dX6_append_33 : decode cX6_append 33 = .ok (.i2c, 1) := by decide +kernel
theorem dX6_append_34 : decode cX6_append 34 = .ok (.invokevirtual 66, 3) := by decide +kernel
theorem dX6_append_37 : decode cX6_append 37 = .ok (.aload_n 0, 1) := by decide +kernel
theorem dX6_append_38 : decode cX6_append 38 = .ok (.getfield 10, 3) := by decide +kernel
theorem dX6_append_41 : decode cX6_append 41 = .ok (.invokevirtual 80, 3) := by decide +kernel
theorem dX6_append_44 : decode cX6_append 44 = .ok (.ireturn, 1) := by decide +kernel
set_option maxRecDepth 20000 in
theorem ggX6_clearText_X1_length : GoodIn wsX6_clearText wsX1_length := goodIn_r _ [6, 7, 19, 20] (by decide +kernel) (by decide +kernel)
set_option maxRecDepth 20000 in
theorem gX6_clearText_X1_length : GoodIn wsX6_clearText (wsV RX6 80 RX1 yX1_length wsX1_length) := goodIn_app (goodIn_of _ (by decide +kernel)) ggX6_clearText_X1_length
set_option maxRecDepth 20000 in
theorem ggX6_clearText_X1_clear : GoodIn wsX6_clearText wsX1_clear := goodIn_r _ [11, 7, 19, 20] (by decide +kernel) (by decide +kernel)
set_option maxRecDepth 20000 in
theorem gX6_clearText_X1_clear : GoodIn wsX6_clearText (wsV RX6 73 RX1 yX1_clear wsX1_clear) := goodIn_app (goodIn_of _ (by decide +kernel)) ggX6_clearText_X1_clear
theorem dX6_clearText_0 : decode cX6_clearText 0 = .ok (.aload_n 0, 1) := by decide +kernel
theorem dX6_clearText_1 : decode cX6_clearText 1 = .ok (.getfield 10, 3) := by decide +kernel
theorem dX6_clearText_4 : decode cX6_clearText 4 = .ok (.invokevirtual 80, 3) := by decide +kernel
theorem dX6_clearText_7 : decode cX6_clearText 7 = .ok (.istore_n 1, 1) := by decide +kernel
theorem dX6_clearText_8 : decode cX6_clearText 8 = .ok (.aload_n 0, 1) := by decide +kernel
theorem dX6_clearText_9 : decode cX6_clearText 9 = .ok (.getfield 10, 3) := by decide +kernel
theorem dX6_clearText_12 : decode cX6_clearText 12 = .ok (.invokevirtual 73, 3) := by decide +kernel
theorem dX6_clearText_15 : decode cX6_clearText 15 = .ok (.iload_n 1, 1) := by decide +kernel
theorem dX6_clearText_16 : decode cX6_clearText 16 = .ok (.ireturn, 1) := by decide +kernel
set_option maxRecDepth 20000 in
theorem ggX6_firstError_X5_read : GoodIn wsX6_firstError wsX5_read := goodIn_r _ [8, 9, 10, 11, 12, 13, 14, 15, 16, 17, 18, 19, 20, 21, 22, 23, 24, 25, 26, 27, 28, 29, 7, 30, 31, 32, 33, 34, 35, 36, 37, 38, 39, 40, 41, 42, 43, 44, 45, 46, 47, 48, 49, 50, 51, 52, 53, 54, 55, 56, 57, 58, 59, 60, 61, 62, 63, 64, 65, 66, 67, 68, 69, 70, 71, 72, 73, 74, 75, 76, 77, 78, 79, 80, 81, 97, 98, 99, 100, 101, 102, 103, 104, 105, 106, 107, 108, 109, 110] (by decide +kernel) (by decide +kernel)
set_option maxRecDepth 20000 in
theorem gX6_firstError_X5_read : GoodIn wsX6_firstError (wsV RX6 81 RX5 yX5_read wsX5_read) := goodIn_app (goodIn_of _ (by decide +kernel)) ggX6_firstError_X5_read
set_option maxRecDepth 20000 in
theorem ggX6_firstError_X5_reason : GoodIn wsX6_firstError wsX5_reason := goodIn_r _ [85, 11, 97, 98, 99, 100, 101] (by decide +kernel) (by decide +kernel)
set_option maxRecDepth 20000 in
theorem gX6_firstError_X5_reason : GoodIn wsX6_firstError (wsV RX6 85 RX5 yX5_reason wsX5_reason) := goodIn_app (goodIn_of _ (by decide +kernel)) ggX6_firstError_X5_reason
set_option maxRecDepth 20000 in
theorem ggX6_firstError_X5_errorPlace : GoodIn wsX6_firstError wsX5_errorPlace := goodIn_r _ [89, 12, 97, 98, 99, 100, 101] (by decide +kernel) (by decide +kernel)
set_option maxRecDepth 20000 in
theorem gX6_firstError_X5_errorPlace : GoodIn wsX6_firstError (wsV RX6 88 RX5 yX5_errorPlace wsX5_errorPlace) := goodIn_app (goodIn_of _ (by decide +kernel)) ggX6_firstError_X5_errorPlace
theorem dX6_firstError_0 : decode cX6_firstError 0 = .ok (.aload_n 0, 1) := by decide +kernel
theorem dX6_firstError_1 : decode cX6_firstError 1 = .ok (.getfield 19, 3) := by decide +kernel
theorem dX6_firstError_4 : decode cX6_firstError 4 = .ok (.aload_n 0, 1) := by decide +kernel
theorem dX6_firstError_5 : decode cX6_firstError 5 = .ok (.getfield 10, 3) := by decide +kernel
theorem dX6_firstError_8 : decode cX6_firstError 8 = .ok (.aload_n 0, 1) := by decide +kernel
theorem dX6_firstError_9 : decode cX6_firstError 9 = .ok (.getfield 51, 3) := by decide +kernel
theorem dX6_firstError_12 : decode cX6_firstError 12 = .ok (.invokevirtual 81, 3) := by decide +kernel
theorem dX6_firstError_15 : decode cX6_firstError 15 = .ok (.aload_n 0, 1) := by decide +kernel
theorem dX6_firstError_16 : decode cX6_firstError 16 = .ok (.getfield 19, 3) := by decide +kernel
theorem dX6_firstError_19 : decode cX6_firstError 19 = .ok (.invokevirtual 85, 3) := by decide +kernel
theorem dX6_firstError_22 : decode cX6_firstError 22 = .ok (.ifCond .ne 8, 3) := by decide +kernel
theorem dX6_firstError_25 : decode cX6_firstError 25 = .ok (.bipush (-104), 2) := by decide +kernel
theorem dX6_firstError_27 : decode cX6_firstError 27 = .ok (.goto 10, 3) := by decide +kernel
theorem dX6_firstError_30 : decode cX6_firstError 30 = .ok (.aload_n 0, 1) := by decide +kernel
theorem dX6_firstError_31 : decode cX6_firstError 31 = .ok (.getfield 19, 3) := by decide +kernel
theorem dX6_firstError_34 : decode cX6_firstError 34 = .ok (.invokevirtual 88, 3) := by decide +kernel
theorem dX6_firstError_37 : decode cX6_firstError 37 = .ok (.ireturn, 1) := by decide +kernel
set_option maxRecDepth 20000 in
theorem ggX6_errorReason_X5_read : GoodIn wsX6_errorReason wsX5_read := goodIn_r _ [8, 9, 10, 11, 12, 13, 14, 15, 16, 17, 18, 19, 20, 21, 22, 23, 24, 25, 26, 27, 28, 29, 7, 30, 31, 32, 33, 34, 35, 36, 37, 38, 39, 40, 41, 42, 43, 44, 45, 46, 47, 48, 49, 50, 51, 52, 53, 54, 55, 56, 57, 58, 59, 60, 61, 62, 63, 64, 65, 66, 67, 68, 69, 70, 71, 72, 73, 74, 75, 76, 77, 78, 79, 80, 81, 93, 94, 95, 96, 97, 98, 99, 100, 101, 102, 103, 104, 105, 106] (by decide +kernel) (by decide +kernel)
set_option maxRecDepth 20000 in
theorem gX6_errorReason_X5_read : GoodIn wsX6_errorReason (wsV RX6 81 RX5 yX5_read wsX5_read) := goodIn_app (goodIn_of _ (by decide +kernel)) ggX6_errorReason_X5_read
set_option maxRecDepth 20000 in
theorem ggX6_errorReason_X5_reason : GoodIn wsX6_errorReason wsX5_reason := goodIn_r _ [85, 11, 93, 94, 95, 96, 97] (by decide +kernel) (by decide +kernel)
set_option maxRecDepth 20000 in
theorem gX6_errorReason_X5_reason : GoodIn wsX6_errorReason (wsV RX6 85 RX5 yX5_reason wsX5_reason) := goodIn_app (goodIn_of _ (by decide +kernel)) ggX6_errorReason_X5_reason
theorem dX6_errorReason_0 : decode cX6_errorReason 0 = .ok (.aload_n 0, 1) := by decide +kernel
theorem dX6_errorReason_1 : decode cX6_errorReason 1 = .ok (.getfield 19, 3) := by decide +kernel
theorem dX6_errorReason_4 : decode cX6_errorReason 4 = .ok (.aload_n 0, 1) := by decide +kernel
theorem dX6_errorReason_5 : decode cX6_errorReason 5 = .ok (.getfield 10, 3) := by decide +kernel
theorem dX6_errorReason_8 : decode cX6_errorReason 8 = .ok (.aload_n 0, 1) := by decide +kernel
theorem dX6_errorReason_9 : decode cX6_errorReason 9 = .ok (.getfield 51, 3) := by decide +kernel
theorem dX6_errorReason_12 : decode cX6_errorReason 12 = .ok (.invokevirtual 81, 3) := by decide +kernel
theorem dX6_errorReason_15 : decode cX6_errorReason 15 = .ok (.aload_n 0, 1) := by decide +kernel
theorem dX6_errorReason_16 : decode cX6_errorReason 16 = .ok (.getfield 19, 3) := by decide +kernel
theorem dX6_errorReason_19 : decode cX6_errorReason 19 = .ok (.invokevirtual 85, 3) := by decide +kernel
theorem dX6_errorReason_22 : decode cX6_errorReason 22 = .ok (.ifCond .ne 8, 3) := by decide +kernel
theorem dX6_errorReason_25 : decode cX6_errorReason 25 = .ok (.bipush (-104), 2) := by decide +kernel
theorem dX6_errorReason_27 : decode cX6_errorReason 27 = .ok (.goto 10, 3) := by decide +kernel
theorem dX6_errorReason_30 : decode cX6_errorReason 30 = .ok (.aload_n 0, 1) := by decide +kernel
theorem dX6_errorReason_31 : decode cX6_errorReason 31 = .ok (.getfield 19, 3) := by decide +kernel
theorem dX6_errorReason_34 : decode cX6_errorReason 34 = .ok (.invokevirtual 85, 3) := by decide +kernel
theorem dX6_errorReason_37 : decode cX6_errorReason 37 = .ok (.ireturn, 1) := by decide +kernel
set_option maxRecDepth 20000 in
theorem ggX6_configure_X5_read : GoodIn wsX6_configure wsX5_read := goodIn_r _ [12, 13, 14, 15, 16, 17, 18, 19, 20, 21, 22, 23, 24, 25, 26, 27, 28, 29, 30, 31, 32, 33, 11, 34, 35, 36, 37, 38, 39, 40, 41, 42, 43, 44, 45, 46, 47, 48, 49, 50, 51, 52, 53, 54, 55, 56, 57, 58, 59, 60, 61, 62, 63, 64, 65, 66, 67, 68, 69, 70, 71, 72, 73, 74, 75, 76, 77, 78, 79, 80, 81, 82, 83, 84, 85, 192, 193, 194, 195, 196, 197, 198, 199, 200, 201, 202, 203, 204, 205] (by decide +kernel) (by decide +kernel)
set_option maxRecDepth 20000 in
theorem gX6_configure_X5_read : GoodIn wsX6_configure (wsV RX6 81 RX5 yX5_read wsX5_read) := goodIn_app (goodIn_of _ (by decide +kernel)) ggX6_configure_X5_read
set_option maxRecDepth 20000 in
theorem ggX6_configure_X5_reason : GoodIn wsX6_configure wsX5_reason := goodIn_r _ [89, 15, 192, 193, 194, 195, 196] (by decide +kernel) (by decide +kernel)
set_option maxRecDepth 20000 in
theorem gX6_configure_X5_reason : GoodIn wsX6_configure (wsV RX6 85 RX5 yX5_reason wsX5_reason) := goodIn_app (goodIn_of _ (by decide +kernel)) ggX6_configure_X5_reason
set_option maxRecDepth 20000 in
theorem ggX6_configure_X1_length : GoodIn wsX6_configure wsX1_length := goodIn_r _ [29, 30, 204, 205] (by decide +kernel) (by decide +kernel)
set_option maxRecDepth 20000 in
theorem gX6_configure_X1_length : GoodIn wsX6_configure (wsV RX6 80 RX1 yX1_length wsX1_length) := goodIn_app (goodIn_of _ (by decide +kernel)) ggX6_configure_X1_length
set_option maxRecDepth 20000 in
theorem ggX6_configure_X0_isComplete : GoodIn wsX6_configure wsX0_isComplete := goodIn_r _ [94, 22, 23, 95, 62, 63, 20, 64, 96, 97, 98, 99, 24, 78, 58, 59, 60, 100, 101, 102, 103, 104, 105, 106, 107, 83, 84, 85, 108, 109, 110, 111, 73, 112, 113, 114, 115, 116, 117, 118, 119, 74, 197, 198, 199, 200, 201, 202, 203] (by decide +kernel) (by decide +kernel)
set_option maxRecDepth 20000 in
theorem gX6_configure_X0_isComplete : GoodIn wsX6_configure (wsV RX6 91 RX0 yX0_isComplete wsX0_isComplete) := goodIn_app (goodIn_of _ (by decide +kernel)) ggX6_configure_X0_isComplete
set_option maxRecDepth 20000 in
theorem ggX6_configure_X6_takeDraft : GoodIn wsX6_configure wsX6_takeDraft := goodIn_r _ [123, 3, 5, 185, 186, 187, 188, 189, 190, 191] (by decide +kernel) (by decide +kernel)
set_option maxRecDepth 20000 in
theorem gX6_configure_X6_takeDraft : GoodIn wsX6_configure (wsV RX6 94 RX6 yX6_takeDraft wsX6_takeDraft) := goodIn_app (goodIn_of _ (by decide +kernel)) ggX6_configure_X6_takeDraft
set_option maxRecDepth 20000 in
theorem ggX6_configure_X3_begin : GoodIn wsX6_configure wsX3_begin := goodIn_r _ [128, 129, 130, 131, 132, 20, 133, 75, 112, 113, 114, 115, 23, 134, 135, 136, 127, 137, 138, 139, 140, 141, 142, 143, 144, 145, 146, 83, 84, 85, 147, 148, 149, 150, 151, 109, 110, 111, 73, 152, 101, 102, 103, 22, 95, 62, 63, 64, 104, 105, 106, 107, 108, 116, 117, 118, 119, 74, 153, 154, 155, 156, 157, 158, 159, 160, 161, 162, 206, 207, 208, 197, 198, 199, 200, 201, 202, 203] (by decide +kernel) (by decide +kernel)
set_option maxRecDepth 20000 in
theorem gX6_configure_X3_begin : GoodIn wsX6_configure (wsV RX6 97 RX3 yX3_begin wsX3_begin) := goodIn_app (goodIn_of _ (by decide +kernel)) ggX6_configure_X3_begin
set_option maxRecDepth 20000 in
theorem ggX6_configure_X4_begin : GoodIn wsX6_configure wsX4_begin := goodIn_r _ [167, 168, 169, 170, 171, 172, 166, 173, 174, 175, 176, 177, 209, 210, 211, 212, 213] (by decide +kernel) (by decide +kernel)
set_option maxRecDepth 20000 in
theorem gX6_configure_X4_begin : GoodIn wsX6_configure (wsV RX6 101 RX4 yX4_begin wsX4_begin) := goodIn_app (goodIn_of _ (by decide +kernel)) ggX6_configure_X4_begin
set_option maxRecDepth 20000 in
theorem ggX6_configure_X2_forget : GoodIn wsX6_configure wsX2_forget := goodIn_r _ [182, 183, 214, 215, 216, 217] (by decide +kernel) (by decide +kernel)
set_option maxRecDepth 20000 in
theorem gX6_configure_X2_forget : GoodIn wsX6_configure (wsV RX6 103 RX2 yX2_forget wsX2_forget) := goodIn_app (goodIn_of _ (by decide +kernel)) ggX6_configure_X2_forget
set_option maxRecDepth 20000 in
theorem ggX6_configure_X0_edges : GoodIn wsX6_configure wsX0_edges := goodIn_r _ [142, 23, 197, 198, 199, 200, 201, 202, 203] (by decide +kernel) (by decide +kernel)
set_option maxRecDepth 20000 in
theorem gX6_configure_X0_edges : GoodIn wsX6_configure (wsV RX6 106 RX0 yX0_edges wsX0_edges) := goodIn_app (goodIn_of _ (by decide +kernel)) ggX6_configure_X0_edges
theorem dX6_configure_0 : decode cX6_configure 0 = .ok (.aload_n 0, 1) := by decide +kernel
theorem dX6_configure_1 : decode cX6_configure 1 = .ok (.getfield 19, 3) := by decide +kernel
theorem dX6_configure_4 : decode cX6_configure 4 = .ok (.aload_n 0, 1) := by decide +kernel
theorem dX6_configure_5 : decode cX6_configure 5 = .ok (.getfield 10, 3) := by decide +kernel
theorem dX6_configure_8 : decode cX6_configure 8 = .ok (.aload_n 0, 1) := by decide +kernel
theorem dX6_configure_9 : decode cX6_configure 9 = .ok (.getfield 51, 3) := by decide +kernel
theorem dX6_configure_12 : decode cX6_configure 12 = .ok (.invokevirtual 81, 3) := by decide +kernel
theorem dX6_configure_15 : decode cX6_configure 15 = .ok (.aload_n 0, 1) := by decide +kernel
theorem dX6_configure_16 : decode cX6_configure 16 = .ok (.getfield 19, 3) := by decide +kernel
theorem dX6_configure_19 : decode cX6_configure 19 = .ok (.invokevirtual 85, 3) := by decide +kernel
theorem dX6_configure_22 : decode cX6_configure 22 = .ok (.ifCond .ne 23, 3) := by decide +kernel
theorem dX6_configure_25 : decode cX6_configure 25 = .ok (.aload_n 0, 1) := by decide +kernel
theorem dX6_configure_26 : decode cX6_configure 26 = .ok (.getfield 10, 3) := by decide +kernel
theorem dX6_configure_29 : decode cX6_configure 29 = .ok (.invokevirtual 80, 3) := by decide +kernel
theorem dX6_configure_32 : decode cX6_configure 32 = .ok (.ifCond .eq 13, 3) := by decide +kernel
theorem dX6_configure_35 : decode cX6_configure 35 = .ok (.aload_n 0, 1) := by decide +kernel
theorem dX6_configure_36 : decode cX6_configure 36 = .ok (.getfield 51, 3) := by decide +kernel
theorem dX6_configure_39 : decode cX6_configure 39 = .ok (.invokevirtual 91, 3) := by decide +kernel
theorem dX6_configure_42 : decode cX6_configure 42 = .ok (.ifCond .ne 6, 3) := by decide +kernel
theorem dX6_configure_45 : decode cX6_configure 45 = .ok (.bipush (-102), 2) := by decide +kernel
theorem dX6_configure_47 : decode cX6_configure 47 = .ok (.ireturn, 1) := by decide +kernel
theorem dX6_configure_48 : decode cX6_configure 48 = .ok (.aload_n 0, 1) := by decide +kernel
theorem dX6_configure_49 : decode cX6_configure 49 = .ok (.invokevirtual 94, 3) := by decide +kernel
theorem dX6_configure_52 : decode cX6_configure 52 = .ok (.aload_n 0, 1) := by decide +kernel
theorem dX6_configure_53 : decode cX6_configure 53 = .ok (.getfield 26, 3) := by decide +kernel
theorem dX6_configure_56 : decode cX6_configure 56 = .ok (.aload_n 0, 1) := by decide +kernel
theorem dX6_configure_57 : decode cX6_configure 57 = .ok (.getfield 47, 3) := by decide +kernel
theorem dX6_configure_60 : decode cX6_configure 60 = .ok (.invokevirtual 97, 3) := by decide +kernel
theorem dX6_configure_63 : decode cX6_configure 63 = .ok (.aload_n 0, 1) := by decide +kernel
theorem dX6_configure_64 : decode cX6_configure 64 = .ok (.getfield 33, 3) := by decide +kernel
theorem dX6_configure_67 : decode cX6_configure 67 = .ok (.invokevirtual 101, 3) := by decide +kernel
theorem dX6_configure_70 : decode cX6_configure 70 = .ok (.aload_n 0, 1) := by decide +kernel
theorem dX6_configure_71 : decode cX6_configure 71 = .ok (.getfield 40, 3) := by decide +kernel
theorem dX6_configure_74 : decode cX6_configure 74 = .ok (.invokevirtual 103, 3) := by decide +kernel
theorem dX6_configure_77 : decode cX6_configure 77 = .ok (.aload_n 0, 1) := by decide +kernel
theorem dX6_configure_78 : decode cX6_configure 78 = .ok (.getfield 47, 3) := by decide +kernel
theorem dX6_configure_81 : decode cX6_configure 81 = .ok (.invokevirtual 106, 3) := by decide +kernel
theorem dX6_configure_84 : decode cX6_configure 84 = .ok (.ireturn, 1) := by decide +kernel
set_option maxRecDepth 20000 in
theorem ggX6_setWeight_X0_hasEdge : GoodIn wsX6_setWeight wsX0_hasEdge := goodIn_r _ [9, 10, 111, 112, 113, 114, 115, 116, 117] (by decide +kernel) (by decide +kernel)
set_option maxRecDepth 20000 in
theorem gX6_setWeight_X0_hasEdge : GoodIn wsX6_setWeight (wsV RX6 109 RX0 yX0_hasEdge wsX0_hasEdge) := goodIn_app (goodIn_of _ (by decide +kernel)) ggX6_setWeight_X0_hasEdge
set_option maxRecDepth 20000 in
theorem ggX6_setWeight_X2_remember : GoodIn wsX6_setWeight wsX2_remember := goodIn_r _ [15, 16, 17, 18, 19, 20, 21, 22, 23, 24, 25, 26, 27, 28, 29, 30, 31, 32, 33, 34, 35, 36, 37, 38, 39, 40, 41, 118, 119, 120, 121, 122, 123, 124, 125, 126, 127, 128, 129] (by decide +kernel) (by decide +kernel)
set_option maxRecDepth 20000 in
theorem gX6_setWeight_X2_remember : GoodIn wsX6_setWeight (wsV RX6 113 RX2 yX2_remember wsX2_remember) := goodIn_app (goodIn_of _ (by decide +kernel)) ggX6_setWeight_X2_remember
set_option maxRecDepth 20000 in
theorem ggX6_setWeight_X3_weight : GoodIn wsX6_setWeight wsX3_weight := goodIn_r _ [45, 29, 122, 123, 124] (by decide +kernel) (by decide +kernel)
set_option maxRecDepth 20000 in
theorem gX6_setWeight_X3_weight : GoodIn wsX6_setWeight (wsV RX6 117 RX3 yX3_weight wsX3_weight) := goodIn_app (goodIn_of _ (by decide +kernel)) ggX6_setWeight_X3_weight
set_option maxRecDepth 20000 in
theorem ggX6_setWeight_X3_putWeight : GoodIn wsX6_setWeight wsX3_putWeight := goodIn_r _ [49, 29, 122, 123, 124] (by decide +kernel) (by decide +kernel)
set_option maxRecDepth 20000 in
theorem gX6_setWeight_X3_putWeight : GoodIn wsX6_setWeight (wsV RX6 121 RX3 yX3_putWeight wsX3_putWeight) := goodIn_app (goodIn_of _ (by decide +kernel)) ggX6_setWeight_X3_putWeight
set_option maxRecDepth 20000 in
theorem ggX6_setWeight_X3_findTree : GoodIn wsX6_setWeight wsX3_findTree := goodIn_r _ [53, 31, 54, 55, 56, 8, 57, 10, 58, 59, 60, 27, 61, 62, 63, 64, 65, 43, 44, 45, 29, 66, 67, 68, 69, 70, 71, 6, 7, 9, 72, 73, 74, 75, 76, 77, 78, 79, 80, 81, 82, 83, 84, 85, 86, 87, 88, 89, 90, 91, 92, 93, 94, 95, 30, 96, 97, 98, 99, 122, 123, 124, 111, 112, 113, 114, 115, 116, 117] (by decide +kernel) (by decide +kernel)
set_option maxRecDepth 20000 in
theorem gX6_setWeight_X3_findTree : GoodIn wsX6_setWeight (wsV RX6 125 RX3 yX3_findTree wsX3_findTree) := goodIn_app (goodIn_of _ (by decide +kernel)) ggX6_setWeight_X3_findTree
set_option maxRecDepth 20000 in
theorem ggX6_setWeight_X4_restart : GoodIn wsX6_setWeight wsX4_restart := goodIn_r _ [103, 37, 38, 40, 41, 125, 126, 127, 128, 129] (by decide +kernel) (by decide +kernel)
set_option maxRecDepth 20000 in
theorem gX6_setWeight_X4_restart : GoodIn wsX6_setWeight (wsV RX6 128 RX4 yX4_restart wsX4_restart) := goodIn_app (goodIn_of _ (by decide +kernel)) ggX6_setWeight_X4_restart
theorem dX6_setWeight_0 : decode cX6_setWeight 0 = .ok (.aload_n 0, 1) := by decide +kernel
theorem dX6_setWeight_1 : decode cX6_setWeight 1 = .ok (.getfield 47, 3) := by decide +kernel
theorem dX6_setWeight_4 : decode cX6_setWeight 4 = .ok (.iload_n 1, 1) := by decide +kernel
theorem dX6_setWeight_5 : decode cX6_setWeight 5 = .ok (.invokevirtual 109, 3) := by decide +kernel
theorem dX6_setWeight_8 : decode cX6_setWeight 8 = .ok (.ifCond .eq 14, 3) := by decide +kernel
theorem dX6_setWeight_11 : decode cX6_setWeight 11 = .ok (.iload_n 2, 1) := by decide +kernel
theorem dX6_setWeight_12 : decode cX6_setWeight 12 = .ok (.ifCond .lt 10, 3) := by decide +kernel
theorem dX6_setWeight_15 : decode cX6_setWeight 15 = .ok (.iload_n 2, 1) := by decide +kernel
theorem dX6_setWeight_16 : decode cX6_setWeight 16 = .ok (.sipush 999, 3) := by decide +kernel
theorem dX6_setWeight_19 : decode cX6_setWeight 19 = .ok (.if_icmp .le 6, 3) := by decide +kernel
theorem dX6_setWeight_22 : decode cX6_setWeight 22 = .ok (.bipush (-101), 2) := by decide +kernel
theorem dX6_setWeight_24 : decode cX6_setWeight 24 = .ok (.ireturn, 1) := by decide +kernel
theorem dX6_setWeight_25 : decode cX6_setWeight 25 = .ok (.aload_n 0, 1) := by decide +kernel
theorem dX6_setWeight_26 : decode cX6_setWeight 26 = .ok (.getfield 40, 3) := by decide +kernel
theorem dX6_setWeight_29 : decode cX6_setWeight 29 = .ok (.aload_n 0, 1) := by decide +kernel
theorem dX6_setWeight_30 : decode cX6_setWeight 30 = .ok (.getfield 26, 3) := by decide +kernel
theorem dX6_setWeight_33 : decode cX6_setWeight 33 = .ok (.aload_n 0, 1) := by decide +kernel
theorem dX6_setWeight_34 : decode cX6_setWeight 34 = .ok (.getfield 33, 3) := by decide +kernel
theorem dX6_setWeight_37 : decode cX6_setWeight 37 = .ok (.invokevirtual 113, 3) := by decide +kernel
theorem dX6_setWeight_40 : decode cX6_setWeight 40 = .ok (.aload_n 0, 1) := by decide +kernel
theorem dX6_setWeight_41 : decode cX6_setWeight 41 = .ok (.getfield 26, 3) := by decide +kernel
theorem dX6_setWeight_44 : decode cX6_setWeight 44 = .ok (.iload_n 1, 1) := by decide +kernel
theorem dX6_setWeight_45 : decode cX6_setWeight 45 = .ok (.invokevirtual 117, 3) := by decide +kernel
theorem dX6_setWeight_48 : decode cX6_setWeight 48 = .ok (.istore_n 3, 1) := by decide +kernel
theorem dX6_setWeight_49 : decode cX6_setWeight 49 = .ok (.aload_n 0, 1) := by decide +kernel
theorem dX6_setWeight_50 : decode cX6_setWeight 50 = .ok (.getfield 26, 3) := by decide +kernel
theorem dX6_setWeight_53 : decode cX6_setWeight 53 = .ok (.iload_n 1, 1) := by decide +kernel
theorem dX6_setWeight_54 : decode cX6_setWeight 54 = .ok (.iload_n 2, 1) := by decide +kernel
theorem dX6_setWeight_55 : decode cX6_setWeight 55 = .ok (.invokevirtual 121, 3) := by decide +kernel
theorem dX6_setWeight_58 : decode cX6_setWeight 58 = .ok (.aload_n 0, 1) := by decide +kernel
theorem dX6_setWeight_59 : decode cX6_setWeight 59 = .ok (.getfield 26, 3) := by decide +kernel
theorem dX6_setWeight_62 : decode cX6_setWeight 62 = .ok (.aload_n 0, 1) := by decide +kernel
theorem dX6_setWeight_63 : decode cX6_setWeight 63 = .ok (.getfield 47, 3) := by decide +kernel
theorem dX6_setWeight_66 : decode cX6_setWeight 66 = .ok (.invokevirtual 125, 3) := by decide +kernel
theorem dX6_setWeight_69 : decode cX6_setWeight 69 = .ok (.aload_n 0, 1) := by decide +kernel
theorem dX6_setWeight_70 : decode cX6_setWeight 70 = .ok (.getfield 33, 3) := by decide +kernel
theorem dX6_setWeight_73 : decode cX6_setWeight 73 = .ok (.invokevirtual 128, 3) := by decide +kernel
theorem dX6_setWeight_76 : decode cX6_setWeight 76 = .ok (.iload_n 3, 1) := by decide +kernel
theorem dX6_setWeight_77 : decode cX6_setWeight 77 = .ok (.ireturn, 1) := by decide +kernel
set_option maxRecDepth 20000 in
theorem ggX6_setCounterLimit_X2_remember : GoodIn wsX6_setCounterLimit wsX2_remember := goodIn_r _ [9, 10, 11, 12, 13, 14, 15, 16, 17, 18, 19, 20, 21, 22, 23, 24, 25, 26, 27, 28, 29, 30, 31, 32, 33, 34, 35, 55, 56, 57, 58, 59, 60, 61, 62, 63, 64, 65, 66] (by decide +kernel) (by decide +kernel)
set_option maxRecDepth 20000 in
theorem gX6_setCounterLimit_X2_remember : GoodIn wsX6_setCounterLimit (wsV RX6 113 RX2 yX2_remember wsX2_remember) := goodIn_app (goodIn_of _ (by decide +kernel)) ggX6_setCounterLimit_X2_remember
set_option maxRecDepth 20000 in
theorem ggX6_setCounterLimit_X4_limit : GoodIn wsX6_setCounterLimit wsX4_limit := goodIn_r _ [39, 33, 62, 63, 64, 65, 66] (by decide +kernel) (by decide +kernel)
set_option maxRecDepth 20000 in
theorem gX6_setCounterLimit_X4_limit : GoodIn wsX6_setCounterLimit (wsV RX6 132 RX4 yX4_limit wsX4_limit) := goodIn_app (goodIn_of _ (by decide +kernel)) ggX6_setCounterLimit_X4_limit
set_option maxRecDepth 20000 in
theorem ggX6_setCounterLimit_X4_putLimit : GoodIn wsX6_setCounterLimit wsX4_putLimit := goodIn_r _ [43, 33, 62, 63, 64, 65, 66] (by decide +kernel) (by decide +kernel)
set_option maxRecDepth 20000 in
theorem gX6_setCounterLimit_X4_putLimit : GoodIn wsX6_setCounterLimit (wsV RX6 135 RX4 yX4_putLimit wsX4_putLimit) := goodIn_app (goodIn_of _ (by decide +kernel)) ggX6_setCounterLimit_X4_putLimit
set_option maxRecDepth 20000 in
theorem ggX6_setCounterLimit_X4_restart : GoodIn wsX6_setCounterLimit wsX4_restart := goodIn_r _ [47, 31, 32, 34, 35, 62, 63, 64, 65, 66] (by decide +kernel) (by decide +kernel)
set_option maxRecDepth 20000 in
theorem gX6_setCounterLimit_X4_restart : GoodIn wsX6_setCounterLimit (wsV RX6 128 RX4 yX4_restart wsX4_restart) := goodIn_app (goodIn_of _ (by decide +kernel)) ggX6_setCounterLimit_X4_restart
theorem dX6_setCounterLimit_0 : decode cX6_setCounterLimit 0 = .ok (.iload_n 1, 1) := by decide +kernel
theorem dX6_setCounterLimit_1 : decode cX6_setCounterLimit 1 = .ok (.iconst 1, 1) := by decide +kernel
theorem dX6_setCounterLimit_2 : decode cX6_setCounterLimit 2 = .ok (.if_icmp .lt 9, 3) := by decide +kernel
theorem dX6_setCounterLimit_5 : decode cX6_setCounterLimit 5 = .ok (.iload_n 1, 1) := by decide +kernel
theorem dX6_setCounterLimit_6 : decode cX6_setCounterLimit 6 = .ok (.ldc 131, 2) := by decide +kernel
theorem dX6_setCounterLimit_8 : decode cX6_setCounterLimit 8 = .ok (.if_icmp .le 6, 3) := by decide +kernel
theorem dX6_setCounterLimit_11 : decode cX6_setCounterLimit 11 = .ok (.bipush (-101), 2) := by decide +kernel
theorem dX6_setCounterLimit_13 : decode cX6_setCounterLimit 13 = .ok (.ireturn, 1) := by decide +kernel
theorem dX6_setCounterLimit_14 : decode cX6_setCounterLimit 14 = .ok (.aload_n 0, 1) := by decide +kernel
theorem dX6_setCounterLimit_15 : decode cX6_setCounterLimit 15 = .ok (.getfield 40, 3) := by decide +kernel
theorem dX6_setCounterLimit_18 : decode cX6_setCounterLimit 18 = .ok (.aload_n 0, 1) := by decide +kernel
theorem dX6_setCounterLimit_19 : decode cX6_setCounterLimit 19 = .ok (.getfield 26, 3) := by decide +kernel
theorem dX6_setCounterLimit_22 : decode cX6_setCounterLimit 22 = .ok (.aload_n 0, 1) := by decide +kernel
theorem dX6_setCounterLimit_23 : decode cX6_setCounterLimit 23 = .ok (.getfield 33, 3) := by decide +kernel
theorem dX6_setCounterLimit_26 : decode cX6_setCounterLimit 26 = .ok (.invokevirtual 113, 3) := by decide +kernel
theorem dX6_setCounterLimit_29 : decode cX6_setCounterLimit 29 = .ok (.aload_n 0, 1) := by decide +kernel
theorem dX6_setCounterLimit_30 : decode cX6_setCounterLimit 30 = .ok (.getfield 33, 3) := by decide +kernel
theorem dX6_setCounterLimit_33 : decode cX6_setCounterLimit 33 = .ok (.invokevirtual 132, 3) := by decide +kernel
theorem dX6_setCounterLimit_36 : decode cX6_setCounterLimit 36 = .ok (.istore_n 2, 1) := by decide +kernel
theorem dX6_setCounterLimit_37 : decode cX6_setCounterLimit 37 = .ok (.aload_n 0, 1) := by decide +kernel
theorem dX6_setCounterLimit_38 : decode cX6_setCounterLimit 38 = .ok (.getfield 33, 3) := by decide +kernel
theorem dX6_setCounterLimit_41 : decode cX6_setCounterLimit 41 = .ok (.iload_n 1, 1) := by decide +kernel
theorem dX6_setCounterLimit_42 : decode cX6_setCounterLimit 42 = .ok (.invokevirtual 135, 3) := by decide +kernel
theorem dX6_setCounterLimit_45 : decode cX6_setCounterLimit 45 = .ok (.aload_n 0, 1) := by decide +kernel
theorem dX6_setCounterLimit_46 : decode cX6_setCounterLimit 46 = .ok (.getfield 33, 3) := by decide +kernel
theorem dX6_setCounterLimit_49 : decode cX6_setCounterLimit 49 = .ok (.invokevirtual 128, 3) := by decide +kernel
theorem dX6_setCounterLimit_52 : decode cX6_setCounterLimit 52 = .ok (.iload_n 2, 1) := by decide +kernel
theorem dX6_setCounterLimit_53 : decode cX6_setCounterLimit 53 = .ok (.ireturn, 1) := by decide +kernel
set_option maxRecDepth 20000 in
theorem ggX6_follow_X0_hasEdge : GoodIn wsX6_follow wsX0_hasEdge := goodIn_r _ [9, 10, 89, 90, 91, 92, 93, 94, 95] (by decide +kernel) (by decide +kernel)
set_option maxRecDepth 20000 in
theorem gX6_follow_X0_hasEdge : GoodIn wsX6_follow (wsV RX6 109 RX0 yX0_hasEdge wsX0_hasEdge) := goodIn_app (goodIn_of _ (by decide +kernel)) ggX6_follow_X0_hasEdge
set_option maxRecDepth 20000 in
theorem ggX6_follow_X0_source : GoodIn wsX6_follow wsX0_source := goodIn_r _ [14, 15, 16, 6, 7, 8, 9, 10, 89, 90, 91, 92, 93, 94, 95] (by decide +kernel) (by decide +kernel)
set_option maxRecDepth 20000 in
theorem gX6_follow_X0_source : GoodIn wsX6_follow (wsV RX6 139 RX0 yX0_source wsX0_source) := goodIn_app (goodIn_of _ (by decide +kernel)) ggX6_follow_X0_source
set_option maxRecDepth 20000 in
theorem ggX6_follow_X4_present : GoodIn wsX6_follow wsX4_present := goodIn_r _ [21, 22, 96, 97, 98, 99, 100] (by decide +kernel) (by decide +kernel)
set_option maxRecDepth 20000 in
theorem gX6_follow_X4_present : GoodIn wsX6_follow (wsV RX6 142 RX4 yX4_present wsX4_present) := goodIn_app (goodIn_of _ (by decide +kernel)) ggX6_follow_X4_present
set_option maxRecDepth 20000 in
theorem ggX6_follow_X2_remember : GoodIn wsX6_follow wsX2_remember := goodIn_r _ [27, 28, 29, 30, 31, 32, 33, 34, 35, 36, 37, 38, 39, 40, 41, 42, 43, 44, 45, 46, 20, 47, 48, 49, 50, 22, 51, 101, 102, 103, 104, 105, 106, 107, 96, 97, 98, 99, 100] (by decide +kernel) (by decide +kernel)
set_option maxRecDepth 20000 in
theorem gX6_follow_X2_remember : GoodIn wsX6_follow (wsV RX6 113 RX2 yX2_remember wsX2_remember) := goodIn_app (goodIn_of _ (by decide +kernel)) ggX6_follow_X2_remember
set_option maxRecDepth 20000 in
theorem ggX6_follow_X4_pass : GoodIn wsX6_follow wsX4_pass := goodIn_r _ [55, 49, 48, 51, 22, 56, 6, 7, 8, 9, 10, 57, 58, 59, 39, 60, 43, 61, 62, 63, 64, 65, 66, 20, 67, 50, 68, 69, 70, 71, 72, 73, 74, 75, 76, 16, 77, 78, 79, 80, 81, 96, 97, 98, 99, 100, 89, 90, 91, 92, 93, 94, 95, 105, 106, 107] (by decide +kernel) (by decide +kernel)
set_option maxRecDepth 20000 in
theorem gX6_follow_X4_pass : GoodIn wsX6_follow (wsV RX6 145 RX4 yX4_pass wsX4_pass) := goodIn_app (goodIn_of _ (by decide +kernel)) ggX6_follow_X4_pass
theorem dX6_follow_0 : decode cX6_follow 0 = .ok (.aload_n 0, 1) := by decide +kernel
theorem dX6_follow_1 : decode cX6_follow 1 = .ok (.getfield 47, 3) := by decide +kernel
theorem dX6_follow_4 : decode cX6_follow 4 = .ok (.iload_n 1, 1) := by decide +kernel
theorem dX6_follow_5 : decode cX6_follow 5 = .ok (.invokevirtual 109, 3) := by decide +kernel
theorem dX6_follow_8 : decode cX6_follow 8 = .ok (.ifCond .ne 6, 3) := by decide +kernel
theorem dX6_follow_11 : decode cX6_follow 11 = .ok (.bipush (-101), 2) := by decide +kernel
theorem dX6_follow_13 : decode cX6_follow 13 = .ok (.ireturn, 1) := by decide +kernel
theorem dX6_follow_14 : decode cX6_follow 14 = .ok (.aload_n 0, 1) := by decide +kernel
theorem dX6_follow_15 : decode cX6_follow 15 = .ok (.getfield 47, 3) := by decide +kernel
theorem dX6_follow_18 : decode cX6_follow 18 = .ok (.iload_n 1, 1) := by decide +kernel
theorem dX6_follow_19 : decode cX6_follow 19 = .ok (.invokevirtual 139, 3) := by decide +kernel
theorem dX6_follow_22 : decode cX6_follow 22 = .ok (.aload_n 0, 1) := by decide +kernel
theorem dX6_follow_23 : decode cX6_follow 23 = .ok (.getfield 33, 3) := by decide +kernel
theorem dX6_follow_26 : decode cX6_follow 26 = .ok (.invokevirtual 142, 3) := by decide +kernel
theorem dX6_follow_29 : decode cX6_follow 29 = .ok (.if_icmp .eq 6, 3) := by decide +kernel
theorem dX6_follow_32 : decode cX6_follow 32 = .ok (.bipush (-102), 2) := by decide +kernel
theorem dX6_follow_34 : decode cX6_follow 34 = .ok (.ireturn, 1) := by decide +kernel
theorem dX6_follow_35 : decode cX6_follow 35 = .ok (.aload_n 0, 1) := by decide +kernel
theorem dX6_follow_36 : decode cX6_follow 36 = .ok (.getfield 40, 3) := by decide +kernel
theorem dX6_follow_39 : decode cX6_follow 39 = .ok (.aload_n 0, 1) := by decide +kernel
theorem dX6_follow_40 : decode cX6_follow 40 = .ok (.getfield 26, 3) := by decide +kernel
theorem dX6_follow_43 : decode cX6_follow 43 = .ok (.aload_n 0, 1) := by decide +kernel
theorem dX6_follow_44 : decode cX6_follow 44 = .ok (.getfield 33, 3) := by decide +kernel
theorem dX6_follow_47 : decode cX6_follow 47 = .ok (.invokevirtual 113, 3) := by decide +kernel
theorem dX6_follow_50 : decode cX6_follow 50 = .ok (.aload_n 0, 1) := by decide +kernel
theorem dX6_follow_51 : decode cX6_follow 51 = .ok (.getfield 33, 3) := by decide +kernel
theorem dX6_follow_54 : decode cX6_follow 54 = .ok (.iload_n 1, 1) := by decide +kernel
theorem dX6_follow_55 : decode cX6_follow 55 = .ok (.aload_n 0, 1) := by decide +kernel
theorem dX6_follow_56 : decode cX6_follow 56 = .ok (.getfield 47, 3) := by decide +kernel
theorem dX6_follow_59 : decode cX6_follow 59 = .ok (.aload_n 0, 1) := by decide +kernel
theorem dX6_follow_60 : decode cX6_follow 60 = .ok (.getfield 26, 3) := by decide +kernel
theorem dX6_follow_63 : decode cX6_follow 63 = .ok (.invokevirtual 145, 3) := by decide +kernel
theorem dX6_follow_66 : decode cX6_follow 66 = .ok (.aload_n 0, 1) := by decide +kernel
theorem dX6_follow_67 : decode cX6_follow 67 = .ok (.getfield 33, 3) := by decide +kernel
theorem dX6_follow_70 : decode cX6_follow 70 = .ok (.invokevirtual 142, 3) := by decide +kernel
theorem dX6_follow_73 : decode cX6_follow 73 = .ok (.ireturn, 1) := by decide +kernel
set_option maxRecDepth 20000 in
theorem ggX6_drive_X2_remember : GoodIn wsX6_drive wsX2_remember := goodIn_r _ [9, 10, 11, 12, 13, 14, 15, 16, 17, 18, 19, 20, 21, 22, 23, 24, 25, 26, 27, 28, 29, 30, 31, 32, 33, 34, 35, 109, 110, 111, 112, 113, 114, 115, 116, 117, 118, 119, 120] (by decide +kernel) (by decide +kernel)
set_option maxRecDepth 20000 in
theorem gX6_drive_X2_remember : GoodIn wsX6_drive (wsV RX6 113 RX2 yX2_remember wsX2_remember) := goodIn_app (goodIn_of _ (by decide +kernel)) ggX6_drive_X2_remember
set_option maxRecDepth 20000 in
theorem ggX6_drive_X4_finished : GoodIn wsX6_drive wsX4_finished := goodIn_r _ [39, 35, 116, 117, 118, 119, 120] (by decide +kernel) (by decide +kernel)
set_option maxRecDepth 20000 in
theorem gX6_drive_X4_finished : GoodIn wsX6_drive (wsV RX6 149 RX4 yX4_finished wsX4_finished) := goodIn_app (goodIn_of _ (by decide +kernel)) ggX6_drive_X4_finished
set_option maxRecDepth 20000 in
theorem ggX6_drive_X6_chosenEdge : GoodIn wsX6_drive wsX6_chosenEdge := goodIn_r _ [44, 45, 46, 47, 4, 3, 48, 49, 50, 29, 51, 34, 52, 53, 54, 55, 56, 57, 58, 59, 60, 61, 62, 63, 64, 65, 66, 67, 68, 102, 103, 104, 105, 106, 107, 108, 116, 117, 118, 119, 120, 121, 122, 123, 124, 125, 126, 127] (by decide +kernel) (by decide +kernel)
set_option maxRecDepth 20000 in
theorem gX6_drive_X6_chosenEdge : GoodIn wsX6_drive (wsV RX6 152 RX6 yX6_chosenEdge wsX6_chosenEdge) := goodIn_app (goodIn_of _ (by decide +kernel)) ggX6_drive_X6_chosenEdge
set_option maxRecDepth 20000 in
theorem ggX6_drive_X4_pass : GoodIn wsX6_drive wsX4_pass := goodIn_r _ [72, 32, 31, 35, 34, 73, 74, 75, 55, 76, 77, 78, 79, 80, 21, 81, 25, 82, 43, 83, 84, 85, 86, 29, 87, 33, 88, 89, 90, 91, 92, 93, 94, 95, 96, 97, 98, 99, 100, 101, 62, 116, 117, 118, 119, 120, 121, 122, 123, 124, 125, 126, 127, 113, 114, 115] (by decide +kernel) (by decide +kernel)
set_option maxRecDepth 20000 in
theorem gX6_drive_X4_pass : GoodIn wsX6_drive (wsV RX6 145 RX4 yX4_pass wsX4_pass) := goodIn_app (goodIn_of _ (by decide +kernel)) ggX6_drive_X4_pass
end
section
theorem dX6_drive_0 : decode cX6_drive 0 = .ok (.iload_n 1, 1) := by decide +kernel
theorem dX6_drive_1 : decode cX6_drive 1 = .ok (.ifCond .lt 22, 3) := by decide +kernel
theorem dX6_drive_4 : decode cX6_drive 4 = .ok (.iload_n 1, 1) := by decide +kernel
theorem dX6_drive_5 : decode cX6_drive 5 = .ok (.sipush 9999, 3) := by decide +kernel
theorem dX6_drive_8 : decode cX6_drive 8 = .ok (.if_icmp .gt 15, 3) := by decide +kernel
theorem dX6_drive_11 : decode cX6_drive 11 = .ok (.iload_n 2, 1) := by decide +kernel
theorem dX6_drive_12 : decode cX6_drive 12 = .ok (.iconst 1, 1) := by decide +kernel
theorem dX6_drive_13 : decode cX6_drive 13 = .ok (.if_icmp .lt 10, 3) := by decide +kernel
theorem dX6_drive_16 : decode cX6_drive 16 = .ok (.iload_n 2, 1) := by decide +kernel
theorem dX6_drive_17 : decode cX6_drive 17 = .ok (.sipush 500, 3) := by decide +kernel
theorem dX6_drive_20 : decode cX6_drive 20 = .ok (.if_icmp .le 6, 3) := by decide +kernel
theorem dX6_drive_23 : decode cX6_drive 23 = .ok (.bipush (-101), 2) := by decide +kernel
theorem dX6_drive_25 : decode cX6_drive 25 = .ok (.ireturn, 1) := by decide +kernel
theorem dX6_drive_26 : decode cX6_drive 26 = .ok (.aload_n 0, 1) := by decide +kernel
theorem dX6_drive_27 : decode cX6_drive 27 = .ok (.getfield 40, 3) := by decide +kernel
theorem dX6_drive_30 : decode cX6_drive 30 = .ok (.aload_n 0, 1) := by decide +kernel
theorem dX6_drive_31 : decode cX6_drive 31 = .ok (.getfield 26, 3) := by decide +kernel
theorem dX6_drive_34 : decode cX6_drive 34 = .ok (.aload_n 0, 1) := by decide +kernel
theorem dX6_drive_35 : decode cX6_drive 35 = .ok (.getfield 33, 3) := by decide +kernel
theorem dX6_drive_38 : decode cX6_drive 38 = .ok (.invokevirtual 113, 3) := by decide +kernel
theorem dX6_drive_41 : decode cX6_drive 41 = .ok (.aload_n 0, 1) := by decide +kernel
theorem dX6_drive_42 : decode cX6_drive 42 = .ok (.getfield 33, 3) := by decide +kernel
theorem dX6_drive_45 : decode cX6_drive 45 = .ok (.invokevirtual 149, 3) := by decide +kernel
theorem dX6_drive_48 : decode cX6_drive 48 = .ok (.istore_n 3, 1) := by decide +kernel
theorem dX6_drive_49 : decode cX6_drive 49 = .ok (.iconst 0, 1) := by decide +kernel
theorem dX6_drive_50 : decode cX6_drive 50 = .ok (.istore 4, 2) := by decide +kernel
theorem dX6_drive_52 : decode cX6_drive 52 = .ok (.iload 4, 2) := by decide +kernel
theorem dX6_drive_54 : decode cX6_drive 54 = .ok (.iload_n 2, 1) := by decide +kernel
theorem dX6_drive_55 : decode cX6_drive 55 = .ok (.if_icmp .ge 31, 3) := by decide +kernel
theorem dX6_drive_58 : decode cX6_drive 58 = .ok (.aload_n 0, 1) := by decide +kernel
theorem dX6_drive_59 : decode cX6_drive 59 = .ok (.getfield 33, 3) := by decide +kernel
theorem dX6_drive_62 : decode cX6_drive 62 = .ok (.aload_n 0, 1) := by decide +kernel
theorem dX6_drive_63 : decode cX6_drive 63 = .ok (.iload_n 1, 1) := by decide +kernel
theorem dX6_drive_64 : decode cX6_drive 64 = .ok (.iload 4, 2) := by decide +kernel
theorem dX6_drive_66 : decode cX6_drive 66 = .ok (.invokevirtual 152, 3) := by decide +kernel
theorem dX6_drive_69 : decode cX6_drive 69 = .ok (.aload_n 0, 1) := by decide +kernel
theorem dX6_drive_70 : decode cX6_drive 70 = .ok (.getfield 47, 3) := by decide +kernel
theorem dX6_drive_73 : decode cX6_drive 73 = .ok (.aload_n 0, 1) := by decide +kernel
theorem dX6_drive_74 : decode cX6_drive 74 = .ok (.getfield 26, 3) := by decide +kernel
theorem dX6_drive_77 : decode cX6_drive 77 = .ok (.invokevirtual 145, 3) := by decide +kernel
theorem dX6_drive_80 : decode cX6_drive 80 = .ok (.iinc 4 1, 3) := by decide +kernel
theorem dX6_drive_83 : decode cX6_drive 83 = .ok (.goto (-31), 3) := by decide +kernel
theorem dX6_drive_86 : decode cX6_drive 86 = .ok (.aload_n 0, 1) := by decide +kernel
theorem dX6_drive_87 : decode cX6_drive 87 = .ok (.getfield 33, 3) := by decide +kernel
theorem dX6_drive_90 : decode cX6_drive 90 = .ok (.invokevirtual 149, 3) := by decide +kernel
theorem dX6_drive_93 : decode cX6_drive 93 = .ok (.iload_n 3, 1) := by decide +kernel
theorem dX6_drive_94 : decode cX6_drive 94 = .ok (.isub, 1) := by decide +kernel
theorem dX6_drive_95 : decode cX6_drive 95 = .ok (.ireturn, 1) := by decide +kernel
set_option maxRecDepth 20000 in
theorem ggX6_adoptCounts_X6_anyIsUncertain : GoodIn wsX6_adoptCounts wsX6_anyIsUncertain := goodIn_r _ [13, 4, 14, 15, 16, 17, 18, 19, 20, 21, 22, 12, 23, 2, 24, 25, 26, 27, 28, 29, 30, 31, 32, 33, 34, 35, 3, 36, 37, 38, 39, 40, 41, 42, 43, 44, 45, 46, 47, 48, 49, 50, 51, 52, 53, 54, 55, 56, 57, 58, 59, 60, 61, 62, 63, 64, 65, 66, 67, 68, 69, 150, 151, 152, 153, 154, 155, 156, 157, 158, 159, 160, 161, 162, 163, 164, 165, 166, 167, 168, 169, 170, 171] (by decide +kernel) (by decide +kernel)
set_option maxRecDepth 20000 in
theorem gX6_adoptCounts_X6_anyIsUncertain : GoodIn wsX6_adoptCounts (wsV RX6 156 RX6 yX6_anyIsUncertain wsX6_anyIsUncertain) := goodIn_app (goodIn_of _ (by decide +kernel)) ggX6_adoptCounts_X6_anyIsUncertain
set_option maxRecDepth 20000 in
theorem ggX6_adoptCounts_X2_remember : GoodIn wsX6_adoptCounts wsX2_remember := goodIn_r _ [74, 75, 76, 77, 78, 79, 6, 7, 8, 80, 81, 82, 27, 83, 84, 69, 29, 85, 86, 87, 39, 88, 46, 89, 41, 90, 91, 172, 173, 174, 175, 164, 165, 166, 167, 168, 169, 170, 171] (by decide +kernel) (by decide +kernel)
set_option maxRecDepth 20000 in
theorem gX6_adoptCounts_X2_remember : GoodIn wsX6_adoptCounts (wsV RX6 113 RX2 yX2_remember wsX2_remember) := goodIn_app (goodIn_of _ (by decide +kernel)) ggX6_adoptCounts_X2_remember
set_option maxRecDepth 20000 in
theorem ggX6_adoptCounts_X0_edges : GoodIn wsX6_adoptCounts wsX0_edges := goodIn_r _ [18, 19, 157, 158, 159, 160, 161, 162, 163] (by decide +kernel) (by decide +kernel)
set_option maxRecDepth 20000 in
theorem gX6_adoptCounts_X0_edges : GoodIn wsX6_adoptCounts (wsV RX6 106 RX0 yX0_edges wsX0_edges) := goodIn_app (goodIn_of _ (by decide +kernel)) ggX6_adoptCounts_X0_edges
set_option maxRecDepth 20000 in
theorem ggX6_adoptCounts_X6_reconstructedCount : GoodIn wsX6_adoptCounts wsX6_reconstructedCount := goodIn_r _ [95, 2, 3, 4, 24, 25, 26, 27, 28, 29, 30, 12, 31, 96, 43, 44, 39, 45, 46, 97, 98, 99, 100, 101, 102, 103, 104, 90, 105, 106, 107, 17, 108, 109, 65, 66, 67, 68, 69, 14, 15, 16, 18, 19, 47, 48, 49, 50, 51, 52, 53, 54, 55, 56, 57, 58, 59, 60, 61, 62, 63, 64, 150, 151, 152, 153, 154, 155, 156, 164, 165, 166, 167, 168, 169, 170, 171, 157, 158, 159, 160, 161, 162, 163] (by decide +kernel) (by decide +kernel)
set_option maxRecDepth 20000 in
theorem gX6_adoptCounts_X6_reconstructedCount : GoodIn wsX6_adoptCounts (wsV RX6 159 RX6 yX6_reconstructedCount wsX6_reconstructedCount) := goodIn_app (goodIn_of _ (by decide +kernel)) ggX6_adoptCounts_X6_reconstructedCount
set_option maxRecDepth 20000 in
theorem ggX6_adoptCounts_X3_weight : GoodIn wsX6_adoptCounts wsX3_weight := goodIn_r _ [113, 84, 164, 165, 166] (by decide +kernel) (by decide +kernel)
set_option maxRecDepth 20000 in
theorem gX6_adoptCounts_X3_weight : GoodIn wsX6_adoptCounts (wsV RX6 117 RX3 yX3_weight wsX3_weight) := goodIn_app (goodIn_of _ (by decide +kernel)) ggX6_adoptCounts_X3_weight
set_option maxRecDepth 20000 in
theorem ggX6_adoptCounts_X3_putWeight : GoodIn wsX6_adoptCounts wsX3_putWeight := goodIn_r _ [117, 84, 164, 165, 166] (by decide +kernel) (by decide +kernel)
set_option maxRecDepth 20000 in
theorem gX6_adoptCounts_X3_putWeight : GoodIn wsX6_adoptCounts (wsV RX6 121 RX3 yX3_putWeight wsX3_putWeight) := goodIn_app (goodIn_of _ (by decide +kernel)) ggX6_adoptCounts_X3_putWeight
set_option maxRecDepth 20000 in
theorem ggX6_adoptCounts_X3_findTree : GoodIn wsX6_adoptCounts wsX3_findTree := goodIn_r _ [121, 29, 122, 15, 16, 17, 18, 19, 123, 124, 125, 27, 126, 30, 12, 31, 127, 111, 112, 113, 84, 128, 52, 53, 54, 55, 56, 57, 58, 59, 129, 130, 131, 132, 109, 133, 106, 107, 108, 134, 135, 136, 137, 138, 139, 61, 62, 63, 64, 140, 141, 142, 143, 144, 69, 145, 25, 26, 28, 164, 165, 166, 157, 158, 159, 160, 161, 162, 163] (by decide +kernel) (by decide +kernel)
set_option maxRecDepth 20000 in
theorem gX6_adoptCounts_X3_findTree : GoodIn wsX6_adoptCounts (wsV RX6 125 RX3 yX3_findTree wsX3_findTree) := goodIn_app (goodIn_of _ (by decide +kernel)) ggX6_adoptCounts_X3_findTree
set_option maxRecDepth 20000 in
theorem ggX6_adoptCounts_X4_restart : GoodIn wsX6_adoptCounts wsX4_restart := goodIn_r _ [149, 46, 89, 90, 91, 167, 168, 169, 170, 171] (by decide +kernel) (by decide +kernel)
set_option maxRecDepth 20000 in
theorem gX6_adoptCounts_X4_restart : GoodIn wsX6_adoptCounts (wsV RX6 128 RX4 yX4_restart wsX4_restart) := goodIn_app (goodIn_of _ (by decide +kernel)) ggX6_adoptCounts_X4_restart
theorem dX6_adoptCounts_0 : decode cX6_adoptCounts 0 = .ok (.aload_n 0, 1) := by decide +kernel
theorem dX6_adoptCounts_1 : decode cX6_adoptCounts 1 = .ok (.invokevirtual 156, 3) := by decide +kernel
theorem dX6_adoptCounts_4 : decode cX6_adoptCounts 4 = .ok (.ifCond .eq 6, 3) := by decide +kernel
theorem dX6_adoptCounts_7 : decode cX6_adoptCounts 7 = .ok (.bipush (-105), 2) := by decide +kernel
theorem dX6_adoptCounts_9 : decode cX6_adoptCounts 9 = .ok (.ireturn, 1) := by decide +kernel
theorem dX6_adoptCounts_10 : decode cX6_adoptCounts 10 = .ok (.aload_n 0, 1) := by decide +kernel
theorem dX6_adoptCounts_11 : decode cX6_adoptCounts 11 = .ok (.getfield 40, 3) := by decide +kernel
theorem dX6_adoptCounts_14 : decode cX6_adoptCounts 14 = .ok (.aload_n 0, 1) := by decide +kernel
theorem dX6_adoptCounts_15 : decode cX6_adoptCounts 15 = .ok (.getfield 26, 3) := by decide +kernel
theorem dX6_adoptCounts_18 : decode cX6_adoptCounts 18 = .ok (.aload_n 0, 1) := by decide +kernel
theorem dX6_adoptCounts_19 : decode cX6_adoptCounts 19 = .ok (.getfield 33, 3) := by decide +kernel
theorem dX6_adoptCounts_22 : decode cX6_adoptCounts 22 = .ok (.invokevirtual 113, 3) := by decide +kernel
theorem dX6_adoptCounts_25 : decode cX6_adoptCounts 25 = .ok (.iconst 0, 1) := by decide +kernel
theorem dX6_adoptCounts_26 : decode cX6_adoptCounts 26 = .ok (.istore_n 1, 1) := by decide +kernel
theorem dX6_adoptCounts_27 : decode cX6_adoptCounts 27 = .ok (.iconst 0, 1) := by decide +kernel
theorem dX6_adoptCounts_28 : decode cX6_adoptCounts 28 = .ok (.istore_n 2, 1) := by decide +kernel
theorem dX6_adoptCounts_29 : decode cX6_adoptCounts 29 = .ok (.iload_n 2, 1) := by decide +kernel
theorem dX6_adoptCounts_30 : decode cX6_adoptCounts 30 = .ok (.aload_n 0, 1) := by decide +kernel
theorem dX6_adoptCounts_31 : decode cX6_adoptCounts 31 = .ok (.getfield 47, 3) := by decide +kernel
theorem dX6_adoptCounts_34 : decode cX6_adoptCounts 34 = .ok (.invokevirtual 106, 3) := by decide +kernel
theorem dX6_adoptCounts_37 : decode cX6_adoptCounts 37 = .ok (.if_icmp .ge 45, 3) := by decide +kernel
theorem dX6_adoptCounts_40 : decode cX6_adoptCounts 40 = .ok (.aload_n 0, 1) := by decide +kernel
theorem dX6_adoptCounts_41 : decode cX6_adoptCounts 41 = .ok (.iload_n 2, 1) := by decide +kernel
theorem dX6_adoptCounts_42 : decode cX6_adoptCounts 42 = .ok (.invokevirtual 159, 3) := by decide +kernel
theorem dX6_adoptCounts_45 : decode cX6_adoptCounts 45 = .ok (.sipush 999, 3) := by decide +kernel
theorem dX6_adoptCounts_48 : decode cX6_adoptCounts 48 = .ok (.invokestatic 162, 3) := by decide +kernel
theorem dX6_adoptCounts_51 : decode cX6_adoptCounts 51 = .ok (.istore_n 3, 1) := by decide +kernel
theorem dX6_adoptCounts_52 : decode cX6_adoptCounts 52 = .ok (.iload_n 3, 1) := by decide +kernel
theorem dX6_adoptCounts_53 : decode cX6_adoptCounts 53 = .ok (.aload_n 0, 1) := by decide +kernel
theorem dX6_adoptCounts_54 : decode cX6_adoptCounts 54 = .ok (.getfield 26, 3) := by decide +kernel
theorem dX6_adoptCounts_57 : decode cX6_adoptCounts 57 = .ok (.iload_n 2, 1) := by decide +kernel
theorem dX6_adoptCounts_58 : decode cX6_adoptCounts 58 = .ok (.invokevirtual 117, 3) := by decide +kernel
theorem dX6_adoptCounts_61 : decode cX6_adoptCounts 61 = .ok (.if_icmp .eq 6, 3) := by decide +kernel
theorem dX6_adoptCounts_64 : decode cX6_adoptCounts 64 = .ok (.iinc 1 1, 3) := by decide +kernel
theorem dX6_adoptCounts_67 : decode cX6_adoptCounts 67 = .ok (.aload_n 0, 1) := by decide +kernel
theorem dX6_adoptCounts_68 : decode cX6_adoptCounts 68 = .ok (.getfield 26, 3) := by decide +kernel
theorem dX6_adoptCounts_71 : decode cX6_adoptCounts 71 = .ok (.iload_n 2, 1) := by decide +kernel
theorem dX6_adoptCounts_72 : decode cX6_adoptCounts 72 = .ok (.iload_n 3, 1) := by decide +kernel
theorem dX6_adoptCounts_73 : decode cX6_adoptCounts 73 = .ok (.invokevirtual 121, 3) := by decide +kernel
theorem dX6_adoptCounts_76 : decode cX6_adoptCounts 76 = .ok (.iinc 2 1, 3) := by decide +kernel
theorem dX6_adoptCounts_79 : decode cX6_adoptCounts 79 = .ok (.goto (-50), 3) := by decide +kernel
theorem dX6_adoptCounts_82 : decode cX6_adoptCounts 82 = .ok (.aload_n 0, 1) := by decide +kernel
theorem dX6_adoptCounts_83 : decode cX6_adoptCounts 83 = .ok (.getfield 26, 3) := by decide +kernel
theorem dX6_adoptCounts_86 : decode cX6_adoptCounts 86 = .ok (.aload_n 0, 1) := by decide +kernel
theorem dX6_adoptCounts_87 : decode cX6_adoptCounts 87 = .ok (.getfield 47, 3) := by decide +kernel
theorem dX6_adoptCounts_90 : decode cX6_adoptCounts 90 = .ok (.invokevirtual 125, 3) := by decide +kernel
theorem dX6_adoptCounts_93 : decode cX6_adoptCounts 93 = .ok (.aload_n 0, 1) := by decide +kernel
theorem dX6_adoptCounts_94 : decode cX6_adoptCounts 94 = .ok (.getfield 33, 3) := by decide +kernel
theorem dX6_adoptCounts_97 : decode cX6_adoptCounts 97 = .ok (.invokevirtual 128, 3) := by decide +kernel
theorem dX6_adoptCounts_100 : decode cX6_adoptCounts 100 = .ok (.iload_n 1, 1) := by decide +kernel
theorem dX6_adoptCounts_101 : decode cX6_adoptCounts 101 = .ok (.ireturn, 1) := by decide +kernel
set_option maxRecDepth 20000 in
theorem ggX6_undo_X2_isEmpty : GoodIn wsX6_undo wsX2_isEmpty := goodIn_r _ [8, 9, 47, 48, 49, 50] (by decide +kernel) (by decide +kernel)
set_option maxRecDepth 20000 in
theorem gX6_undo_X2_isEmpty : GoodIn wsX6_undo (wsV RX6 167 RX2 yX2_isEmpty wsX2_isEmpty) := goodIn_app (goodIn_of _ (by decide +kernel)) ggX6_undo_X2_isEmpty
set_option maxRecDepth 20000 in
theorem ggX6_undo_X2_takeBack : GoodIn wsX6_undo wsX2_takeBack := goodIn_r _ [13, 14, 15, 16, 9, 17, 5, 6, 7, 8, 18, 19, 20, 21, 22, 23, 24, 25, 26, 27, 28, 29, 30, 31, 32, 33, 34, 35, 47, 48, 49, 50, 51, 52, 53, 54, 55, 56, 57, 58] (by decide +kernel) (by decide +kernel)
set_option maxRecDepth 20000 in
theorem gX6_undo_X2_takeBack : GoodIn wsX6_undo (wsV RX6 170 RX2 yX2_takeBack wsX2_takeBack) := goodIn_app (goodIn_of _ (by decide +kernel)) ggX6_undo_X2_takeBack
set_option maxRecDepth 20000 in
theorem ggX6_undo_X2_size : GoodIn wsX6_undo wsX2_size := goodIn_r _ [39, 9, 47, 48, 49, 50] (by decide +kernel) (by decide +kernel)
set_option maxRecDepth 20000 in
theorem gX6_undo_X2_size : GoodIn wsX6_undo (wsV RX6 173 RX2 yX2_size wsX2_size) := goodIn_app (goodIn_of _ (by decide +kernel)) ggX6_undo_X2_size
theorem dX6_undo_0 : decode cX6_undo 0 = .ok (.aload_n 0, 1) := by decide +kernel
theorem dX6_undo_1 : decode cX6_undo 1 = .ok (.getfield 40, 3) := by decide +kernel
theorem dX6_undo_4 : decode cX6_undo 4 = .ok (.invokevirtual 167, 3) := by decide +kernel
theorem dX6_undo_7 : decode cX6_undo 7 = .ok (.ifCond .eq 6, 3) := by decide +kernel
theorem dX6_undo_10 : decode cX6_undo 10 = .ok (.bipush (-102), 2) := by decide +kernel
theorem dX6_undo_12 : decode cX6_undo 12 = .ok (.ireturn, 1) := by decide +kernel
theorem dX6_undo_13 : decode cX6_undo 13 = .ok (.aload_n 0, 1) := by decide +kernel
theorem dX6_undo_14 : decode cX6_undo 14 = .ok (.getfield 40, 3) := by decide +kernel
theorem dX6_undo_17 : decode cX6_undo 17 = .ok (.aload_n 0, 1) := by decide +kernel
theorem dX6_undo_18 : decode cX6_undo 18 = .ok (.getfield 26, 3) := by decide +kernel
theorem dX6_undo_21 : decode cX6_undo 21 = .ok (.aload_n 0, 1) := by decide +kernel
theorem dX6_undo_22 : decode cX6_undo 22 = .ok (.getfield 33, 3) := by decide +kernel
theorem dX6_undo_25 : decode cX6_undo 25 = .ok (.invokevirtual 170, 3) := by decide +kernel
theorem dX6_undo_28 : decode cX6_undo 28 = .ok (.aload_n 0, 1) := by decide +kernel
theorem dX6_undo_29 : decode cX6_undo 29 = .ok (.getfield 40, 3) := by decide +kernel
theorem dX6_undo_32 : decode cX6_undo 32 = .ok (.invokevirtual 173, 3) := by decide +kernel
theorem dX6_undo_35 : decode cX6_undo 35 = .ok (.ireturn, 1) := by decide +kernel
set_option maxRecDepth 20000 in
theorem ggX6_blockCount_X0_blocks : GoodIn wsX6_blockCount wsX0_blocks := goodIn_r _ [6, 7, 15, 16, 17, 18, 19, 20, 21] (by decide +kernel) (by decide +kernel)
set_option maxRecDepth 20000 in
theorem gX6_blockCount_X0_blocks : GoodIn wsX6_blockCount (wsV RX6 176 RX0 yX0_blocks wsX0_blocks) := goodIn_app (goodIn_of _ (by decide +kernel)) ggX6_blockCount_X0_blocks
theorem dX6_blockCount_0 : decode cX6_blockCount 0 = .ok (.aload_n 0, 1) := by decide +kernel
theorem dX6_blockCount_1 : decode cX6_blockCount 1 = .ok (.getfield 47, 3) := by decide +kernel
theorem dX6_blockCount_4 : decode cX6_blockCount 4 = .ok (.invokevirtual 176, 3) := by decide +kernel
theorem dX6_blockCount_7 : decode cX6_blockCount 7 = .ok (.ireturn, 1) := by decide +kernel
set_option maxRecDepth 20000 in
theorem ggX6_sourceOf_X0_hasEdge : GoodIn wsX6_sourceOf wsX0_hasEdge := goodIn_r _ [6, 7, 21, 22, 23, 24, 25, 26, 27] (by decide +kernel) (by decide +kernel)
set_option maxRecDepth 20000 in
theorem gX6_sourceOf_X0_hasEdge : GoodIn wsX6_sourceOf (wsV RX6 109 RX0 yX0_hasEdge wsX0_hasEdge) := goodIn_app (goodIn_of _ (by decide +kernel)) ggX6_sourceOf_X0_hasEdge
set_option maxRecDepth 20000 in
theorem ggX6_sourceOf_X0_source : GoodIn wsX6_sourceOf wsX0_source := goodIn_r _ [11, 12, 13, 3, 4, 5, 6, 7, 21, 22, 23, 24, 25, 26, 27] (by decide +kernel) (by decide +kernel)
set_option maxRecDepth 20000 in
theorem gX6_sourceOf_X0_source : GoodIn wsX6_sourceOf (wsV RX6 139 RX0 yX0_source wsX0_source) := goodIn_app (goodIn_of _ (by decide +kernel)) ggX6_sourceOf_X0_source
theorem dX6_sourceOf_0 : decode cX6_sourceOf 0 = .ok (.aload_n 0, 1) := by decide +kernel
theorem dX6_sourceOf_1 : decode cX6_sourceOf 1 = .ok (.getfield 47, 3) := by decide +kernel
theorem dX6_sourceOf_4 : decode cX6_sourceOf 4 = .ok (.iload_n 1, 1) := by decide +kernel
theorem dX6_sourceOf_5 : decode cX6_sourceOf 5 = .ok (.invokevirtual 109, 3) := by decide +kernel
theorem dX6_sourceOf_8 : decode cX6_sourceOf 8 = .ok (.ifCond .eq 14, 3) := by decide +kernel
theorem dX6_sourceOf_11 : decode cX6_sourceOf 11 = .ok (.aload_n 0, 1) := by decide +kernel
theorem dX6_sourceOf_12 : decode cX6_sourceOf 12 = .ok (.getfield 47, 3) := by decide +kernel
theorem dX6_sourceOf_15 : decode cX6_sourceOf 15 = .ok (.iload_n 1, 1) := by decide +kernel
theorem dX6_sourceOf_16 : decode cX6_sourceOf 16 = .ok (.invokevirtual 139, 3) := by decide +kernel
theorem dX6_sourceOf_19 : decode cX6_sourceOf 19 = .ok (.goto 5, 3) := by decide +kernel
theorem dX6_sourceOf_22 : decode cX6_sourceOf 22 = .ok (.bipush (-101), 2) := by decide +kernel
theorem dX6_sourceOf_24 : decode cX6_sourceOf 24 = .ok (.ireturn, 1) := by decide +kernel
set_option maxRecDepth 20000 in
theorem ggX6_targetOf_X0_hasEdge : GoodIn wsX6_targetOf wsX0_hasEdge := goodIn_r _ [6, 7, 21, 22, 23, 24, 25, 26, 27] (by decide +kernel) (by decide +kernel)
set_option maxRecDepth 20000 in
theorem gX6_targetOf_X0_hasEdge : GoodIn wsX6_targetOf (wsV RX6 109 RX0 yX0_hasEdge wsX0_hasEdge) := goodIn_app (goodIn_of _ (by decide +kernel)) ggX6_targetOf_X0_hasEdge
set_option maxRecDepth 20000 in
theorem ggX6_targetOf_X0_target : GoodIn wsX6_targetOf wsX0_target := goodIn_r _ [11, 12, 13, 3, 4, 5, 6, 7, 21, 22, 23, 24, 25, 26, 27] (by decide +kernel) (by decide +kernel)
set_option maxRecDepth 20000 in
theorem gX6_targetOf_X0_target : GoodIn wsX6_targetOf (wsV RX6 179 RX0 yX0_target wsX0_target) := goodIn_app (goodIn_of _ (by decide +kernel)) ggX6_targetOf_X0_target
theorem dX6_targetOf_0 : decode cX6_targetOf 0 = .ok (.aload_n 0, 1) := by decide +kernel
theorem dX6_targetOf_1 : decode cX6_targetOf 1 = .ok (.getfield 47, 3) := by decide +kernel
theorem dX6_targetOf_4 : decode cX6_targetOf 4 = .ok (.iload_n 1, 1) := by decide +kernel
theorem dX6_targetOf_5 : decode cX6_targetOf 5 = .ok (.invokevirtual 109, 3) := by decide +kernel
theorem dX6_targetOf_8 : decode cX6_targetOf 8 = .ok (.ifCond .eq 14, 3) := by decide +kernel
theorem dX6_targetOf_11 : decode cX6_targetOf 11 = .ok (.aload_n 0, 1) := by decide +kernel
theorem dX6_targetOf_12 : decode cX6_targetOf 12 = .ok (.getfield 47, 3) := by decide +kernel
theorem dX6_targetOf_15 : decode cX6_targetOf 15 = .ok (.iload_n 1, 1) := by decide +kernel
theorem dX6_targetOf_16 : decode cX6_targetOf 16 = .ok (.invokevirtual 179, 3) := by decide +kernel
theorem dX6_targetOf_19 : decode cX6_targetOf 19 = .ok (.goto 5, 3) := by decide +kernel
theorem dX6_targetOf_22 : decode cX6_targetOf 22 = .ok (.bipush (-101), 2) := by decide +kernel
theorem dX6_targetOf_24 : decode cX6_targetOf 24 = .ok (.ireturn, 1) := by decide +kernel
set_option maxRecDepth 20000 in
theorem ggX6_weightOf_X0_hasEdge : GoodIn wsX6_weightOf wsX0_hasEdge := goodIn_r _ [7, 8, 22, 23, 24, 25, 26, 27, 28] (by decide +kernel) (by decide +kernel)
set_option maxRecDepth 20000 in
theorem gX6_weightOf_X0_hasEdge : GoodIn wsX6_weightOf (wsV RX6 109 RX0 yX0_hasEdge wsX0_hasEdge) := goodIn_app (goodIn_of _ (by decide +kernel)) ggX6_weightOf_X0_hasEdge
set_option maxRecDepth 20000 in
theorem ggX6_weightOf_X3_weight : GoodIn wsX6_weightOf wsX3_weight := goodIn_r _ [13, 14, 29, 30, 31] (by decide +kernel) (by decide +kernel)
set_option maxRecDepth 20000 in
theorem gX6_weightOf_X3_weight : GoodIn wsX6_weightOf (wsV RX6 117 RX3 yX3_weight wsX3_weight) := goodIn_app (goodIn_of _ (by decide +kernel)) ggX6_weightOf_X3_weight
theorem dX6_weightOf_0 : decode cX6_weightOf 0 = .ok (.aload_n 0, 1) := by decide +kernel
theorem dX6_weightOf_1 : decode cX6_weightOf 1 = .ok (.getfield 47, 3) := by decide +kernel
theorem dX6_weightOf_4 : decode cX6_weightOf 4 = .ok (.iload_n 1, 1) := by decide +kernel
theorem dX6_weightOf_5 : decode cX6_weightOf 5 = .ok (.invokevirtual 109, 3) := by decide +kernel
theorem dX6_weightOf_8 : decode cX6_weightOf 8 = .ok (.ifCond .eq 14, 3) := by decide +kernel
theorem dX6_weightOf_11 : decode cX6_weightOf 11 = .ok (.aload_n 0, 1) := by decide +kernel
theorem dX6_weightOf_12 : decode cX6_weightOf 12 = .ok (.getfield 26, 3) := by decide +kernel
theorem dX6_weightOf_15 : decode cX6_weightOf 15 = .ok (.iload_n 1, 1) := by decide +kernel
theorem dX6_weightOf_16 : decode cX6_weightOf 16 = .ok (.invokevirtual 117, 3) := by decide +kernel
theorem dX6_weightOf_19 : decode cX6_weightOf 19 = .ok (.goto 5, 3) := by decide +kernel
theorem dX6_weightOf_22 : decode cX6_weightOf 22 = .ok (.bipush (-101), 2) := by decide +kernel
theorem dX6_weightOf_24 : decode cX6_weightOf 24 = .ok (.ireturn, 1) := by decide +kernel
set_option maxRecDepth 20000 in
theorem ggX6_hasCounter_X0_hasEdge : GoodIn wsX6_hasCounter wsX0_hasEdge := goodIn_r _ [7, 8, 25, 26, 27, 28, 29, 30, 31] (by decide +kernel) (by decide +kernel)
set_option maxRecDepth 20000 in
theorem gX6_hasCounter_X0_hasEdge : GoodIn wsX6_hasCounter (wsV RX6 109 RX0 yX0_hasEdge wsX0_hasEdge) := goodIn_app (goodIn_of _ (by decide +kernel)) ggX6_hasCounter_X0_hasEdge
set_option maxRecDepth 20000 in
theorem ggX6_hasCounter_X3_isInTree : GoodIn wsX6_hasCounter wsX3_isInTree := goodIn_r _ [13, 14, 15, 16, 17, 32, 33, 34] (by decide +kernel) (by decide +kernel)
set_option maxRecDepth 20000 in
theorem gX6_hasCounter_X3_isInTree : GoodIn wsX6_hasCounter (wsV RX6 182 RX3 yX3_isInTree wsX3_isInTree) := goodIn_app (goodIn_of _ (by decide +kernel)) ggX6_hasCounter_X3_isInTree
theorem dX6_hasCounter_0 : decode cX6_hasCounter 0 = .ok (.aload_n 0, 1) := by decide +kernel
theorem dX6_hasCounter_1 : decode cX6_hasCounter 1 = .ok (.getfield 47, 3) := by decide +kernel
theorem dX6_hasCounter_4 : decode cX6_hasCounter 4 = .ok (.iload_n 1, 1) := by decide +kernel
theorem dX6_hasCounter_5 : decode cX6_hasCounter 5 = .ok (.invokevirtual 109, 3) := by decide +kernel
theorem dX6_hasCounter_8 : decode cX6_hasCounter 8 = .ok (.ifCond .ne 6, 3) := by decide +kernel
theorem dX6_hasCounter_11 : decode cX6_hasCounter 11 = .ok (.bipush (-101), 2) := by decide +kernel
theorem dX6_hasCounter_13 : decode cX6_hasCounter 13 = .ok (.ireturn, 1) := by decide +kernel
theorem dX6_hasCounter_14 : decode cX6_hasCounter 14 = .ok (.aload_n 0, 1) := by decide +kernel
theorem dX6_hasCounter_15 : decode cX6_hasCounter 15 = .ok (.getfield 26, 3) := by decide +kernel
theorem dX6_hasCounter_18 : decode cX6_hasCounter 18 = .ok (.iload_n 1, 1) := by decide +kernel
theorem dX6_hasCounter_19 : decode cX6_hasCounter 19 = .ok (.invokevirtual 182, 3) := by decide +kernel
theorem dX6_hasCounter_22 : decode cX6_hasCounter 22 = .ok (.ifCond .eq 7, 3) := by decide +kernel
theorem dX6_hasCounter_25 : decode cX6_hasCounter 25 = .ok (.iconst 0, 1) := by decide +kernel
theorem dX6_hasCounter_26 : decode cX6_hasCounter 26 = .ok (.goto 4, 3) := by decide +kernel
theorem dX6_hasCounter_29 : decode cX6_hasCounter 29 = .ok (.iconst 1, 1) := by decide +kernel
theorem dX6_hasCounter_30 : decode cX6_hasCounter 30 = .ok (.ireturn, 1) := by decide +kernel
set_option maxRecDepth 20000 in
theorem ggX6_counterCount_X0_edges : GoodIn wsX6_counterCount wsX0_edges := goodIn_r _ [7, 8, 25, 26, 27, 28, 29, 30, 31] (by decide +kernel) (by decide +kernel)
set_option maxRecDepth 20000 in
theorem gX6_counterCount_X0_edges : GoodIn wsX6_counterCount (wsV RX6 106 RX0 yX0_edges wsX0_edges) := goodIn_app (goodIn_of _ (by decide +kernel)) ggX6_counterCount_X0_edges
set_option maxRecDepth 20000 in
theorem ggX6_counterCount_X3_isInTree : GoodIn wsX6_counterCount wsX3_isInTree := goodIn_r _ [13, 14, 15, 16, 17, 32, 33, 34] (by decide +kernel) (by decide +kernel)
set_option maxRecDepth 20000 in
theorem gX6_counterCount_X3_isInTree : GoodIn wsX6_counterCount (wsV RX6 182 RX3 yX3_isInTree wsX3_isInTree) := goodIn_app (goodIn_of _ (by decide +kernel)) ggX6_counterCount_X3_isInTree
theorem dX6_counterCount_0 : decode cX6_counterCount 0 = .ok (.iconst 0, 1) := by decide +kernel
theorem dX6_counterCount_1 : decode cX6_counterCount 1 = .ok (.istore_n 1, 1) := by decide +kernel
theorem dX6_counterCount_2 : decode cX6_counterCount 2 = .ok (.iconst 0, 1) := by decide +kernel
theorem dX6_counterCount_3 : decode cX6_counterCount 3 = .ok (.istore_n 2, 1) := by decide +kernel
theorem dX6_counterCount_4 : decode cX6_counterCount 4 = .ok (.iload_n 2, 1) := by decide +kernel
theorem dX6_counterCount_5 : decode cX6_counterCount 5 = .ok (.aload_n 0, 1) := by decide +kernel
theorem dX6_counterCount_6 : decode cX6_counterCount 6 = .ok (.getfield 47, 3) := by decide +kernel
theorem dX6_counterCount_9 : decode cX6_counterCount 9 = .ok (.invokevirtual 106, 3) := by decide +kernel
theorem dX6_counterCount_12 : decode cX6_counterCount 12 = .ok (.if_icmp .ge 23, 3) := by decide +kernel
theorem dX6_counterCount_15 : decode cX6_counterCount 15 = .ok (.aload_n 0, 1) := by decide +kernel
theorem dX6_counterCount_16 : decode cX6_counterCount 16 = .ok (.getfield 26, 3) := by decide +kernel
theorem dX6_counterCount_19 : decode cX6_counterCount 19 = .ok (.iload_n 2, 1) := by decide +kernel
theorem dX6_counterCount_20 : decode cX6_counterCount 20 = .ok (.invokevirtual 182, 3) := by decide +kernel
theorem dX6_counterCount_23 : decode cX6_counterCount 23 = .ok (.ifCond .ne 6, 3) := by decide +kernel
theorem dX6_counterCount_26 : decode cX6_counterCount 26 = .ok (.iinc 1 1, 3) := by decide +kernel
theorem dX6_counterCount_29 : decode cX6_counterCount 29 = .ok (.iinc 2 1, 3) := by decide +kernel
theorem dX6_counterCount_32 : decode cX6_counterCount 32 = .ok (.goto (-28), 3) := by decide +kernel
theorem dX6_counterCount_35 : decode cX6_counterCount 35 = .ok (.iload_n 1, 1) := by decide +kernel
theorem dX6_counterCount_36 : decode cX6_counterCount 36 = .ok (.ireturn, 1) := by decide +kernel
set_option maxRecDepth 20000 in
theorem ggX6_placementCost_X0_edges : GoodIn wsX6_placementCost wsX0_edges := goodIn_r _ [7, 8, 30, 31, 32, 33, 34, 35, 36] (by decide +kernel) (by decide +kernel)
set_option maxRecDepth 20000 in
theorem gX6_placementCost_X0_edges : GoodIn wsX6_placementCost (wsV RX6 106 RX0 yX0_edges wsX0_edges) := goodIn_app (goodIn_of _ (by decide +kernel)) ggX6_placementCost_X0_edges
set_option maxRecDepth 20000 in
theorem ggX6_placementCost_X3_isInTree : GoodIn wsX6_placementCost wsX3_isInTree := goodIn_r _ [13, 14, 15, 16, 17, 37, 38, 39] (by decide +kernel) (by decide +kernel)
set_option maxRecDepth 20000 in
theorem gX6_placementCost_X3_isInTree : GoodIn wsX6_placementCost (wsV RX6 182 RX3 yX3_isInTree wsX3_isInTree) := goodIn_app (goodIn_of _ (by decide +kernel)) ggX6_placementCost_X3_isInTree
set_option maxRecDepth 20000 in
theorem ggX6_placementCost_X3_weight : GoodIn wsX6_placementCost wsX3_weight := goodIn_r _ [21, 22, 37, 38, 39] (by decide +kernel) (by decide +kernel)
set_option maxRecDepth 20000 in
theorem gX6_placementCost_X3_weight : GoodIn wsX6_placementCost (wsV RX6 117 RX3 yX3_weight wsX3_weight) := goodIn_app (goodIn_of _ (by decide +kernel)) ggX6_placementCost_X3_weight
theorem dX6_placementCost_0 : decode cX6_placementCost 0 = .ok (.iconst 0, 1) := by decide +kernel
theorem dX6_placementCost_1 : decode cX6_placementCost 1 = .ok (.istore_n 1, 1) := by decide +kernel
theorem dX6_placementCost_2 : decode cX6_placementCost 2 = .ok (.iconst 0, 1) := by decide +kernel
theorem dX6_placementCost_3 : decode cX6_placementCost 3 = .ok (.istore_n 2, 1) := by decide +kernel
theorem dX6_placementCost_4 : decode cX6_placementCost 4 = .ok (.iload_n 2, 1) := by decide +kernel
theorem dX6_placementCost_5 : decode cX6_placementCost 5 = .ok (.aload_n 0, 1) := by decide +kernel
theorem dX6_placementCost_6 : decode cX6_placementCost 6 = .ok (.getfield 47, 3) := by decide +kernel
theorem dX6_placementCost_9 : decode cX6_placementCost 9 = .ok (.invokevirtual 106, 3) := by decide +kernel
theorem dX6_placementCost_12 : decode cX6_placementCost 12 = .ok (.if_icmp .ge 31, 3) := by decide +kernel
theorem dX6_placementCost_15 : decode cX6_placementCost 15 = .ok (.aload_n 0, 1) := by decide +kernel
theorem dX6_placementCost_16 : decode cX6_placementCost 16 = .ok (.getfield 26, 3) := by decide +kernel
theorem dX6_placementCost_19 : decode cX6_placementCost 19 = .ok (.iload_n 2, 1) := by decide +kernel
theorem dX6_placementCost_20 : decode cX6_placementCost 20 = .ok (.invokevirtual 182, 3) := by decide +kernel
theorem dX6_placementCost_23 : decode cX6_placementCost 23 = .ok (.ifCond .ne 14, 3) := by decide +kernel
theorem dX6_placementCost_26 : decode cX6_placementCost 26 = .ok (.iload_n 1, 1) := by decide +kernel
theorem dX6_placementCost_27 : decode cX6_placementCost 27 = .ok (.aload_n 0, 1) := by decide +kernel
theorem dX6_placementCost_28 : decode cX6_placementCost 28 = .ok (.getfield 26, 3) := by decide +kernel
theorem dX6_placementCost_31 : decode cX6_placementCost 31 = .ok (.iload_n 2, 1) := by decide +kernel
theorem dX6_placementCost_32 : decode cX6_placementCost 32 = .ok (.invokevirtual 117, 3) := by decide +kernel
theorem dX6_placementCost_35 : decode cX6_placementCost 35 = .ok (.iadd, 1) := by decide +kernel
theorem dX6_placementCost_36 : decode cX6_placementCost 36 = .ok (.istore_n 1, 1) := by decide +kernel
theorem dX6_placementCost_37 : decode cX6_placementCost 37 = .ok (.iinc 2 1, 3) := by decide +kernel
theorem dX6_placementCost_40 : decode cX6_placementCost 40 = .ok (.goto (-36), 3) := by decide +kernel
theorem dX6_placementCost_43 : decode cX6_placementCost 43 = .ok (.iload_n 1, 1) := by decide +kernel
theorem dX6_placementCost_44 : decode cX6_placementCost 44 = .ok (.ireturn, 1) := by decide +kernel
set_option maxRecDepth 20000 in
theorem ggX6_costShareBits_X0_edges : GoodIn wsX6_costShareBits wsX0_edges := goodIn_r _ [7, 8, 38, 39, 40, 41, 42, 43, 44] (by decide +kernel) (by decide +kernel)
set_option maxRecDepth 20000 in
theorem gX6_costShareBits_X0_edges : GoodIn wsX6_costShareBits (wsV RX6 106 RX0 yX0_edges wsX0_edges) := goodIn_app (goodIn_of _ (by decide +kernel)) ggX6_costShareBits_X0_edges
set_option maxRecDepth 20000 in
theorem ggX6_costShareBits_X3_weight : GoodIn wsX6_costShareBits wsX3_weight := goodIn_r _ [13, 14, 45, 46, 47] (by decide +kernel) (by decide +kernel)
set_option maxRecDepth 20000 in
theorem gX6_costShareBits_X3_weight : GoodIn wsX6_costShareBits (wsV RX6 117 RX3 yX3_weight wsX3_weight) := goodIn_app (goodIn_of _ (by decide +kernel)) ggX6_costShareBits_X3_weight
set_option maxRecDepth 20000 in
theorem ggX6_costShareBits_X6_placementCost : GoodIn wsX6_costShareBits wsX6_placementCost := goodIn_r _ [19, 1, 2, 3, 4, 5, 6, 7, 8, 20, 21, 22, 12, 23, 24, 25, 18, 26, 9, 10, 11, 13, 14, 31, 32, 33, 34, 35, 36, 37, 38, 39, 40, 41, 42, 43, 44, 45, 46, 47] (by decide +kernel) (by decide +kernel)
set_option maxRecDepth 20000 in
theorem gX6_costShareBits_X6_placementCost : GoodIn wsX6_costShareBits (wsV RX6 185 RX6 yX6_placementCost wsX6_placementCost) := goodIn_app (goodIn_of _ (by decide +kernel)) ggX6_costShareBits_X6_placementCost
set_option maxRecDepth 20000 in
theorem ggX6_costShareBits_X6_bitsOfShare : GoodIn wsX6_costShareBits wsX6_bitsOfShare := goodIn_r _ [29, 30] (by decide +kernel) (by decide +kernel)
set_option maxRecDepth 20000 in
theorem gX6_costShareBits_X6_bitsOfShare : GoodIn wsX6_costShareBits (va_wsS RX6 188 yX6_bitsOfShare wsX6_bitsOfShare) := goodIn_app (goodIn_of _ (by decide +kernel)) ggX6_costShareBits_X6_bitsOfShare
theorem dX6_costShareBits_0 : decode cX6_costShareBits 0 = .ok (.iconst 0, 1) := by decide +kernel
theorem dX6_costShareBits_1 : decode cX6_costShareBits 1 = .ok (.istore_n 1, 1) := by decide +kernel
theorem dX6_costShareBits_2 : decode cX6_costShareBits 2 = .ok (.iconst 0, 1) := by decide +kernel
theorem dX6_costShareBits_3 : decode cX6_costShareBits 3 = .ok (.istore_n 2, 1) := by decide +kernel
theorem dX6_costShareBits_4 : decode cX6_costShareBits 4 = .ok (.iload_n 2, 1) := by decide +kernel
theorem dX6_costShareBits_5 : decode cX6_costShareBits 5 = .ok (.aload_n 0, 1) := by decide +kernel
theorem dX6_costShareBits_6 : decode cX6_costShareBits 6 = .ok (.getfield 47, 3) := by decide +kernel
theorem dX6_costShareBits_9 : decode cX6_costShareBits 9 = .ok (.invokevirtual 106, 3) := by decide +kernel
theorem dX6_costShareBits_12 : decode cX6_costShareBits 12 = .ok (.if_icmp .ge 20, 3) := by decide +kernel
theorem dX6_costShareBits_15 : decode cX6_costShareBits 15 = .ok (.iload_n 1, 1) := by decide +kernel
theorem dX6_costShareBits_16 : decode cX6_costShareBits 16 = .ok (.aload_n 0, 1) := by decide +kernel
theorem dX6_costShareBits_17 : decode cX6_costShareBits 17 = .ok (.getfield 26, 3) := by decide +kernel
theorem dX6_costShareBits_20 : decode cX6_costShareBits 20 = .ok (.iload_n 2, 1) := by decide +kernel
theorem dX6_costShareBits_21 : decode cX6_costShareBits 21 = .ok (.invokevirtual 117, 3) := by decide +kernel
theorem dX6_costShareBits_24 : decode cX6_costShareBits 24 = .ok (.iadd, 1) := by decide +kernel
theorem dX6_costShareBits_25 : decode cX6_costShareBits 25 = .ok (.istore_n 1, 1) := by decide +kernel
theorem dX6_costShareBits_26 : decode cX6_costShareBits 26 = .ok (.iinc 2 1, 3) := by decide +kernel
theorem dX6_costShareBits_29 : decode cX6_costShareBits 29 = .ok (.goto (-25), 3) := by decide +kernel
theorem dX6_costShareBits_32 : decode cX6_costShareBits 32 = .ok (.iload_n 1, 1) := by decide +kernel
theorem dX6_costShareBits_33 : decode cX6_costShareBits 33 = .ok (.ifCond .gt 6, 3) := by decide +kernel
theorem dX6_costShareBits_36 : decode cX6_costShareBits 36 = .ok (.bipush (-104), 2) := by decide +kernel
theorem dX6_costShareBits_38 : decode cX6_costShareBits 38 = .ok (.ireturn, 1) := by decide +kernel
theorem dX6_costShareBits_39 : decode cX6_costShareBits 39 = .ok (.aload_n 0, 1) := by decide +kernel
theorem dX6_costShareBits_40 : decode cX6_costShareBits 40 = .ok (.invokevirtual 185, 3) := by decide +kernel
theorem dX6_costShareBits_43 : decode cX6_costShareBits 43 = .ok (.i2f, 1) := by decide +kernel
theorem dX6_costShareBits_44 : decode cX6_costShareBits 44 = .ok (.iload_n 1, 1) := by decide +kernel
theorem dX6_costShareBits_45 : decode cX6_costShareBits 45 = .ok (.i2f, 1) := by decide +kernel
theorem dX6_costShareBits_46 : decode cX6_costShareBits 46 = .ok (.fdiv, 1) := by decide +kernel
theorem dX6_costShareBits_47 : decode cX6_costShareBits 47 = .ok (.invokestatic 188, 3) := by decide +kernel
theorem dX6_costShareBits_50 : decode cX6_costShareBits 50 = .ok (.ireturn, 1) := by decide +kernel
set_option maxRecDepth 20000 in
theorem ggX6_counter_X0_hasEdge : GoodIn wsX6_counter wsX0_hasEdge := goodIn_r _ [8, 9, 32, 33, 34, 35, 36, 37, 38] (by decide +kernel) (by decide +kernel)
set_option maxRecDepth 20000 in
theorem gX6_counter_X0_hasEdge : GoodIn wsX6_counter (wsV RX6 109 RX0 yX0_hasEdge wsX0_hasEdge) := goodIn_app (goodIn_of _ (by decide +kernel)) ggX6_counter_X0_hasEdge
set_option maxRecDepth 20000 in
theorem ggX6_counter_X3_isInTree : GoodIn wsX6_counter wsX3_isInTree := goodIn_r _ [14, 15, 16, 17, 18, 39, 40, 41] (by decide +kernel) (by decide +kernel)
set_option maxRecDepth 20000 in
theorem gX6_counter_X3_isInTree : GoodIn wsX6_counter (wsV RX6 182 RX3 yX3_isInTree wsX3_isInTree) := goodIn_app (goodIn_of _ (by decide +kernel)) ggX6_counter_X3_isInTree
set_option maxRecDepth 20000 in
theorem ggX6_counter_X4_counterValue : GoodIn wsX6_counter wsX4_counterValue := goodIn_r _ [23, 24, 42, 43, 44, 45, 46] (by decide +kernel) (by decide +kernel)
set_option maxRecDepth 20000 in
theorem gX6_counter_X4_counterValue : GoodIn wsX6_counter (wsV RX6 192 RX4 yX4_counterValue wsX4_counterValue) := goodIn_app (goodIn_of _ (by decide +kernel)) ggX6_counter_X4_counterValue
theorem dX6_counter_0 : decode cX6_counter 0 = .ok (.aload_n 0, 1) := by decide +kernel
theorem dX6_counter_1 : decode cX6_counter 1 = .ok (.getfield 47, 3) := by decide +kernel
theorem dX6_counter_4 : decode cX6_counter 4 = .ok (.iload_n 1, 1) := by decide +kernel
theorem dX6_counter_5 : decode cX6_counter 5 = .ok (.invokevirtual 109, 3) := by decide +kernel
theorem dX6_counter_8 : decode cX6_counter 8 = .ok (.ifCond .ne 6, 3) := by decide +kernel
theorem dX6_counter_11 : decode cX6_counter 11 = .ok (.bipush (-101), 2) := by decide +kernel
theorem dX6_counter_13 : decode cX6_counter 13 = .ok (.ireturn, 1) := by decide +kernel
theorem dX6_counter_14 : decode cX6_counter 14 = .ok (.aload_n 0, 1) := by decide +kernel
theorem dX6_counter_15 : decode cX6_counter 15 = .ok (.getfield 26, 3) := by decide +kernel
theorem dX6_counter_18 : decode cX6_counter 18 = .ok (.iload_n 1, 1) := by decide +kernel
theorem dX6_counter_19 : decode cX6_counter 19 = .ok (.invokevirtual 182, 3) := by decide +kernel
theorem dX6_counter_22 : decode cX6_counter 22 = .ok (.ifCond .eq 8, 3) := by decide +kernel
theorem dX6_counter_25 : decode cX6_counter 25 = .ok (.bipush (-104), 2) := by decide +kernel
theorem dX6_counter_27 : decode cX6_counter 27 = .ok (.goto 11, 3) := by decide +kernel
theorem dX6_counter_30 : decode cX6_counter 30 = .ok (.aload_n 0, 1) := by decide +kernel
theorem dX6_counter_31 : decode cX6_counter 31 = .ok (.getfield 33, 3) := by decide +kernel
theorem dX6_counter_34 : decode cX6_counter 34 = .ok (.iload_n 1, 1) := by decide +kernel
theorem dX6_counter_35 : decode cX6_counter 35 = .ok (.invokevirtual 192, 3) := by decide +kernel
theorem dX6_counter_38 : decode cX6_counter 38 = .ok (.ireturn, 1) := by decide +kernel
set_option maxRecDepth 20000 in
theorem ggX6_trueCount_X0_hasEdge : GoodIn wsX6_trueCount wsX0_hasEdge := goodIn_r _ [7, 8, 22, 23, 24, 25, 26, 27, 28] (by decide +kernel) (by decide +kernel)
set_option maxRecDepth 20000 in
theorem gX6_trueCount_X0_hasEdge : GoodIn wsX6_trueCount (wsV RX6 109 RX0 yX0_hasEdge wsX0_hasEdge) := goodIn_app (goodIn_of _ (by decide +kernel)) ggX6_trueCount_X0_hasEdge
set_option maxRecDepth 20000 in
theorem ggX6_trueCount_X4_passes : GoodIn wsX6_trueCount wsX4_passes := goodIn_r _ [13, 14, 29, 30, 31, 32, 33] (by decide +kernel) (by decide +kernel)
set_option maxRecDepth 20000 in
theorem gX6_trueCount_X4_passes : GoodIn wsX6_trueCount (wsV RX6 195 RX4 yX4_passes wsX4_passes) := goodIn_app (goodIn_of _ (by decide +kernel)) ggX6_trueCount_X4_passes
theorem dX6_trueCount_0 : decode cX6_trueCount 0 = .ok (.aload_n 0, 1) := by decide +kernel
theorem dX6_trueCount_1 : decode cX6_trueCount 1 = .ok (.getfield 47, 3) := by decide +kernel
theorem dX6_trueCount_4 : decode cX6_trueCount 4 = .ok (.iload_n 1, 1) := by decide +kernel
theorem dX6_trueCount_5 : decode cX6_trueCount 5 = .ok (.invokevirtual 109, 3) := by decide +kernel
theorem dX6_trueCount_8 : decode cX6_trueCount 8 = .ok (.ifCond .eq 14, 3) := by decide +kernel
theorem dX6_trueCount_11 : decode cX6_trueCount 11 = .ok (.aload_n 0, 1) := by decide +kernel
theorem dX6_trueCount_12 : decode cX6_trueCount 12 = .ok (.getfield 33, 3) := by decide +kernel
theorem dX6_trueCount_15 : decode cX6_trueCount 15 = .ok (.iload_n 1, 1) := by decide +kernel
theorem dX6_trueCount_16 : decode cX6_trueCount 16 = .ok (.invokevirtual 195, 3) := by decide +kernel
theorem dX6_trueCount_19 : decode cX6_trueCount 19 = .ok (.goto 5, 3) := by decide +kernel
theorem dX6_trueCount_22 : decode cX6_trueCount 22 = .ok (.bipush (-101), 2) := by decide +kernel
theorem dX6_trueCount_24 : decode cX6_trueCount 24 = .ok (.ireturn, 1) := by decide +kernel
set_option maxRecDepth 20000 in
theorem ggX6_reconstruct_X0_hasEdge : GoodIn wsX6_reconstruct wsX0_hasEdge := goodIn_r _ [6, 7, 88, 89, 90, 91, 92, 93, 94] (by decide +kernel) (by decide +kernel)
set_option maxRecDepth 20000 in
theorem gX6_reconstruct_X0_hasEdge : GoodIn wsX6_reconstruct (wsV RX6 109 RX0 yX0_hasEdge wsX0_hasEdge) := goodIn_app (goodIn_of _ (by decide +kernel)) ggX6_reconstruct_X0_hasEdge
set_option maxRecDepth 20000 in
theorem ggX6_reconstruct_X6_isUncertain : GoodIn wsX6_reconstruct wsX6_isUncertain := goodIn_r _ [12, 13, 1, 14, 15, 16, 17, 18, 19, 20, 11, 21, 22, 23, 24, 25, 26, 27, 28, 29, 30, 31, 32, 33, 34, 35, 36, 37, 38, 39, 40, 5, 41, 7, 42, 43, 44, 45, 46, 47, 48, 49, 50, 51, 3, 4, 6, 52, 53, 54, 55, 56, 57, 58, 59, 60, 61, 81, 82, 83, 84, 85, 86, 87, 95, 96, 97, 98, 99, 100, 101, 102, 88, 89, 90, 91, 92, 93, 94] (by decide +kernel) (by decide +kernel)
set_option maxRecDepth 20000 in
theorem gX6_reconstruct_X6_isUncertain : GoodIn wsX6_reconstruct (wsV RX6 198 RX6 yX6_isUncertain wsX6_isUncertain) := goodIn_app (goodIn_of _ (by decide +kernel)) ggX6_reconstruct_X6_isUncertain
set_option maxRecDepth 20000 in
theorem ggX6_reconstruct_X6_reconstructedCount : GoodIn wsX6_reconstruct wsX6_reconstructedCount := goodIn_r _ [65, 13, 26, 1, 14, 15, 16, 17, 18, 19, 20, 11, 21, 66, 34, 35, 30, 36, 37, 67, 68, 69, 70, 71, 72, 73, 74, 75, 76, 77, 78, 5, 79, 80, 57, 58, 59, 60, 61, 38, 39, 40, 41, 7, 42, 43, 44, 45, 46, 47, 48, 49, 50, 51, 3, 4, 6, 52, 53, 54, 55, 56, 81, 82, 83, 84, 85, 86, 87, 95, 96, 97, 98, 99, 100, 101, 102, 88, 89, 90, 91, 92, 93, 94] (by decide +kernel) (by decide +kernel)
set_option maxRecDepth 20000 in
theorem gX6_reconstruct_X6_reconstructedCount : GoodIn wsX6_reconstruct (wsV RX6 159 RX6 yX6_reconstructedCount wsX6_reconstructedCount) := goodIn_app (goodIn_of _ (by decide +kernel)) ggX6_reconstruct_X6_reconstructedCount
theorem dX6_reconstruct_0 : decode cX6_reconstruct 0 = .ok (.aload_n 0, 1) := by decide +kernel
theorem dX6_reconstruct_1 : decode cX6_reconstruct 1 = .ok (.getfield 47, 3) := by decide +kernel
theorem dX6_reconstruct_4 : decode cX6_reconstruct 4 = .ok (.iload_n 1, 1) := by decide +kernel
theorem dX6_reconstruct_5 : decode cX6_reconstruct 5 = .ok (.invokevirtual 109, 3) := by decide +kernel
theorem dX6_reconstruct_8 : decode cX6_reconstruct 8 = .ok (.ifCond .ne 6, 3) := by decide +kernel
theorem dX6_reconstruct_11 : decode cX6_reconstruct 11 = .ok (.bipush (-101), 2) := by decide +kernel
theorem dX6_reconstruct_13 : decode cX6_reconstruct 13 = .ok (.ireturn, 1) := by decide +kernel
theorem dX6_reconstruct_14 : decode cX6_reconstruct 14 = .ok (.aload_n 0, 1) := by decide +kernel
theorem dX6_reconstruct_15 : decode cX6_reconstruct 15 = .ok (.iload_n 1, 1) := by decide +kernel
theorem dX6_reconstruct_16 : decode cX6_reconstruct 16 = .ok (.invokevirtual 198, 3) := by decide +kernel
theorem dX6_reconstruct_19 : decode cX6_reconstruct 19 = .ok (.ifCond .eq 8, 3) := by decide +kernel
theorem dX6_reconstruct_22 : decode cX6_reconstruct 22 = .ok (.bipush (-105), 2) := by decide +kernel
theorem dX6_reconstruct_24 : decode cX6_reconstruct 24 = .ok (.goto 8, 3) := by decide +kernel
theorem dX6_reconstruct_27 : decode cX6_reconstruct 27 = .ok (.aload_n 0, 1) := by decide +kernel
theorem dX6_reconstruct_28 : decode cX6_reconstruct 28 = .ok (.iload_n 1, 1) := by decide +kernel
theorem dX6_reconstruct_29 : decode cX6_reconstruct 29 = .ok (.invokevirtual 159, 3) := by decide +kernel
theorem dX6_reconstruct_32 : decode cX6_reconstruct 32 = .ok (.ireturn, 1) := by decide +kernel
set_option maxRecDepth 20000 in
theorem ggX6_coefficient_X0_hasEdge : GoodIn wsX6_coefficient wsX0_hasEdge := goodIn_r _ [7, 8, 45, 46, 47, 48, 49, 50, 51] (by decide +kernel) (by decide +kernel)
set_option maxRecDepth 20000 in
theorem gX6_coefficient_X0_hasEdge : GoodIn wsX6_coefficient (wsV RX6 109 RX0 yX0_hasEdge wsX0_hasEdge) := goodIn_app (goodIn_of _ (by decide +kernel)) ggX6_coefficient_X0_hasEdge
set_option maxRecDepth 20000 in
theorem ggX6_coefficient_X3_isInTree : GoodIn wsX6_coefficient wsX3_isInTree := goodIn_r _ [13, 14, 15, 16, 17, 52, 53, 54] (by decide +kernel) (by decide +kernel)
set_option maxRecDepth 20000 in
theorem gX6_coefficient_X3_isInTree : GoodIn wsX6_coefficient (wsV RX6 182 RX3 yX3_isInTree wsX3_isInTree) := goodIn_app (goodIn_of _ (by decide +kernel)) ggX6_coefficient_X3_isInTree
set_option maxRecDepth 20000 in
theorem ggX6_coefficient_X6_factorOfChord : GoodIn wsX6_coefficient wsX6_factorOfChord := goodIn_r _ [21, 2, 1, 22, 23, 24, 6, 25, 26, 27, 4, 5, 7, 8, 28, 29, 30, 31, 32, 33, 34, 35, 12, 36, 37, 15, 16, 17, 38, 39, 40, 41, 42, 43, 44, 45, 46, 47, 48, 49, 50, 51, 52, 53, 54] (by decide +kernel) (by decide +kernel)
set_option maxRecDepth 20000 in
theorem gX6_coefficient_X6_factorOfChord : GoodIn wsX6_coefficient (wsV RX6 201 RX6 yX6_factorOfChord wsX6_factorOfChord) := goodIn_app (goodIn_of _ (by decide +kernel)) ggX6_coefficient_X6_factorOfChord
theorem dX6_coefficient_0 : decode cX6_coefficient 0 = .ok (.aload_n 0, 1) := by decide +kernel
theorem dX6_coefficient_1 : decode cX6_coefficient 1 = .ok (.getfield 47, 3) := by decide +kernel
theorem dX6_coefficient_4 : decode cX6_coefficient 4 = .ok (.iload_n 1, 1) := by decide +kernel
theorem dX6_coefficient_5 : decode cX6_coefficient 5 = .ok (.invokevirtual 109, 3) := by decide +kernel
theorem dX6_coefficient_8 : decode cX6_coefficient 8 = .ok (.ifCond .eq 14, 3) := by decide +kernel
theorem dX6_coefficient_11 : decode cX6_coefficient 11 = .ok (.aload_n 0, 1) := by decide +kernel
theorem dX6_coefficient_12 : decode cX6_coefficient 12 = .ok (.getfield 47, 3) := by decide +kernel
theorem dX6_coefficient_15 : decode cX6_coefficient 15 = .ok (.iload_n 2, 1) := by decide +kernel
theorem dX6_coefficient_16 : decode cX6_coefficient 16 = .ok (.invokevirtual 109, 3) := by decide +kernel
theorem dX6_coefficient_19 : decode cX6_coefficient 19 = .ok (.ifCond .ne 6, 3) := by decide +kernel
theorem dX6_coefficient_22 : decode cX6_coefficient 22 = .ok (.bipush (-101), 2) := by decide +kernel
theorem dX6_coefficient_24 : decode cX6_coefficient 24 = .ok (.ireturn, 1) := by decide +kernel
theorem dX6_coefficient_25 : decode cX6_coefficient 25 = .ok (.aload_n 0, 1) := by decide +kernel
theorem dX6_coefficient_26 : decode cX6_coefficient 26 = .ok (.getfield 26, 3) := by decide +kernel
theorem dX6_coefficient_29 : decode cX6_coefficient 29 = .ok (.iload_n 1, 1) := by decide +kernel
theorem dX6_coefficient_30 : decode cX6_coefficient 30 = .ok (.invokevirtual 182, 3) := by decide +kernel
theorem dX6_coefficient_33 : decode cX6_coefficient 33 = .ok (.ifCond .eq 14, 3) := by decide +kernel
theorem dX6_coefficient_36 : decode cX6_coefficient 36 = .ok (.aload_n 0, 1) := by decide +kernel
theorem dX6_coefficient_37 : decode cX6_coefficient 37 = .ok (.getfield 26, 3) := by decide +kernel
theorem dX6_coefficient_40 : decode cX6_coefficient 40 = .ok (.iload_n 2, 1) := by decide +kernel
theorem dX6_coefficient_41 : decode cX6_coefficient 41 = .ok (.invokevirtual 182, 3) := by decide +kernel
theorem dX6_coefficient_44 : decode cX6_coefficient 44 = .ok (.ifCond .eq 6, 3) := by decide +kernel
theorem dX6_coefficient_47 : decode cX6_coefficient 47 = .ok (.bipush (-104), 2) := by decide +kernel
theorem dX6_coefficient_49 : decode cX6_coefficient 49 = .ok (.ireturn, 1) := by decide +kernel
theorem dX6_coefficient_50 : decode cX6_coefficient 50 = .ok (.aload_n 0, 1) := by decide +kernel
theorem dX6_coefficient_51 : decode cX6_coefficient 51 = .ok (.iload_n 1, 1) := by decide +kernel
theorem dX6_coefficient_52 : decode cX6_coefficient 52 = .ok (.iload_n 2, 1) := by decide +kernel
theorem dX6_coefficient_53 : decode cX6_coefficient 53 = .ok (.invokevirtual 201, 3) := by decide +kernel
theorem dX6_coefficient_56 : decode cX6_coefficient 56 = .ok (.ireturn, 1) := by decide +kernel
set_option maxRecDepth 20000 in
theorem ggX6_executions_X0_hasBlock : GoodIn wsX6_executions wsX0_hasBlock := goodIn_r _ [7, 8, 96, 97, 98, 99, 100, 101, 102] (by decide +kernel) (by decide +kernel)
set_option maxRecDepth 20000 in
theorem gX6_executions_X0_hasBlock : GoodIn wsX6_executions (wsV RX6 204 RX0 yX0_hasBlock wsX0_hasBlock) := goodIn_app (goodIn_of _ (by decide +kernel)) ggX6_executions_X0_hasBlock
set_option maxRecDepth 20000 in
theorem ggX6_executions_X4_finished : GoodIn wsX6_executions wsX4_finished := goodIn_r _ [13, 14, 103, 104, 105, 106, 107] (by decide +kernel) (by decide +kernel)
set_option maxRecDepth 20000 in
theorem gX6_executions_X4_finished : GoodIn wsX6_executions (wsV RX6 149 RX4 yX4_finished wsX4_finished) := goodIn_app (goodIn_of _ (by decide +kernel)) ggX6_executions_X4_finished
set_option maxRecDepth 20000 in
theorem ggX6_executions_X4_present : GoodIn wsX6_executions wsX4_present := goodIn_r _ [18, 19, 103, 104, 105, 106, 107] (by decide +kernel) (by decide +kernel)
set_option maxRecDepth 20000 in
theorem gX6_executions_X4_present : GoodIn wsX6_executions (wsV RX6 142 RX4 yX4_present wsX4_present) := goodIn_app (goodIn_of _ (by decide +kernel)) ggX6_executions_X4_present
set_option maxRecDepth 20000 in
theorem ggX6_executions_X0_edges : GoodIn wsX6_executions wsX0_edges := goodIn_r _ [23, 24, 96, 97, 98, 99, 100, 101, 102] (by decide +kernel) (by decide +kernel)
set_option maxRecDepth 20000 in
theorem gX6_executions_X0_edges : GoodIn wsX6_executions (wsV RX6 106 RX0 yX0_edges wsX0_edges) := goodIn_app (goodIn_of _ (by decide +kernel)) ggX6_executions_X0_edges
set_option maxRecDepth 20000 in
theorem ggX6_executions_X0_target : GoodIn wsX6_executions wsX0_target := goodIn_r _ [28, 29, 30, 31, 32, 6, 33, 24, 96, 97, 98, 99, 100, 101, 102] (by decide +kernel) (by decide +kernel)
set_option maxRecDepth 20000 in
theorem gX6_executions_X0_target : GoodIn wsX6_executions (wsV RX6 179 RX0 yX0_target wsX0_target) := goodIn_app (goodIn_of _ (by decide +kernel)) ggX6_executions_X0_target
set_option maxRecDepth 20000 in
theorem ggX6_executions_X6_isUncertain : GoodIn wsX6_executions wsX6_isUncertain := goodIn_r _ [38, 39, 1, 40, 41, 42, 43, 44, 45, 46, 37, 47, 48, 49, 50, 51, 2, 52, 53, 54, 12, 55, 56, 57, 58, 59, 60, 61, 20, 21, 22, 6, 23, 24, 62, 63, 64, 65, 66, 67, 68, 69, 70, 30, 31, 32, 33, 25, 26, 27, 28, 29, 71, 72, 73, 74, 75, 89, 90, 91, 92, 93, 94, 95, 108, 109, 110, 103, 104, 105, 106, 107, 96, 97, 98, 99, 100, 101, 102] (by decide +kernel) (by decide +kernel)
set_option maxRecDepth 20000 in
theorem gX6_executions_X6_isUncertain : GoodIn wsX6_executions (wsV RX6 198 RX6 yX6_isUncertain wsX6_isUncertain) := goodIn_app (goodIn_of _ (by decide +kernel)) ggX6_executions_X6_isUncertain
set_option maxRecDepth 20000 in
theorem ggX6_executions_X6_reconstructedCount : GoodIn wsX6_executions wsX6_reconstructedCount := goodIn_r _ [79, 39, 2, 1, 40, 41, 42, 43, 44, 45, 46, 37, 47, 80, 58, 59, 12, 60, 61, 81, 82, 83, 84, 15, 16, 17, 18, 19, 85, 86, 87, 6, 88, 8, 71, 72, 73, 74, 75, 20, 21, 22, 23, 24, 62, 63, 64, 65, 66, 67, 68, 69, 70, 30, 31, 32, 33, 25, 26, 27, 28, 29, 89, 90, 91, 92, 93, 94, 95, 108, 109, 110, 103, 104, 105, 106, 107, 96, 97, 98, 99, 100, 101, 102] (by decide +kernel) (by decide +kernel)
set_option maxRecDepth 20000 in
theorem gX6_executions_X6_reconstructedCount : GoodIn wsX6_executions (wsV RX6 159 RX6 yX6_reconstructedCount wsX6_reconstructedCount) := goodIn_app (goodIn_of _ (by decide +kernel)) ggX6_executions_X6_reconstructedCount
theorem dX6_executions_0 : decode cX6_executions 0 = .ok (.aload_n 0, 1) := by decide +kernel
theorem dX6_executions_1 : decode cX6_executions 1 = .ok (.getfield 47, 3) := by decide +kernel
theorem dX6_executions_4 : decode cX6_executions 4 = .ok (.iload_n 1, 1) := by decide +kernel
theorem dX6_executions_5 : decode cX6_executions 5 = .ok (.invokevirtual 204, 3) := by decide +kernel
theorem dX6_executions_8 : decode cX6_executions 8 = .ok (.ifCond .ne 6, 3) := by decide +kernel
theorem dX6_executions_11 : decode cX6_executions 11 = .ok (.bipush (-101), 2) := by decide +kernel
theorem dX6_executions_13 : decode cX6_executions 13 = .ok (.ireturn, 1) := by decide +kernel
theorem dX6_executions_14 : decode cX6_executions 14 = .ok (.iload_n 1, 1) := by decide +kernel
theorem dX6_executions_15 : decode cX6_executions 15 = .ok (.ifCond .ne 27, 3) := by decide +kernel
theorem dX6_executions_18 : decode cX6_executions 18 = .ok (.aload_n 0, 1) := by decide +kernel
theorem dX6_executions_19 : decode cX6_executions 19 = .ok (.getfield 33, 3) := by decide +kernel
theorem dX6_executions_22 : decode cX6_executions 22 = .ok (.invokevirtual 149, 3) := by decide +kernel
theorem dX6_executions_25 : decode cX6_executions 25 = .ok (.aload_n 0, 1) := by decide +kernel
theorem dX6_executions_26 : decode cX6_executions 26 = .ok (.getfield 33, 3) := by decide +kernel
theorem dX6_executions_29 : decode cX6_executions 29 = .ok (.invokevirtual 142, 3) := by decide +kernel
theorem dX6_executions_32 : decode cX6_executions 32 = .ok (.ifCond .ne 7, 3) := by decide +kernel
theorem dX6_executions_35 : decode cX6_executions 35 = .ok (.iconst 0, 1) := by decide +kernel
theorem dX6_executions_36 : decode cX6_executions 36 = .ok (.goto 4, 3) := by decide +kernel
theorem dX6_executions_39 : decode cX6_executions 39 = .ok (.iconst 1, 1) := by decide +kernel
theorem dX6_executions_40 : decode cX6_executions 40 = .ok (.iadd, 1) := by decide +kernel
theorem dX6_executions_41 : decode cX6_executions 41 = .ok (.ireturn, 1) := by decide +kernel
theorem dX6_executions_42 : decode cX6_executions 42 = .ok (.iconst 0, 1) := by decide +kernel
theorem dX6_executions_43 : decode cX6_executions 43 = .ok (.istore_n 2, 1) := by decide +kernel
theorem dX6_executions_44 : decode cX6_executions 44 = .ok (.iconst 0, 1) := by decide +kernel
theorem dX6_executions_45 : decode cX6_executions 45 = .ok (.istore_n 3, 1) := by decide +kernel
theorem dX6_executions_46 : decode cX6_executions 46 = .ok (.iload_n 3, 1) := by decide +kernel
theorem dX6_executions_47 : decode cX6_executions 47 = .ok (.aload_n 0, 1) := by decide +kernel
theorem dX6_executions_48 : decode cX6_executions 48 = .ok (.getfield 47, 3) := by decide +kernel
theorem dX6_executions_51 : decode cX6_executions 51 = .ok (.invokevirtual 106, 3) := by decide +kernel
theorem dX6_executions_54 : decode cX6_executions 54 = .ok (.if_icmp .ge 40, 3) := by decide +kernel
theorem dX6_executions_57 : decode cX6_executions 57 = .ok (.aload_n 0, 1) := by decide +kernel
theorem dX6_executions_58 : decode cX6_executions 58 = .ok (.getfield 47, 3) := by decide +kernel
theorem dX6_executions_61 : decode cX6_executions 61 = .ok (.iload_n 3, 1) := by decide +kernel
theorem dX6_executions_62 : decode cX6_executions 62 = .ok (.invokevirtual 179, 3) := by decide +kernel
theorem dX6_executions_65 : decode cX6_executions 65 = .ok (.iload_n 1, 1) := by decide +kernel
theorem dX6_executions_66 : decode cX6_executions 66 = .ok (.if_icmp .ne 22, 3) := by decide +kernel
theorem dX6_executions_69 : decode cX6_executions 69 = .ok (.aload_n 0, 1) := by decide +kernel
theorem dX6_executions_70 : decode cX6_executions 70 = .ok (.iload_n 3, 1) := by decide +kernel
theorem dX6_executions_71 : decode cX6_executions 71 = .ok (.invokevirtual 198, 3) := by decide +kernel
theorem dX6_executions_74 : decode cX6_executions 74 = .ok (.ifCond .eq 6, 3) := by decide +kernel
theorem dX6_executions_77 : decode cX6_executions 77 = .ok (.bipush (-105), 2) := by decide +kernel
theorem dX6_executions_79 : decode cX6_executions 79 = .ok (.ireturn, 1) := by decide +kernel
end
section
theorem dX6_executions_80 : decode cX6_executions 80 = .ok (.iload_n 2, 1) := by decide +kernel
theorem dX6_executions_81 : decode cX6_executions 81 = .ok (.aload_n 0, 1) := by decide +kernel
theorem dX6_executions_82 : decode cX6_executions 82 = .ok (.iload_n 3, 1) := by decide +kernel
theorem dX6_executions_83 : decode cX6_executions 83 = .ok (.invokevirtual 159, 3) := by decide +kernel
theorem dX6_executions_86 : decode cX6_executions 86 = .ok (.iadd, 1) := by decide +kernel
theorem dX6_executions_87 : decode cX6_executions 87 = .ok (.istore_n 2, 1) := by decide +kernel
theorem dX6_executions_88 : decode cX6_executions 88 = .ok (.iinc 3 1, 3) := by decide +kernel
theorem dX6_executions_91 : decode cX6_executions 91 = .ok (.goto (-45), 3) := by decide +kernel
theorem dX6_executions_94 : decode cX6_executions 94 = .ok (.iload_n 2, 1) := by decide +kernel
theorem dX6_executions_95 : decode cX6_executions 95 = .ok (.ireturn, 1) := by decide +kernel
set_option maxRecDepth 20000 in
theorem ggX6_dependents_X0_hasEdge : GoodIn wsX6_dependents wsX0_hasEdge := goodIn_r _ [7, 8, 49, 50, 51, 52, 53, 54, 55] (by decide +kernel) (by decide +kernel)
set_option maxRecDepth 20000 in
theorem gX6_dependents_X0_hasEdge : GoodIn wsX6_dependents (wsV RX6 109 RX0 yX0_hasEdge wsX0_hasEdge) := goodIn_app (goodIn_of _ (by decide +kernel)) ggX6_dependents_X0_hasEdge
set_option maxRecDepth 20000 in
theorem ggX6_dependents_X3_isInTree : GoodIn wsX6_dependents wsX3_isInTree := goodIn_r _ [13, 14, 15, 16, 17, 56, 57, 58] (by decide +kernel) (by decide +kernel)
set_option maxRecDepth 20000 in
theorem gX6_dependents_X3_isInTree : GoodIn wsX6_dependents (wsV RX6 182 RX3 yX3_isInTree wsX3_isInTree) := goodIn_app (goodIn_of _ (by decide +kernel)) ggX6_dependents_X3_isInTree
set_option maxRecDepth 20000 in
theorem ggX6_dependents_X0_edges : GoodIn wsX6_dependents wsX0_edges := goodIn_r _ [21, 8, 49, 50, 51, 52, 53, 54, 55] (by decide +kernel) (by decide +kernel)
set_option maxRecDepth 20000 in
theorem gX6_dependents_X0_edges : GoodIn wsX6_dependents (wsV RX6 106 RX0 yX0_edges wsX0_edges) := goodIn_app (goodIn_of _ (by decide +kernel)) ggX6_dependents_X0_edges
set_option maxRecDepth 20000 in
theorem ggX6_dependents_X6_factorOfChord : GoodIn wsX6_dependents wsX6_factorOfChord := goodIn_r _ [25, 2, 1, 26, 27, 28, 6, 29, 30, 31, 4, 5, 7, 8, 32, 33, 34, 35, 36, 37, 38, 39, 12, 40, 41, 15, 16, 17, 42, 43, 44, 45, 46, 47, 48, 49, 50, 51, 52, 53, 54, 55, 56, 57, 58] (by decide +kernel) (by decide +kernel)
set_option maxRecDepth 20000 in
theorem gX6_dependents_X6_factorOfChord : GoodIn wsX6_dependents (wsV RX6 201 RX6 yX6_factorOfChord wsX6_factorOfChord) := goodIn_app (goodIn_of _ (by decide +kernel)) ggX6_dependents_X6_factorOfChord
theorem dX6_dependents_0 : decode cX6_dependents 0 = .ok (.aload_n 0, 1) := by decide +kernel
theorem dX6_dependents_1 : decode cX6_dependents 1 = .ok (.getfield 47, 3) := by decide +kernel
theorem dX6_dependents_4 : decode cX6_dependents 4 = .ok (.iload_n 1, 1) := by decide +kernel
theorem dX6_dependents_5 : decode cX6_dependents 5 = .ok (.invokevirtual 109, 3) := by decide +kernel
theorem dX6_dependents_8 : decode cX6_dependents 8 = .ok (.ifCond .ne 6, 3) := by decide +kernel
theorem dX6_dependents_11 : decode cX6_dependents 11 = .ok (.bipush (-101), 2) := by decide +kernel
theorem dX6_dependents_13 : decode cX6_dependents 13 = .ok (.ireturn, 1) := by decide +kernel
theorem dX6_dependents_14 : decode cX6_dependents 14 = .ok (.aload_n 0, 1) := by decide +kernel
theorem dX6_dependents_15 : decode cX6_dependents 15 = .ok (.getfield 26, 3) := by decide +kernel
theorem dX6_dependents_18 : decode cX6_dependents 18 = .ok (.iload_n 1, 1) := by decide +kernel
theorem dX6_dependents_19 : decode cX6_dependents 19 = .ok (.invokevirtual 182, 3) := by decide +kernel
theorem dX6_dependents_22 : decode cX6_dependents 22 = .ok (.ifCond .eq 6, 3) := by decide +kernel
theorem dX6_dependents_25 : decode cX6_dependents 25 = .ok (.bipush (-104), 2) := by decide +kernel
theorem dX6_dependents_27 : decode cX6_dependents 27 = .ok (.ireturn, 1) := by decide +kernel
theorem dX6_dependents_28 : decode cX6_dependents 28 = .ok (.iconst 1, 1) := by decide +kernel
theorem dX6_dependents_29 : decode cX6_dependents 29 = .ok (.istore_n 2, 1) := by decide +kernel
theorem dX6_dependents_30 : decode cX6_dependents 30 = .ok (.iconst 0, 1) := by decide +kernel
theorem dX6_dependents_31 : decode cX6_dependents 31 = .ok (.istore_n 3, 1) := by decide +kernel
theorem dX6_dependents_32 : decode cX6_dependents 32 = .ok (.iload_n 3, 1) := by decide +kernel
theorem dX6_dependents_33 : decode cX6_dependents 33 = .ok (.aload_n 0, 1) := by decide +kernel
theorem dX6_dependents_34 : decode cX6_dependents 34 = .ok (.getfield 47, 3) := by decide +kernel
theorem dX6_dependents_37 : decode cX6_dependents 37 = .ok (.invokevirtual 106, 3) := by decide +kernel
theorem dX6_dependents_40 : decode cX6_dependents 40 = .ok (.if_icmp .ge 32, 3) := by decide +kernel
theorem dX6_dependents_43 : decode cX6_dependents 43 = .ok (.aload_n 0, 1) := by decide +kernel
theorem dX6_dependents_44 : decode cX6_dependents 44 = .ok (.getfield 26, 3) := by decide +kernel
theorem dX6_dependents_47 : decode cX6_dependents 47 = .ok (.iload_n 3, 1) := by decide +kernel
theorem dX6_dependents_48 : decode cX6_dependents 48 = .ok (.invokevirtual 182, 3) := by decide +kernel
theorem dX6_dependents_51 : decode cX6_dependents 51 = .ok (.ifCond .eq 15, 3) := by decide +kernel
theorem dX6_dependents_54 : decode cX6_dependents 54 = .ok (.aload_n 0, 1) := by decide +kernel
theorem dX6_dependents_55 : decode cX6_dependents 55 = .ok (.iload_n 3, 1) := by decide +kernel
theorem dX6_dependents_56 : decode cX6_dependents 56 = .ok (.iload_n 1, 1) := by decide +kernel
theorem dX6_dependents_57 : decode cX6_dependents 57 = .ok (.invokevirtual 201, 3) := by decide +kernel
theorem dX6_dependents_60 : decode cX6_dependents 60 = .ok (.ifCond .eq 6, 3) := by decide +kernel
theorem dX6_dependents_63 : decode cX6_dependents 63 = .ok (.iinc 2 1, 3) := by decide +kernel
theorem dX6_dependents_66 : decode cX6_dependents 66 = .ok (.iinc 3 1, 3) := by decide +kernel
theorem dX6_dependents_69 : decode cX6_dependents 69 = .ok (.goto (-37), 3) := by decide +kernel
theorem dX6_dependents_72 : decode cX6_dependents 72 = .ok (.iload_n 2, 1) := by decide +kernel
theorem dX6_dependents_73 : decode cX6_dependents 73 = .ok (.ireturn, 1) := by decide +kernel
set_option maxRecDepth 20000 in
theorem ggX6_saturatedCount_X0_edges : GoodIn wsX6_saturatedCount wsX0_edges := goodIn_r _ [6, 7, 41, 42, 43, 44, 45, 46, 47] (by decide +kernel) (by decide +kernel)
set_option maxRecDepth 20000 in
theorem gX6_saturatedCount_X0_edges : GoodIn wsX6_saturatedCount (wsV RX6 106 RX0 yX0_edges wsX0_edges) := goodIn_app (goodIn_of _ (by decide +kernel)) ggX6_saturatedCount_X0_edges
set_option maxRecDepth 20000 in
theorem ggX6_saturatedCount_X6_isSaturatedChord : GoodIn wsX6_saturatedCount wsX6_isSaturatedChord := goodIn_r _ [12, 13, 14, 15, 16, 17, 18, 19, 20, 21, 11, 22, 23, 24, 25, 26, 27, 28, 29, 30, 31, 32, 33, 34, 35, 36, 37, 38, 39, 40, 48, 49, 50, 51, 52, 53, 54, 55] (by decide +kernel) (by decide +kernel)
set_option maxRecDepth 20000 in
theorem gX6_saturatedCount_X6_isSaturatedChord : GoodIn wsX6_saturatedCount (wsV RX6 207 RX6 yX6_isSaturatedChord wsX6_isSaturatedChord) := goodIn_app (goodIn_of _ (by decide +kernel)) ggX6_saturatedCount_X6_isSaturatedChord
theorem dX6_saturatedCount_0 : decode cX6_saturatedCount 0 = .ok (.iconst 0, 1) := by decide +kernel
theorem dX6_saturatedCount_1 : decode cX6_saturatedCount 1 = .ok (.istore_n 1, 1) := by decide +kernel
theorem dX6_saturatedCount_2 : decode cX6_saturatedCount 2 = .ok (.iconst 0, 1) := by decide +kernel
theorem dX6_saturatedCount_3 : decode cX6_saturatedCount 3 = .ok (.istore_n 2, 1) := by decide +kernel
theorem dX6_saturatedCount_4 : decode cX6_saturatedCount 4 = .ok (.iload_n 2, 1) := by decide +kernel
theorem dX6_saturatedCount_5 : decode cX6_saturatedCount 5 = .ok (.aload_n 0, 1) := by decide +kernel
theorem dX6_saturatedCount_6 : decode cX6_saturatedCount 6 = .ok (.getfield 47, 3) := by decide +kernel
theorem dX6_saturatedCount_9 : decode cX6_saturatedCount 9 = .ok (.invokevirtual 106, 3) := by decide +kernel
theorem dX6_saturatedCount_12 : decode cX6_saturatedCount 12 = .ok (.if_icmp .ge 20, 3) := by decide +kernel
theorem dX6_saturatedCount_15 : decode cX6_saturatedCount 15 = .ok (.aload_n 0, 1) := by decide +kernel
theorem dX6_saturatedCount_16 : decode cX6_saturatedCount 16 = .ok (.iload_n 2, 1) := by decide +kernel
theorem dX6_saturatedCount_17 : decode cX6_saturatedCount 17 = .ok (.invokevirtual 207, 3) := by decide +kernel
theorem dX6_saturatedCount_20 : decode cX6_saturatedCount 20 = .ok (.ifCond .eq 6, 3) := by decide +kernel
theorem dX6_saturatedCount_23 : decode cX6_saturatedCount 23 = .ok (.iinc 1 1, 3) := by decide +kernel
theorem dX6_saturatedCount_26 : decode cX6_saturatedCount 26 = .ok (.iinc 2 1, 3) := by decide +kernel
theorem dX6_saturatedCount_29 : decode cX6_saturatedCount 29 = .ok (.goto (-25), 3) := by decide +kernel
theorem dX6_saturatedCount_32 : decode cX6_saturatedCount 32 = .ok (.iload_n 1, 1) := by decide +kernel
theorem dX6_saturatedCount_33 : decode cX6_saturatedCount 33 = .ok (.ireturn, 1) := by decide +kernel
set_option maxRecDepth 20000 in
theorem ggX6_presentBlock_X4_present : GoodIn wsX6_presentBlock wsX4_present := goodIn_r _ [6, 7, 15, 16, 17, 18, 19] (by decide +kernel) (by decide +kernel)
set_option maxRecDepth 20000 in
theorem gX6_presentBlock_X4_present : GoodIn wsX6_presentBlock (wsV RX6 142 RX4 yX4_present wsX4_present) := goodIn_app (goodIn_of _ (by decide +kernel)) ggX6_presentBlock_X4_present
theorem dX6_presentBlock_0 : decode cX6_presentBlock 0 = .ok (.aload_n 0, 1) := by decide +kernel
theorem dX6_presentBlock_1 : decode cX6_presentBlock 1 = .ok (.getfield 33, 3) := by decide +kernel
theorem dX6_presentBlock_4 : decode cX6_presentBlock 4 = .ok (.invokevirtual 142, 3) := by decide +kernel
theorem dX6_presentBlock_7 : decode cX6_presentBlock 7 = .ok (.ireturn, 1) := by decide +kernel
set_option maxRecDepth 20000 in
theorem ggX6_finishedRuns_X4_finished : GoodIn wsX6_finishedRuns wsX4_finished := goodIn_r _ [6, 7, 15, 16, 17, 18, 19] (by decide +kernel) (by decide +kernel)
set_option maxRecDepth 20000 in
theorem gX6_finishedRuns_X4_finished : GoodIn wsX6_finishedRuns (wsV RX6 149 RX4 yX4_finished wsX4_finished) := goodIn_app (goodIn_of _ (by decide +kernel)) ggX6_finishedRuns_X4_finished
theorem dX6_finishedRuns_0 : decode cX6_finishedRuns 0 = .ok (.aload_n 0, 1) := by decide +kernel
theorem dX6_finishedRuns_1 : decode cX6_finishedRuns 1 = .ok (.getfield 33, 3) := by decide +kernel
theorem dX6_finishedRuns_4 : decode cX6_finishedRuns 4 = .ok (.invokevirtual 149, 3) := by decide +kernel
theorem dX6_finishedRuns_7 : decode cX6_finishedRuns 7 = .ok (.ireturn, 1) := by decide +kernel
theorem dX6_takeDraft_0 : decode cX6_takeDraft 0 = .ok (.aload_n 0, 1) := by decide +kernel
theorem dX6_takeDraft_1 : decode cX6_takeDraft 1 = .ok (.getfield 51, 3) := by decide +kernel
theorem dX6_takeDraft_4 : decode cX6_takeDraft 4 = .ok (.astore_n 1, 1) := by decide +kernel
theorem dX6_takeDraft_5 : decode cX6_takeDraft 5 = .ok (.aload_n 0, 1) := by decide +kernel
theorem dX6_takeDraft_6 : decode cX6_takeDraft 6 = .ok (.aload_n 0, 1) := by decide +kernel
theorem dX6_takeDraft_7 : decode cX6_takeDraft 7 = .ok (.getfield 47, 3) := by decide +kernel
theorem dX6_takeDraft_10 : decode cX6_takeDraft 10 = .ok (.putfield 51, 3) := by decide +kernel
theorem dX6_takeDraft_13 : decode cX6_takeDraft 13 = .ok (.aload_n 0, 1) := by decide +kernel
theorem dX6_takeDraft_14 : decode cX6_takeDraft 14 = .ok (.aload_n 1, 1) := by decide +kernel
theorem dX6_takeDraft_15 : decode cX6_takeDraft 15 = .ok (.putfield 47, 3) := by decide +kernel
theorem dX6_takeDraft_18 : decode cX6_takeDraft 18 = .ok (.return_, 1) := by decide +kernel
set_option maxRecDepth 20000 in
theorem ggX6_chosenEdge_X4_present : GoodIn wsX6_chosenEdge wsX4_present := goodIn_r _ [10, 11, 36, 37, 38, 39, 40] (by decide +kernel) (by decide +kernel)
set_option maxRecDepth 20000 in
theorem gX6_chosenEdge_X4_present : GoodIn wsX6_chosenEdge (wsV RX6 142 RX4 yX4_present wsX4_present) := goodIn_app (goodIn_of _ (by decide +kernel)) ggX6_chosenEdge_X4_present
set_option maxRecDepth 20000 in
theorem ggX6_chosenEdge_X0_leavingCount : GoodIn wsX6_chosenEdge wsX0_leavingCount := goodIn_r _ [16, 17, 18, 19, 20, 15, 21, 22, 41, 42, 43, 44, 45, 46, 47] (by decide +kernel) (by decide +kernel)
set_option maxRecDepth 20000 in
theorem gX6_chosenEdge_X0_leavingCount : GoodIn wsX6_chosenEdge (wsV RX6 216 RX0 yX0_leavingCount wsX0_leavingCount) := goodIn_app (goodIn_of _ (by decide +kernel)) ggX6_chosenEdge_X0_leavingCount
set_option maxRecDepth 20000 in
theorem ggX6_chosenEdge_X0_leavingEdge : GoodIn wsX6_chosenEdge wsX0_leavingEdge := goodIn_r _ [26, 27, 28, 13, 14, 15, 16, 17, 18, 19, 20, 21, 22, 41, 42, 43, 44, 45, 46, 47] (by decide +kernel) (by decide +kernel)
set_option maxRecDepth 20000 in
theorem gX6_chosenEdge_X0_leavingEdge : GoodIn wsX6_chosenEdge (wsV RX6 219 RX0 yX0_leavingEdge wsX0_leavingEdge) := goodIn_app (goodIn_of _ (by decide +kernel)) ggX6_chosenEdge_X0_leavingEdge
theorem dX6_chosenEdge_0 : decode cX6_chosenEdge 0 = .ok (.ldc2_w 210, 3) := by decide +kernel
theorem dX6_chosenEdge_3 : decode cX6_chosenEdge 3 = .ok (.iload_n 1, 1) := by decide +kernel
theorem dX6_chosenEdge_4 : decode cX6_chosenEdge 4 = .ok (.i2l, 1) := by decide +kernel
theorem dX6_chosenEdge_5 : decode cX6_chosenEdge 5 = .ok (.lmul, 1) := by decide +kernel
theorem dX6_chosenEdge_6 : decode cX6_chosenEdge 6 = .ok (.ldc2_w 212, 3) := by decide +kernel
theorem dX6_chosenEdge_9 : decode cX6_chosenEdge 9 = .ok (.iload_n 2, 1) := by decide +kernel
theorem dX6_chosenEdge_10 : decode cX6_chosenEdge 10 = .ok (.i2l, 1) := by decide +kernel
theorem dX6_chosenEdge_11 : decode cX6_chosenEdge 11 = .ok (.lmul, 1) := by decide +kernel
theorem dX6_chosenEdge_12 : decode cX6_chosenEdge 12 = .ok (.ladd, 1) := by decide +kernel
theorem dX6_chosenEdge_13 : decode cX6_chosenEdge 13 = .ok (.lconst 1, 1) := by decide +kernel
theorem dX6_chosenEdge_14 : decode cX6_chosenEdge 14 = .ok (.ladd, 1) := by decide +kernel
theorem dX6_chosenEdge_15 : decode cX6_chosenEdge 15 = .ok (.lstore_n 3, 1) := by decide +kernel
theorem dX6_chosenEdge_16 : decode cX6_chosenEdge 16 = .ok (.lload_n 3, 1) := by decide +kernel
theorem dX6_chosenEdge_17 : decode cX6_chosenEdge 17 = .ok (.lload_n 3, 1) := by decide +kernel
theorem dX6_chosenEdge_18 : decode cX6_chosenEdge 18 = .ok (.lmul, 1) := by decide +kernel
theorem dX6_chosenEdge_19 : decode cX6_chosenEdge 19 = .ok (.ldc2_w 214, 3) := by decide +kernel
theorem dX6_chosenEdge_22 : decode cX6_chosenEdge 22 = .ok (.lrem, 1) := by decide +kernel
theorem dX6_chosenEdge_23 : decode cX6_chosenEdge 23 = .ok (.lstore 5, 2) := by decide +kernel
theorem dX6_chosenEdge_25 : decode cX6_chosenEdge 25 = .ok (.aload_n 0, 1) := by decide +kernel
theorem dX6_chosenEdge_26 : decode cX6_chosenEdge 26 = .ok (.getfield 47, 3) := by decide +kernel
theorem dX6_chosenEdge_29 : decode cX6_chosenEdge 29 = .ok (.aload_n 0, 1) := by decide +kernel
theorem dX6_chosenEdge_30 : decode cX6_chosenEdge 30 = .ok (.getfield 33, 3) := by decide +kernel
theorem dX6_chosenEdge_33 : decode cX6_chosenEdge 33 = .ok (.invokevirtual 142, 3) := by decide +kernel
theorem dX6_chosenEdge_36 : decode cX6_chosenEdge 36 = .ok (.invokevirtual 216, 3) := by decide +kernel
theorem dX6_chosenEdge_39 : decode cX6_chosenEdge 39 = .ok (.istore 7, 2) := by decide +kernel
theorem dX6_chosenEdge_41 : decode cX6_chosenEdge 41 = .ok (.iload 7, 2) := by decide +kernel
theorem dX6_chosenEdge_43 : decode cX6_chosenEdge 43 = .ok (.ifCond .gt 5, 3) := by decide +kernel
theorem dX6_chosenEdge_46 : decode cX6_chosenEdge 46 = .ok (.iconst (-1), 1) := by decide +kernel
theorem dX6_chosenEdge_47 : decode cX6_chosenEdge 47 = .ok (.ireturn, 1) := by decide +kernel
theorem dX6_chosenEdge_48 : decode cX6_chosenEdge 48 = .ok (.aload_n 0, 1) := by decide +kernel
theorem dX6_chosenEdge_49 : decode cX6_chosenEdge 49 = .ok (.getfield 47, 3) := by decide +kernel
theorem dX6_chosenEdge_52 : decode cX6_chosenEdge 52 = .ok (.aload_n 0, 1) := by decide +kernel
theorem dX6_chosenEdge_53 : decode cX6_chosenEdge 53 = .ok (.getfield 33, 3) := by decide +kernel
theorem dX6_chosenEdge_56 : decode cX6_chosenEdge 56 = .ok (.invokevirtual 142, 3) := by decide +kernel
theorem dX6_chosenEdge_59 : decode cX6_chosenEdge 59 = .ok (.lload 5, 2) := by decide +kernel
theorem dX6_chosenEdge_61 : decode cX6_chosenEdge 61 = .ok (.iload 7, 2) := by decide +kernel
theorem dX6_chosenEdge_63 : decode cX6_chosenEdge 63 = .ok (.i2l, 1) := by decide +kernel
theorem dX6_chosenEdge_64 : decode cX6_chosenEdge 64 = .ok (.lrem, 1) := by decide +kernel
theorem dX6_chosenEdge_65 : decode cX6_chosenEdge 65 = .ok (.l2i, 1) := by decide +kernel
theorem dX6_chosenEdge_66 : decode cX6_chosenEdge 66 = .ok (.invokevirtual 219, 3) := by decide +kernel
theorem dX6_chosenEdge_69 : decode cX6_chosenEdge 69 = .ok (.ireturn, 1) := by decide +kernel
set_option maxRecDepth 20000 in
theorem ggX6_factorOfChord_X0_source : GoodIn wsX6_factorOfChord wsX0_source := goodIn_r _ [7, 8, 9, 10, 11, 6, 12, 13, 35, 36, 37, 38, 39, 40, 41] (by decide +kernel) (by decide +kernel)
set_option maxRecDepth 20000 in
theorem gX6_factorOfChord_X0_source : GoodIn wsX6_factorOfChord (wsV RX6 139 RX0 yX0_source wsX0_source) := goodIn_app (goodIn_of _ (by decide +kernel)) ggX6_factorOfChord_X0_source
set_option maxRecDepth 20000 in
theorem ggX6_factorOfChord_X0_target : GoodIn wsX6_factorOfChord wsX0_target := goodIn_r _ [17, 18, 9, 10, 11, 6, 12, 13, 35, 36, 37, 38, 39, 40, 41] (by decide +kernel) (by decide +kernel)
set_option maxRecDepth 20000 in
theorem gX6_factorOfChord_X0_target : GoodIn wsX6_factorOfChord (wsV RX6 179 RX0 yX0_target wsX0_target) := goodIn_app (goodIn_of _ (by decide +kernel)) ggX6_factorOfChord_X0_target
set_option maxRecDepth 20000 in
theorem ggX6_factorOfChord_X3_factor : GoodIn wsX6_factorOfChord wsX3_factor := goodIn_r _ [23, 24, 25, 26, 27, 42, 43, 44] (by decide +kernel) (by decide +kernel)
set_option maxRecDepth 20000 in
theorem gX6_factorOfChord_X3_factor : GoodIn wsX6_factorOfChord (wsV RX6 222 RX3 yX3_factor wsX3_factor) := goodIn_app (goodIn_of _ (by decide +kernel)) ggX6_factorOfChord_X3_factor
theorem dX6_factorOfChord_0 : decode cX6_factorOfChord 0 = .ok (.aload_n 0, 1) := by decide +kernel
theorem dX6_factorOfChord_1 : decode cX6_factorOfChord 1 = .ok (.getfield 26, 3) := by decide +kernel
theorem dX6_factorOfChord_4 : decode cX6_factorOfChord 4 = .ok (.iload_n 1, 1) := by decide +kernel
theorem dX6_factorOfChord_5 : decode cX6_factorOfChord 5 = .ok (.aload_n 0, 1) := by decide +kernel
theorem dX6_factorOfChord_6 : decode cX6_factorOfChord 6 = .ok (.getfield 47, 3) := by decide +kernel
theorem dX6_factorOfChord_9 : decode cX6_factorOfChord 9 = .ok (.iload_n 2, 1) := by decide +kernel
theorem dX6_factorOfChord_10 : decode cX6_factorOfChord 10 = .ok (.invokevirtual 139, 3) := by decide +kernel
theorem dX6_factorOfChord_13 : decode cX6_factorOfChord 13 = .ok (.aload_n 0, 1) := by decide +kernel
theorem dX6_factorOfChord_14 : decode cX6_factorOfChord 14 = .ok (.getfield 47, 3) := by decide +kernel
theorem dX6_factorOfChord_17 : decode cX6_factorOfChord 17 = .ok (.iload_n 2, 1) := by decide +kernel
theorem dX6_factorOfChord_18 : decode cX6_factorOfChord 18 = .ok (.invokevirtual 179, 3) := by decide +kernel
theorem dX6_factorOfChord_21 : decode cX6_factorOfChord 21 = .ok (.invokevirtual 222, 3) := by decide +kernel
theorem dX6_factorOfChord_24 : decode cX6_factorOfChord 24 = .ok (.ireturn, 1) := by decide +kernel
set_option maxRecDepth 20000 in
theorem ggX6_isSaturatedChord_X3_isInTree : GoodIn wsX6_isSaturatedChord wsX3_isInTree := goodIn_r _ [7, 8, 9, 10, 11, 30, 31, 32] (by decide +kernel) (by decide +kernel)
set_option maxRecDepth 20000 in
theorem gX6_isSaturatedChord_X3_isInTree : GoodIn wsX6_isSaturatedChord (wsV RX6 182 RX3 yX3_isInTree wsX3_isInTree) := goodIn_app (goodIn_of _ (by decide +kernel)) ggX6_isSaturatedChord_X3_isInTree
set_option maxRecDepth 20000 in
theorem ggX6_isSaturatedChord_X4_isAtLimit : GoodIn wsX6_isSaturatedChord wsX4_isAtLimit := goodIn_r _ [16, 17, 18, 19, 20, 15, 21, 22, 33, 34, 35, 36, 37] (by decide +kernel) (by decide +kernel)
set_option maxRecDepth 20000 in
theorem gX6_isSaturatedChord_X4_isAtLimit : GoodIn wsX6_isSaturatedChord (wsV RX6 226 RX4 yX4_isAtLimit wsX4_isAtLimit) := goodIn_app (goodIn_of _ (by decide +kernel)) ggX6_isSaturatedChord_X4_isAtLimit
theorem dX6_isSaturatedChord_0 : decode cX6_isSaturatedChord 0 = .ok (.aload_n 0, 1) := by decide +kernel
theorem dX6_isSaturatedChord_1 : decode cX6_isSaturatedChord 1 = .ok (.getfield 26, 3) := by decide +kernel
theorem dX6_isSaturatedChord_4 : decode cX6_isSaturatedChord 4 = .ok (.iload_n 1, 1) := by decide +kernel
theorem dX6_isSaturatedChord_5 : decode cX6_isSaturatedChord 5 = .ok (.invokevirtual 182, 3) := by decide +kernel
theorem dX6_isSaturatedChord_8 : decode cX6_isSaturatedChord 8 = .ok (.ifCond .ne 18, 3) := by decide +kernel
theorem dX6_isSaturatedChord_11 : decode cX6_isSaturatedChord 11 = .ok (.aload_n 0, 1) := by decide +kernel
theorem dX6_isSaturatedChord_12 : decode cX6_isSaturatedChord 12 = .ok (.getfield 33, 3) := by decide +kernel
theorem dX6_isSaturatedChord_15 : decode cX6_isSaturatedChord 15 = .ok (.iload_n 1, 1) := by decide +kernel
theorem dX6_isSaturatedChord_16 : decode cX6_isSaturatedChord 16 = .ok (.invokevirtual 226, 3) := by decide +kernel
theorem dX6_isSaturatedChord_19 : decode cX6_isSaturatedChord 19 = .ok (.ifCond .eq 7, 3) := by decide +kernel
theorem dX6_isSaturatedChord_22 : decode cX6_isSaturatedChord 22 = .ok (.iconst 1, 1) := by decide +kernel
theorem dX6_isSaturatedChord_23 : decode cX6_isSaturatedChord 23 = .ok (.goto 4, 3) := by decide +kernel
theorem dX6_isSaturatedChord_26 : decode cX6_isSaturatedChord 26 = .ok (.iconst 0, 1) := by decide +kernel
theorem dX6_isSaturatedChord_27 : decode cX6_isSaturatedChord 27 = .ok (.ireturn, 1) := by decide +kernel
set_option maxRecDepth 20000 in
theorem ggX6_isUncertain_X3_isInTree : GoodIn wsX6_isUncertain wsX3_isInTree := goodIn_r _ [7, 8, 9, 10, 11, 64, 65, 66] (by decide +kernel) (by decide +kernel)
set_option maxRecDepth 20000 in
theorem gX6_isUncertain_X3_isInTree : GoodIn wsX6_isUncertain (wsV RX6 182 RX3 yX3_isInTree wsX3_isInTree) := goodIn_app (goodIn_of _ (by decide +kernel)) ggX6_isUncertain_X3_isInTree
set_option maxRecDepth 20000 in
theorem ggX6_isUncertain_X6_isSaturatedChord : GoodIn wsX6_isUncertain wsX6_isSaturatedChord := goodIn_r _ [15, 1, 16, 3, 4, 5, 6, 7, 8, 9, 10, 11, 17, 18, 19, 20, 21, 22, 23, 24, 25, 26, 27, 57, 58, 59, 60, 61, 62, 63, 64, 65, 66, 67, 68, 69, 70, 71] (by decide +kernel) (by decide +kernel)
set_option maxRecDepth 20000 in
theorem gX6_isUncertain_X6_isSaturatedChord : GoodIn wsX6_isUncertain (wsV RX6 207 RX6 yX6_isSaturatedChord wsX6_isSaturatedChord) := goodIn_app (goodIn_of _ (by decide +kernel)) ggX6_isUncertain_X6_isSaturatedChord
set_option maxRecDepth 20000 in
theorem ggX6_isUncertain_X0_edges : GoodIn wsX6_isUncertain wsX0_edges := goodIn_r _ [32, 33, 72, 73, 74, 75, 76, 77, 78] (by decide +kernel) (by decide +kernel)
set_option maxRecDepth 20000 in
theorem gX6_isUncertain_X0_edges : GoodIn wsX6_isUncertain (wsV RX6 106 RX0 yX0_edges wsX0_edges) := goodIn_app (goodIn_of _ (by decide +kernel)) ggX6_isUncertain_X0_edges
set_option maxRecDepth 20000 in
theorem ggX6_isUncertain_X6_factorOfChord : GoodIn wsX6_isUncertain wsX6_factorOfChord := goodIn_r _ [37, 1, 2, 38, 39, 40, 31, 41, 42, 43, 44, 45, 46, 33, 47, 48, 49, 50, 51, 52, 53, 54, 6, 55, 56, 9, 10, 11, 57, 58, 59, 60, 61, 62, 63, 72, 73, 74, 75, 76, 77, 78, 64, 65, 66] (by decide +kernel) (by decide +kernel)
set_option maxRecDepth 20000 in
theorem gX6_isUncertain_X6_factorOfChord : GoodIn wsX6_isUncertain (wsV RX6 201 RX6 yX6_factorOfChord wsX6_factorOfChord) := goodIn_app (goodIn_of _ (by decide +kernel)) ggX6_isUncertain_X6_factorOfChord
theorem dX6_isUncertain_0 : decode cX6_isUncertain 0 = .ok (.aload_n 0, 1) := by decide +kernel
theorem dX6_isUncertain_1 : decode cX6_isUncertain 1 = .ok (.getfield 26, 3) := by decide +kernel
theorem dX6_isUncertain_4 : decode cX6_isUncertain 4 = .ok (.iload_n 1, 1) := by decide +kernel
theorem dX6_isUncertain_5 : decode cX6_isUncertain 5 = .ok (.invokevirtual 182, 3) := by decide +kernel
theorem dX6_isUncertain_8 : decode cX6_isUncertain 8 = .ok (.ifCond .ne 9, 3) := by decide +kernel
theorem dX6_isUncertain_11 : decode cX6_isUncertain 11 = .ok (.aload_n 0, 1) := by decide +kernel
theorem dX6_isUncertain_12 : decode cX6_isUncertain 12 = .ok (.iload_n 1, 1) := by decide +kernel
theorem dX6_isUncertain_13 : decode cX6_isUncertain 13 = .ok (.invokevirtual 207, 3) := by decide +kernel
theorem dX6_isUncertain_16 : decode cX6_isUncertain 16 = .ok (.ireturn, 1) := by decide +kernel
theorem dX6_isUncertain_17 : decode cX6_isUncertain 17 = .ok (.iconst 0, 1) := by decide +kernel
theorem dX6_isUncertain_18 : decode cX6_isUncertain 18 = .ok (.istore_n 2, 1) := by decide +kernel
theorem dX6_isUncertain_19 : decode cX6_isUncertain 19 = .ok (.iload_n 2, 1) := by decide +kernel
theorem dX6_isUncertain_20 : decode cX6_isUncertain 20 = .ok (.aload_n 0, 1) := by decide +kernel
theorem dX6_isUncertain_21 : decode cX6_isUncertain 21 = .ok (.getfield 47, 3) := by decide +kernel
theorem dX6_isUncertain_24 : decode cX6_isUncertain 24 = .ok (.invokevirtual 106, 3) := by decide +kernel
theorem dX6_isUncertain_27 : decode cX6_isUncertain 27 = .ok (.if_icmp .ge 28, 3) := by decide +kernel
theorem dX6_isUncertain_30 : decode cX6_isUncertain 30 = .ok (.aload_n 0, 1) := by decide +kernel
theorem dX6_isUncertain_31 : decode cX6_isUncertain 31 = .ok (.iload_n 2, 1) := by decide +kernel
theorem dX6_isUncertain_32 : decode cX6_isUncertain 32 = .ok (.invokevirtual 207, 3) := by decide +kernel
theorem dX6_isUncertain_35 : decode cX6_isUncertain 35 = .ok (.ifCond .eq 14, 3) := by decide +kernel
theorem dX6_isUncertain_38 : decode cX6_isUncertain 38 = .ok (.aload_n 0, 1) := by decide +kernel
theorem dX6_isUncertain_39 : decode cX6_isUncertain 39 = .ok (.iload_n 1, 1) := by decide +kernel
theorem dX6_isUncertain_40 : decode cX6_isUncertain 40 = .ok (.iload_n 2, 1) := by decide +kernel
theorem dX6_isUncertain_41 : decode cX6_isUncertain 41 = .ok (.invokevirtual 201, 3) := by decide +kernel
theorem dX6_isUncertain_44 : decode cX6_isUncertain 44 = .ok (.ifCond .eq 5, 3) := by decide +kernel
theorem dX6_isUncertain_47 : decode cX6_isUncertain 47 = .ok (.iconst 1, 1) := by decide +kernel
theorem dX6_isUncertain_48 : decode cX6_isUncertain 48 = .ok (.ireturn, 1) := by decide +kernel
theorem dX6_isUncertain_49 : decode cX6_isUncertain 49 = .ok (.iinc 2 1, 3) := by decide +kernel
theorem dX6_isUncertain_52 : decode cX6_isUncertain 52 = .ok (.goto (-33), 3) := by decide +kernel
theorem dX6_isUncertain_55 : decode cX6_isUncertain 55 = .ok (.iconst 0, 1) := by decide +kernel
theorem dX6_isUncertain_56 : decode cX6_isUncertain 56 = .ok (.ireturn, 1) := by decide +kernel
set_option maxRecDepth 20000 in
theorem ggX6_anyIsUncertain_X0_edges : GoodIn wsX6_anyIsUncertain wsX0_edges := goodIn_r _ [6, 7, 68, 69, 70, 71, 72, 73, 74] (by decide +kernel) (by decide +kernel)
set_option maxRecDepth 20000 in
theorem gX6_anyIsUncertain_X0_edges : GoodIn wsX6_anyIsUncertain (wsV RX6 106 RX0 yX0_edges wsX0_edges) := goodIn_app (goodIn_of _ (by decide +kernel)) ggX6_anyIsUncertain_X0_edges
set_option maxRecDepth 20000 in
theorem ggX6_anyIsUncertain_X6_isUncertain : GoodIn wsX6_anyIsUncertain wsX6_isUncertain := goodIn_r _ [12, 13, 1, 14, 15, 16, 17, 18, 19, 20, 11, 21, 22, 23, 24, 25, 26, 27, 28, 29, 30, 31, 32, 33, 34, 35, 36, 37, 2, 3, 4, 5, 6, 7, 38, 39, 40, 41, 42, 43, 44, 45, 46, 47, 48, 49, 50, 51, 52, 53, 54, 55, 56, 57, 58, 59, 60, 61, 62, 63, 64, 65, 66, 67, 75, 76, 77, 78, 79, 80, 81, 82, 68, 69, 70, 71, 72, 73, 74] (by decide +kernel) (by decide +kernel)
set_option maxRecDepth 20000 in
theorem gX6_anyIsUncertain_X6_isUncertain : GoodIn wsX6_anyIsUncertain (wsV RX6 198 RX6 yX6_isUncertain wsX6_isUncertain) := goodIn_app (goodIn_of _ (by decide +kernel)) ggX6_anyIsUncertain_X6_isUncertain
theorem dX6_anyIsUncertain_0 : decode cX6_anyIsUncertain 0 = .ok (.iconst 0, 1) := by decide +kernel
theorem dX6_anyIsUncertain_1 : decode cX6_anyIsUncertain 1 = .ok (.istore_n 1, 1) := by decide +kernel
theorem dX6_anyIsUncertain_2 : decode cX6_anyIsUncertain 2 = .ok (.iload_n 1, 1) := by decide +kernel
theorem dX6_anyIsUncertain_3 : decode cX6_anyIsUncertain 3 = .ok (.aload_n 0, 1) := by decide +kernel
theorem dX6_anyIsUncertain_4 : decode cX6_anyIsUncertain 4 = .ok (.getfield 47, 3) := by decide +kernel
theorem dX6_anyIsUncertain_7 : decode cX6_anyIsUncertain 7 = .ok (.invokevirtual 106, 3) := by decide +kernel
theorem dX6_anyIsUncertain_10 : decode cX6_anyIsUncertain 10 = .ok (.if_icmp .ge 19, 3) := by decide +kernel
theorem dX6_anyIsUncertain_13 : decode cX6_anyIsUncertain 13 = .ok (.aload_n 0, 1) := by decide +kernel
theorem dX6_anyIsUncertain_14 : decode cX6_anyIsUncertain 14 = .ok (.iload_n 1, 1) := by decide +kernel
theorem dX6_anyIsUncertain_15 : decode cX6_anyIsUncertain 15 = .ok (.invokevirtual 198, 3) := by decide +kernel
theorem dX6_anyIsUncertain_18 : decode cX6_anyIsUncertain 18 = .ok (.ifCond .eq 5, 3) := by decide +kernel
theorem dX6_anyIsUncertain_21 : decode cX6_anyIsUncertain 21 = .ok (.iconst 1, 1) := by decide +kernel
theorem dX6_anyIsUncertain_22 : decode cX6_anyIsUncertain 22 = .ok (.ireturn, 1) := by decide +kernel
theorem dX6_anyIsUncertain_23 : decode cX6_anyIsUncertain 23 = .ok (.iinc 1 1, 3) := by decide +kernel
theorem dX6_anyIsUncertain_26 : decode cX6_anyIsUncertain 26 = .ok (.goto (-24), 3) := by decide +kernel
theorem dX6_anyIsUncertain_29 : decode cX6_anyIsUncertain 29 = .ok (.iconst 0, 1) := by decide +kernel
theorem dX6_anyIsUncertain_30 : decode cX6_anyIsUncertain 30 = .ok (.ireturn, 1) := by decide +kernel
set_option maxRecDepth 20000 in
theorem ggX6_reconstructedCount_X3_isInTree : GoodIn wsX6_reconstructedCount wsX3_isInTree := goodIn_r _ [8, 9, 10, 11, 12, 69, 70, 71] (by decide +kernel) (by decide +kernel)
set_option maxRecDepth 20000 in
theorem gX6_reconstructedCount_X3_isInTree : GoodIn wsX6_reconstructedCount (wsV RX6 182 RX3 yX3_isInTree wsX3_isInTree) := goodIn_app (goodIn_of _ (by decide +kernel)) ggX6_reconstructedCount_X3_isInTree
set_option maxRecDepth 20000 in
theorem ggX6_reconstructedCount_X4_counterValue : GoodIn wsX6_reconstructedCount wsX4_counterValue := goodIn_r _ [17, 18, 72, 73, 74, 75, 76] (by decide +kernel) (by decide +kernel)
set_option maxRecDepth 20000 in
theorem gX6_reconstructedCount_X4_counterValue : GoodIn wsX6_reconstructedCount (wsV RX6 192 RX4 yX4_counterValue wsX4_counterValue) := goodIn_app (goodIn_of _ (by decide +kernel)) ggX6_reconstructedCount_X4_counterValue
set_option maxRecDepth 20000 in
theorem ggX6_reconstructedCount_X6_openEdgeShare : GoodIn wsX6_reconstructedCount wsX6_openEdgeShare := goodIn_r _ [22, 2, 1, 3, 23, 24, 25, 16, 26, 27, 28, 29, 30, 31, 32, 33, 34, 35, 36, 7, 37, 38, 10, 11, 12, 62, 63, 64, 65, 66, 67, 68, 72, 73, 74, 75, 76, 77, 78, 79, 80, 81, 82, 83, 69, 70, 71] (by decide +kernel) (by decide +kernel)
set_option maxRecDepth 20000 in
theorem gX6_reconstructedCount_X6_openEdgeShare : GoodIn wsX6_reconstructedCount (wsV RX6 229 RX6 yX6_openEdgeShare wsX6_openEdgeShare) := goodIn_app (goodIn_of _ (by decide +kernel)) ggX6_reconstructedCount_X6_openEdgeShare
set_option maxRecDepth 20000 in
theorem ggX6_reconstructedCount_X0_edges : GoodIn wsX6_reconstructedCount wsX0_edges := goodIn_r _ [42, 43, 77, 78, 79, 80, 81, 82, 83] (by decide +kernel) (by decide +kernel)
set_option maxRecDepth 20000 in
theorem gX6_reconstructedCount_X0_edges : GoodIn wsX6_reconstructedCount (wsV RX6 106 RX0 yX0_edges wsX0_edges) := goodIn_app (goodIn_of _ (by decide +kernel)) ggX6_reconstructedCount_X0_edges
set_option maxRecDepth 20000 in
theorem ggX6_reconstructedCount_X6_factorOfChord : GoodIn wsX6_reconstructedCount wsX6_factorOfChord := goodIn_r _ [47, 1, 3, 48, 49, 50, 31, 51, 52, 53, 54, 55, 56, 43, 57, 58, 59, 60, 61, 34, 35, 36, 7, 37, 38, 10, 11, 12, 62, 63, 64, 65, 66, 67, 68, 77, 78, 79, 80, 81, 82, 83, 69, 70, 71] (by decide +kernel) (by decide +kernel)
set_option maxRecDepth 20000 in
theorem gX6_reconstructedCount_X6_factorOfChord : GoodIn wsX6_reconstructedCount (wsV RX6 201 RX6 yX6_factorOfChord wsX6_factorOfChord) := goodIn_app (goodIn_of _ (by decide +kernel)) ggX6_reconstructedCount_X6_factorOfChord
theorem dX6_reconstructedCount_0 : decode cX6_reconstructedCount 0 = .ok (.aload_n 0, 1) := by decide +kernel
theorem dX6_reconstructedCount_1 : decode cX6_reconstructedCount 1 = .ok (.getfield 26, 3) := by decide +kernel
theorem dX6_reconstructedCount_4 : decode cX6_reconstructedCount 4 = .ok (.iload_n 1, 1) := by decide +kernel
theorem dX6_reconstructedCount_5 : decode cX6_reconstructedCount 5 = .ok (.invokevirtual 182, 3) := by decide +kernel
theorem dX6_reconstructedCount_8 : decode cX6_reconstructedCount 8 = .ok (.ifCond .ne 12, 3) := by decide +kernel
theorem dX6_reconstructedCount_11 : decode cX6_reconstructedCount 11 = .ok (.aload_n 0, 1) := by decide +kernel
theorem dX6_reconstructedCount_12 : decode cX6_reconstructedCount 12 = .ok (.getfield 33, 3) := by decide +kernel
theorem dX6_reconstructedCount_15 : decode cX6_reconstructedCount 15 = .ok (.iload_n 1, 1) := by decide +kernel
theorem dX6_reconstructedCount_16 : decode cX6_reconstructedCount 16 = .ok (.invokevirtual 192, 3) := by decide +kernel
theorem dX6_reconstructedCount_19 : decode cX6_reconstructedCount 19 = .ok (.ireturn, 1) := by decide +kernel
theorem dX6_reconstructedCount_20 : decode cX6_reconstructedCount 20 = .ok (.aload_n 0, 1) := by decide +kernel
theorem dX6_reconstructedCount_21 : decode cX6_reconstructedCount 21 = .ok (.iload_n 1, 1) := by decide +kernel
theorem dX6_reconstructedCount_22 : decode cX6_reconstructedCount 22 = .ok (.invokevirtual 229, 3) := by decide +kernel
theorem dX6_reconstructedCount_25 : decode cX6_reconstructedCount 25 = .ok (.istore_n 2, 1) := by decide +kernel
theorem dX6_reconstructedCount_26 : decode cX6_reconstructedCount 26 = .ok (.iconst 0, 1) := by decide +kernel
theorem dX6_reconstructedCount_27 : decode cX6_reconstructedCount 27 = .ok (.istore_n 3, 1) := by decide +kernel
theorem dX6_reconstructedCount_28 : decode cX6_reconstructedCount 28 = .ok (.iload_n 3, 1) := by decide +kernel
theorem dX6_reconstructedCount_29 : decode cX6_reconstructedCount 29 = .ok (.aload_n 0, 1) := by decide +kernel
theorem dX6_reconstructedCount_30 : decode cX6_reconstructedCount 30 = .ok (.getfield 47, 3) := by decide +kernel
theorem dX6_reconstructedCount_33 : decode cX6_reconstructedCount 33 = .ok (.invokevirtual 106, 3) := by decide +kernel
theorem dX6_reconstructedCount_36 : decode cX6_reconstructedCount 36 = .ok (.if_icmp .ge 38, 3) := by decide +kernel
theorem dX6_reconstructedCount_39 : decode cX6_reconstructedCount 39 = .ok (.aload_n 0, 1) := by decide +kernel
theorem dX6_reconstructedCount_40 : decode cX6_reconstructedCount 40 = .ok (.getfield 26, 3) := by decide +kernel
theorem dX6_reconstructedCount_43 : decode cX6_reconstructedCount 43 = .ok (.iload_n 3, 1) := by decide +kernel
theorem dX6_reconstructedCount_44 : decode cX6_reconstructedCount 44 = .ok (.invokevirtual 182, 3) := by decide +kernel
theorem dX6_reconstructedCount_47 : decode cX6_reconstructedCount 47 = .ok (.ifCond .ne 21, 3) := by decide +kernel
theorem dX6_reconstructedCount_50 : decode cX6_reconstructedCount 50 = .ok (.iload_n 2, 1) := by decide +kernel
theorem dX6_reconstructedCount_51 : decode cX6_reconstructedCount 51 = .ok (.aload_n 0, 1) := by decide +kernel
theorem dX6_reconstructedCount_52 : decode cX6_reconstructedCount 52 = .ok (.iload_n 1, 1) := by decide +kernel
theorem dX6_reconstructedCount_53 : decode cX6_reconstructedCount 53 = .ok (.iload_n 3, 1) := by decide +kernel
theorem dX6_reconstructedCount_54 : decode cX6_reconstructedCount 54 = .ok (.invokevirtual 201, 3) := by decide +kernel
theorem dX6_reconstructedCount_57 : decode cX6_reconstructedCount 57 = .ok (.aload_n 0, 1) := by decide +kernel
theorem dX6_reconstructedCount_58 : decode cX6_reconstructedCount 58 = .ok (.getfield 33, 3) := by decide +kernel
theorem dX6_reconstructedCount_61 : decode cX6_reconstructedCount 61 = .ok (.iload_n 3, 1) := by decide +kernel
theorem dX6_reconstructedCount_62 : decode cX6_reconstructedCount 62 = .ok (.invokevirtual 192, 3) := by decide +kernel
theorem dX6_reconstructedCount_65 : decode cX6_reconstructedCount 65 = .ok (.imul, 1) := by decide +kernel
theorem dX6_reconstructedCount_66 : decode cX6_reconstructedCount 66 = .ok (.iadd, 1) := by decide +kernel
theorem dX6_reconstructedCount_67 : decode cX6_reconstructedCount 67 = .ok (.istore_n 2, 1) := by decide +kernel
theorem dX6_reconstructedCount_68 : decode cX6_reconstructedCount 68 = .ok (.iinc 3 1, 3) := by decide +kernel
theorem dX6_reconstructedCount_71 : decode cX6_reconstructedCount 71 = .ok (.goto (-43), 3) := by decide +kernel
theorem dX6_reconstructedCount_74 : decode cX6_reconstructedCount 74 = .ok (.iload_n 2, 1) := by decide +kernel
theorem dX6_reconstructedCount_75 : decode cX6_reconstructedCount 75 = .ok (.ireturn, 1) := by decide +kernel
set_option maxRecDepth 20000 in
theorem ggX6_openEdgeShare_X4_present : GoodIn wsX6_openEdgeShare wsX4_present := goodIn_r _ [8, 9, 32, 33, 34, 35, 36] (by decide +kernel) (by decide +kernel)
set_option maxRecDepth 20000 in
theorem gX6_openEdgeShare_X4_present : GoodIn wsX6_openEdgeShare (wsV RX6 142 RX4 yX4_present wsX4_present) := goodIn_app (goodIn_of _ (by decide +kernel)) ggX6_openEdgeShare_X4_present
set_option maxRecDepth 20000 in
theorem ggX6_openEdgeShare_X0_exit : GoodIn wsX6_openEdgeShare wsX0_exit := goodIn_r _ [14, 15, 37, 38, 39, 40, 41, 42, 43] (by decide +kernel) (by decide +kernel)
set_option maxRecDepth 20000 in
theorem gX6_openEdgeShare_X0_exit : GoodIn wsX6_openEdgeShare (wsV RX6 232 RX0 yX0_exit wsX0_exit) := goodIn_app (goodIn_of _ (by decide +kernel)) ggX6_openEdgeShare_X0_exit
set_option maxRecDepth 20000 in
theorem ggX6_openEdgeShare_X3_factor : GoodIn wsX6_openEdgeShare wsX3_factor := goodIn_r _ [20, 21, 22, 23, 24, 44, 45, 46] (by decide +kernel) (by decide +kernel)
set_option maxRecDepth 20000 in
theorem gX6_openEdgeShare_X3_factor : GoodIn wsX6_openEdgeShare (wsV RX6 222 RX3 yX3_factor wsX3_factor) := goodIn_app (goodIn_of _ (by decide +kernel)) ggX6_openEdgeShare_X3_factor
theorem dX6_openEdgeShare_0 : decode cX6_openEdgeShare 0 = .ok (.aload_n 0, 1) := by decide +kernel
theorem dX6_openEdgeShare_1 : decode cX6_openEdgeShare 1 = .ok (.getfield 33, 3) := by decide +kernel
theorem dX6_openEdgeShare_4 : decode cX6_openEdgeShare 4 = .ok (.invokevirtual 142, 3) := by decide +kernel
theorem dX6_openEdgeShare_7 : decode cX6_openEdgeShare 7 = .ok (.ifCond .ne 5, 3) := by decide +kernel
theorem dX6_openEdgeShare_10 : decode cX6_openEdgeShare 10 = .ok (.iconst 0, 1) := by decide +kernel
theorem dX6_openEdgeShare_11 : decode cX6_openEdgeShare 11 = .ok (.ireturn, 1) := by decide +kernel
theorem dX6_openEdgeShare_12 : decode cX6_openEdgeShare 12 = .ok (.aload_n 0, 1) := by decide +kernel
theorem dX6_openEdgeShare_13 : decode cX6_openEdgeShare 13 = .ok (.getfield 26, 3) := by decide +kernel
theorem dX6_openEdgeShare_16 : decode cX6_openEdgeShare 16 = .ok (.iload_n 1, 1) := by decide +kernel
theorem dX6_openEdgeShare_17 : decode cX6_openEdgeShare 17 = .ok (.aload_n 0, 1) := by decide +kernel
theorem dX6_openEdgeShare_18 : decode cX6_openEdgeShare 18 = .ok (.getfield 33, 3) := by decide +kernel
theorem dX6_openEdgeShare_21 : decode cX6_openEdgeShare 21 = .ok (.invokevirtual 142, 3) := by decide +kernel
theorem dX6_openEdgeShare_24 : decode cX6_openEdgeShare 24 = .ok (.aload_n 0, 1) := by decide +kernel
theorem dX6_openEdgeShare_25 : decode cX6_openEdgeShare 25 = .ok (.getfield 47, 3) := by decide +kernel
theorem dX6_openEdgeShare_28 : decode cX6_openEdgeShare 28 = .ok (.invokevirtual 232, 3) := by decide +kernel
theorem dX6_openEdgeShare_31 : decode cX6_openEdgeShare 31 = .ok (.invokevirtual 222, 3) := by decide +kernel
theorem dX6_openEdgeShare_34 : decode cX6_openEdgeShare 34 = .ok (.ireturn, 1) := by decide +kernel
theorem dX6_bitsOfShare_0 : decode cX6_bitsOfShare 0 = .ok (.fload_n 0, 1) := by decide +kernel
theorem dX6_bitsOfShare_1 : decode cX6_bitsOfShare 1 = .ok (.fconst 0, 1) := by decide +kernel
theorem dX6_bitsOfShare_2 : decode cX6_bitsOfShare 2 = .ok (.fcmp .g, 1) := by decide +kernel
theorem dX6_bitsOfShare_3 : decode cX6_bitsOfShare 3 = .ok (.ifCond .gt 5, 3) := by decide +kernel
theorem dX6_bitsOfShare_6 : decode cX6_bitsOfShare 6 = .ok (.iconst 0, 1) := by decide +kernel
theorem dX6_bitsOfShare_7 : decode cX6_bitsOfShare 7 = .ok (.ireturn, 1) := by decide +kernel
theorem dX6_bitsOfShare_8 : decode cX6_bitsOfShare 8 = .ok (.bipush 127, 2) := by decide +kernel
theorem dX6_bitsOfShare_10 : decode cX6_bitsOfShare 10 = .ok (.istore_n 1, 1) := by decide +kernel
theorem dX6_bitsOfShare_11 : decode cX6_bitsOfShare 11 = .ok (.fload_n 0, 1) := by decide +kernel
theorem dX6_bitsOfShare_12 : decode cX6_bitsOfShare 12 = .ok (.fstore_n 2, 1) := by decide +kernel
theorem dX6_bitsOfShare_13 : decode cX6_bitsOfShare 13 = .ok (.fload_n 2, 1) := by decide +kernel
theorem dX6_bitsOfShare_14 : decode cX6_bitsOfShare 14 = .ok (.fconst 1, 1) := by decide +kernel
theorem dX6_bitsOfShare_15 : decode cX6_bitsOfShare 15 = .ok (.fcmp .g, 1) := by decide +kernel
theorem dX6_bitsOfShare_16 : decode cX6_bitsOfShare 16 = .ok (.ifCond .ge 18, 3) := by decide +kernel
theorem dX6_bitsOfShare_19 : decode cX6_bitsOfShare 19 = .ok (.iload_n 1, 1) := by decide +kernel
theorem dX6_bitsOfShare_20 : decode cX6_bitsOfShare 20 = .ok (.iconst 1, 1) := by decide +kernel
theorem dX6_bitsOfShare_21 : decode cX6_bitsOfShare 21 = .ok (.if_icmp .le 13, 3) := by decide +kernel
theorem dX6_bitsOfShare_24 : decode cX6_bitsOfShare 24 = .ok (.fload_n 2, 1) := by decide +kernel
theorem dX6_bitsOfShare_25 : decode cX6_bitsOfShare 25 = .ok (.fconst 2, 1) := by decide +kernel
theorem dX6_bitsOfShare_26 : decode cX6_bitsOfShare 26 = .ok (.fmul, 1) := by decide +kernel
theorem dX6_bitsOfShare_27 : decode cX6_bitsOfShare 27 = .ok (.fstore_n 2, 1) := by decide +kernel
theorem dX6_bitsOfShare_28 : decode cX6_bitsOfShare 28 = .ok (.iinc 1 (-1), 3) := by decide +kernel
theorem dX6_bitsOfShare_31 : decode cX6_bitsOfShare 31 = .ok (.goto (-18), 3) := by decide +kernel
theorem dX6_bitsOfShare_34 : decode cX6_bitsOfShare 34 = .ok (.iload_n 1, 1) := by decide +kernel
theorem dX6_bitsOfShare_35 : decode cX6_bitsOfShare 35 = .ok (.bipush 23, 2) := by decide +kernel
theorem dX6_bitsOfShare_37 : decode cX6_bitsOfShare 37 = .ok (.ishl, 1) := by decide +kernel
theorem dX6_bitsOfShare_38 : decode cX6_bitsOfShare 38 = .ok (.fload_n 2, 1) := by decide +kernel
theorem dX6_bitsOfShare_39 : decode cX6_bitsOfShare 39 = .ok (.fconst 1, 1) := by decide +kernel
theorem dX6_bitsOfShare_40 : decode cX6_bitsOfShare 40 = .ok (.fsub, 1) := by decide +kernel
theorem dX6_bitsOfShare_41 : decode cX6_bitsOfShare 41 = .ok (.ldc 235, 2) := by decide +kernel
theorem dX6_bitsOfShare_43 : decode cX6_bitsOfShare 43 = .ok (.fmul, 1) := by decide +kernel
theorem dX6_bitsOfShare_44 : decode cX6_bitsOfShare 44 = .ok (.f2i, 1) := by decide +kernel
theorem dX6_bitsOfShare_45 : decode cX6_bitsOfShare 45 = .ok (.iadd, 1) := by decide +kernel
theorem dX6_bitsOfShare_46 : decode cX6_bitsOfShare 46 = .ok (.ireturn, 1) := by decide +kernel
theorem dX6_holds_0 : decode cX6_holds 0 = .ok (.iload_n 0, 1) := by decide +kernel
theorem dX6_holds_1 : decode cX6_holds 1 = .ok (.iconst 1, 1) := by decide +kernel
theorem dX6_holds_2 : decode cX6_holds 2 = .ok (.iload_n 1, 1) := by decide +kernel
theorem dX6_holds_3 : decode cX6_holds 3 = .ok (.ishl, 1) := by decide +kernel
theorem dX6_holds_4 : decode cX6_holds 4 = .ok (.iand, 1) := by decide +kernel
theorem dX6_holds_5 : decode cX6_holds 5 = .ok (.ifCond .eq 7, 3) := by decide +kernel
theorem dX6_holds_8 : decode cX6_holds 8 = .ok (.iconst 1, 1) := by decide +kernel
theorem dX6_holds_9 : decode cX6_holds 9 = .ok (.goto 4, 3) := by decide +kernel
theorem dX6_holds_12 : decode cX6_holds 12 = .ok (.iconst 0, 1) := by decide +kernel
theorem dX6_holds_13 : decode cX6_holds 13 = .ok (.ireturn, 1) := by decide +kernel
set_option maxRecDepth 20000 in
theorem ggX7_init_X7_putEdge : GoodIn wsX7_init wsX7_putEdge := goodIn_r _ [20, 10, 21, 11, 12, 45, 46, 47, 48, 49, 50, 51, 52, 53, 54, 55, 56, 57, 58, 59, 60, 61, 62, 63] (by decide +kernel) (by decide +kernel)
set_option maxRecDepth 20000 in
theorem gX7_init_X7_putEdge : GoodIn wsX7_init (wsV RX7 44 RX7 yX7_putEdge wsX7_putEdge) := goodIn_app (goodIn_of _ (by decide +kernel)) ggX7_init_X7_putEdge
set_option maxRecDepth 20000 in
theorem ggX7_init_X7_takeGraph : GoodIn wsX7_init wsX7_takeGraph := goodIn_r _ [25, 15, 26, 21, 27, 6, 10, 7, 11, 8, 12, 28, 29, 30, 31, 32, 19, 33, 34, 35, 36, 37, 38, 39, 40, 41, 42, 43, 44, 45, 46, 47, 48, 49, 50, 51, 52, 53, 54, 55, 56, 57, 58, 59, 60, 61, 62, 63] (by decide +kernel) (by decide +kernel)
set_option maxRecDepth 20000 in
theorem gX7_init_X7_takeGraph : GoodIn wsX7_init (wsV RX7 48 RX7 yX7_takeGraph wsX7_takeGraph) := goodIn_app (goodIn_of _ (by decide +kernel)) ggX7_init_X7_takeGraph
theorem dX7_init_0 : decode cX7_init 0 = .ok (.aload_n 0, 1) := by decide +kernel
theorem dX7_init_1 : decode cX7_init 1 = .ok (.invokespecial 1, 3) := by decide +kernel
theorem dX7_init_4 : decode cX7_init 4 = .ok (.aload_n 0, 1) := by decide +kernel
theorem dX7_init_5 : decode cX7_init 5 = .ok (.sipush 200, 3) := by decide +kernel
theorem dX7_init_8 : decode cX7_init 8 = .ok (.newarray .int, 2) := by decide +kernel
theorem dX7_init_10 : decode cX7_init 10 = .ok (.putfield 7, 3) := by decide +kernel
theorem dX7_init_13 : decode cX7_init 13 = .ok (.aload_n 0, 1) := by decide +kernel
theorem dX7_init_14 : decode cX7_init 14 = .ok (.bipush 20, 2) := by decide +kernel
theorem dX7_init_16 : decode cX7_init 16 = .ok (.newarray .int, 2) := by decide +kernel
theorem dX7_init_18 : decode cX7_init 18 = .ok (.putfield 13, 3) := by decide +kernel
theorem dX7_init_21 : decode cX7_init 21 = .ok (.aload_n 0, 1) := by decide +kernel
theorem dX7_init_22 : decode cX7_init 22 = .ok (.bipush 20, 2) := by decide +kernel
theorem dX7_init_24 : decode cX7_init 24 = .ok (.newarray .int, 2) := by decide +kernel
theorem dX7_init_26 : decode cX7_init 26 = .ok (.putfield 16, 3) := by decide +kernel
theorem dX7_init_29 : decode cX7_init 29 = .ok (.aload_n 0, 1) := by decide +kernel
theorem dX7_init_30 : decode cX7_init 30 = .ok (.bipush 83, 2) := by decide +kernel
theorem dX7_init_32 : decode cX7_init 32 = .ok (.newarray .int, 2) := by decide +kernel
theorem dX7_init_34 : decode cX7_init 34 = .ok (.putfield 19, 3) := by decide +kernel
theorem dX7_init_37 : decode cX7_init 37 = .ok (.aload_n 0, 1) := by decide +kernel
theorem dX7_init_38 : decode cX7_init 38 = .ok (.sipush 332, 3) := by decide +kernel
theorem dX7_init_41 : decode cX7_init 41 = .ok (.newarray .int, 2) := by decide +kernel
theorem dX7_init_43 : decode cX7_init 43 = .ok (.putfield 22, 3) := by decide +kernel
theorem dX7_init_46 : decode cX7_init 46 = .ok (.aload_n 0, 1) := by decide +kernel
theorem dX7_init_47 : decode cX7_init 47 = .ok (.bipush 20, 2) := by decide +kernel
theorem dX7_init_49 : decode cX7_init 49 = .ok (.newarray .int, 2) := by decide +kernel
theorem dX7_init_51 : decode cX7_init 51 = .ok (.putfield 25, 3) := by decide +kernel
theorem dX7_init_54 : decode cX7_init 54 = .ok (.aload_n 0, 1) := by decide +kernel
theorem dX7_init_55 : decode cX7_init 55 = .ok (.bipush 20, 2) := by decide +kernel
theorem dX7_init_57 : decode cX7_init 57 = .ok (.newarray .int, 2) := by decide +kernel
theorem dX7_init_59 : decode cX7_init 59 = .ok (.putfield 28, 3) := by decide +kernel
theorem dX7_init_62 : decode cX7_init 62 = .ok (.aload_n 0, 1) := by decide +kernel
theorem dX7_init_63 : decode cX7_init 63 = .ok (.bipush 20, 2) := by decide +kernel
theorem dX7_init_65 : decode cX7_init 65 = .ok (.newarray .int, 2) := by decide +kernel
theorem dX7_init_67 : decode cX7_init 67 = .ok (.putfield 31, 3) := by decide +kernel
theorem dX7_init_70 : decode cX7_init 70 = .ok (.aload_n 0, 1) := by decide +kernel
theorem dX7_init_71 : decode cX7_init 71 = .ok (.iconst 3, 1) := by decide +kernel
theorem dX7_init_72 : decode cX7_init 72 = .ok (.newarray .int, 2) := by decide +kernel
theorem dX7_init_74 : decode cX7_init 74 = .ok (.putfield 34, 3) := by decide +kernel
theorem dX7_init_77 : decode cX7_init 77 = .ok (.aload_n 0, 1) := by decide +kernel
theorem dX7_init_78 : decode cX7_init 78 = .ok (.bipush 20, 2) := by decide +kernel
theorem dX7_init_80 : decode cX7_init 80 = .ok (.newarray .int, 2) := by decide +kernel
theorem dX7_init_82 : decode cX7_init 82 = .ok (.putfield 37, 3) := by decide +kernel
theorem dX7_init_85 : decode cX7_init 85 = .ok (.aload_n 0, 1) := by decide +kernel
theorem dX7_init_86 : decode cX7_init 86 = .ok (.bipush 6, 2) := by decide +kernel
theorem dX7_init_88 : decode cX7_init 88 = .ok (.putfield 40, 3) := by decide +kernel
theorem dX7_init_91 : decode cX7_init 91 = .ok (.aload_n 0, 1) := by decide +kernel
theorem dX7_init_92 : decode cX7_init 92 = .ok (.iconst 0, 1) := by decide +kernel
theorem dX7_init_93 : decode cX7_init 93 = .ok (.iconst 1, 1) := by decide +kernel
theorem dX7_init_94 : decode cX7_init 94 = .ok (.bipush 100, 2) := by decide +kernel
theorem dX7_init_96 : decode cX7_init 96 = .ok (.invokevirtual 44, 3) := by decide +kernel
theorem dX7_init_99 : decode cX7_init 99 = .ok (.aload_n 0, 1) := by decide +kernel
theorem dX7_init_100 : decode cX7_init 100 = .ok (.iconst 1, 1) := by decide +kernel
theorem dX7_init_101 : decode cX7_init 101 = .ok (.iconst 2, 1) := by decide +kernel
theorem dX7_init_102 : decode cX7_init 102 = .ok (.bipush 60, 2) := by decide +kernel
theorem dX7_init_104 : decode cX7_init 104 = .ok (.invokevirtual 44, 3) := by decide +kernel
theorem dX7_init_107 : decode cX7_init 107 = .ok (.aload_n 0, 1) := by decide +kernel
theorem dX7_init_108 : decode cX7_init 108 = .ok (.iconst 1, 1) := by decide +kernel
theorem dX7_init_109 : decode cX7_init 109 = .ok (.iconst 3, 1) := by decide +kernel
theorem dX7_init_110 : decode cX7_init 110 = .ok (.bipush 40, 2) := by decide +kernel
theorem dX7_init_112 : decode cX7_init 112 = .ok (.invokevirtual 44, 3) := by decide +kernel
theorem dX7_init_115 : decode cX7_init 115 = .ok (.aload_n 0, 1) := by decide +kernel
theorem dX7_init_116 : decode cX7_init 116 = .ok (.iconst 2, 1) := by decide +kernel
theorem dX7_init_117 : decode cX7_init 117 = .ok (.iconst 4, 1) := by decide +kernel
theorem dX7_init_118 : decode cX7_init 118 = .ok (.bipush 60, 2) := by decide +kernel
theorem dX7_init_120 : decode cX7_init 120 = .ok (.invokevirtual 44, 3) := by decide +kernel
theorem dX7_init_123 : decode cX7_init 123 = .ok (.aload_n 0, 1) := by decide +kernel
theorem dX7_init_124 : decode cX7_init 124 = .ok (.iconst 3, 1) := by decide +kernel
theorem dX7_init_125 : decode cX7_init 125 = .ok (.iconst 4, 1) := by decide +kernel
theorem dX7_init_126 : decode cX7_init 126 = .ok (.bipush 35, 2) := by decide +kernel
theorem dX7_init_128 : decode cX7_init 128 = .ok (.invokevirtual 44, 3) := by decide +kernel
theorem dX7_init_131 : decode cX7_init 131 = .ok (.aload_n 0, 1) := by decide +kernel
theorem dX7_init_132 : decode cX7_init 132 = .ok (.iconst 3, 1) := by decide +kernel
theorem dX7_init_133 : decode cX7_init 133 = .ok (.iconst 5, 1) := by decide +kernel
theorem dX7_init_134 : decode cX7_init 134 = .ok (.iconst 0, 1) := by decide +kernel
theorem dX7_init_135 : decode cX7_init 135 = .ok (.invokevirtual 44, 3) := by decide +kernel
theorem dX7_init_138 : decode cX7_init 138 = .ok (.aload_n 0, 1) := by decide +kernel
theorem dX7_init_139 : decode cX7_init 139 = .ok (.iconst 4, 1) := by decide +kernel
theorem dX7_init_140 : decode cX7_init 140 = .ok (.iconst 1, 1) := by decide +kernel
theorem dX7_init_141 : decode cX7_init 141 = .ok (.bipush 90, 2) := by decide +kernel
theorem dX7_init_143 : decode cX7_init 143 = .ok (.invokevirtual 44, 3) := by decide +kernel
theorem dX7_init_146 : decode cX7_init 146 = .ok (.aload_n 0, 1) := by decide +kernel
theorem dX7_init_147 : decode cX7_init 147 = .ok (.iconst 4, 1) := by decide +kernel
theorem dX7_init_148 : decode cX7_init 148 = .ok (.iconst 5, 1) := by decide +kernel
theorem dX7_init_149 : decode cX7_init 149 = .ok (.bipush 10, 2) := by decide +kernel
theorem dX7_init_151 : decode cX7_init 151 = .ok (.invokevirtual 44, 3) := by decide +kernel
theorem dX7_init_154 : decode cX7_init 154 = .ok (.aload_n 0, 1) := by decide +kernel
theorem dX7_init_155 : decode cX7_init 155 = .ok (.invokevirtual 48, 3) := by decide +kernel
theorem dX7_init_158 : decode cX7_init 158 = .ok (.return_, 1) := by decide +kernel
theorem dX7_in_0 : decode cX7_in 0 = .ok (.iload_n 0, 1) := by decide +kernel
theorem dX7_in_1 : decode cX7_in 1 = .ok (.iload_n 1, 1) := by decide +kernel
theorem dX7_in_2 : decode cX7_in 2 = .ok (.if_icmp .lt 12, 3) := by decide +kernel
theorem dX7_in_5 : decode cX7_in 5 = .ok (.iload_n 0, 1) := by decide +kernel
theorem dX7_in_6 : decode cX7_in 6 = .ok (.iload_n 2, 1) := by decide +kernel
theorem dX7_in_7 : decode cX7_in 7 = .ok (.if_icmp .gt 7, 3) := by decide +kernel
theorem dX7_in_10 : decode cX7_in 10 = .ok (.iconst 1, 1) := by decide +kernel
theorem dX7_in_11 : decode cX7_in 11 = .ok (.goto 4, 3) := by decide +kernel
theorem dX7_in_14 : decode cX7_in 14 = .ok (.iconst 0, 1) := by decide +kernel
theorem dX7_in_15 : decode cX7_in 15 = .ok (.ireturn, 1) := by decide +kernel
theorem dX7_has_0 : decode cX7_has 0 = .ok (.iload_n 0, 1) := by decide +kernel
theorem dX7_has_1 : decode cX7_has 1 = .ok (.iload_n 1, 1) := by decide +kernel
theorem dX7_has_2 : decode cX7_has 2 = .ok (.ishr, 1) := by decide +kernel
theorem dX7_has_3 : decode cX7_has 3 = .ok (.iconst 1, 1) := by decide +kernel
theorem dX7_has_4 : decode cX7_has 4 = .ok (.iand, 1) := by decide +kernel
theorem dX7_has_5 : decode cX7_has 5 = .ok (.iconst 1, 1) := by decide +kernel
theorem dX7_has_6 : decode cX7_has 6 = .ok (.if_icmp .ne 7, 3) := by decide +kernel
theorem dX7_has_9 : decode cX7_has 9 = .ok (.iconst 1, 1) := by decide +kernel
theorem dX7_has_10 : decode cX7_has 10 = .ok (.goto 4, 3) := by decide +kernel
theorem dX7_has_13 : decode cX7_has 13 = .ok (.iconst 0, 1) := by decide +kernel
theorem dX7_has_14 : decode cX7_has 14 = .ok (.ireturn, 1) := by decide +kernel
theorem dX7_putEdge_0 : decode cX7_putEdge 0 = .ok (.aload_n 0, 1) := by decide +kernel
theorem dX7_putEdge_1 : decode cX7_putEdge 1 = .ok (.getfield 25, 3) := by decide +kernel
theorem dX7_putEdge_4 : decode cX7_putEdge 4 = .ok (.aload_n 0, 1) := by decide +kernel
theorem dX7_putEdge_5 : decode cX7_putEdge 5 = .ok (.getfield 51, 3) := by decide +kernel
theorem dX7_putEdge_8 : decode cX7_putEdge 8 = .ok (.iload_n 1, 1) := by decide +kernel
theorem dX7_putEdge_9 : decode cX7_putEdge 9 = .ok (.iastore, 1) := by decide +kernel
theorem dX7_putEdge_10 : decode cX7_putEdge 10 = .ok (.aload_n 0, 1) := by decide +kernel
theorem dX7_putEdge_11 : decode cX7_putEdge 11 = .ok (.getfield 28, 3) := by decide +kernel
theorem dX7_putEdge_14 : decode cX7_putEdge 14 = .ok (.aload_n 0, 1) := by decide +kernel
theorem dX7_putEdge_15 : decode cX7_putEdge 15 = .ok (.getfield 51, 3) := by decide +kernel
theorem dX7_putEdge_18 : decode cX7_putEdge 18 = .ok (.iload_n 2, 1) := by decide +kernel
theorem dX7_putEdge_19 : decode cX7_putEdge 19 = .ok (.iastore, 1) := by decide +kernel
theorem dX7_putEdge_20 : decode cX7_putEdge 20 = .ok (.aload_n 0, 1) := by decide +kernel
theorem dX7_putEdge_21 : decode cX7_putEdge 21 = .ok (.getfield 31, 3) := by decide +kernel
theorem dX7_putEdge_24 : decode cX7_putEdge 24 = .ok (.aload_n 0, 1) := by decide +kernel
theorem dX7_putEdge_25 : decode cX7_putEdge 25 = .ok (.getfield 51, 3) := by decide +kernel
theorem dX7_putEdge_28 : decode cX7_putEdge 28 = .ok (.iload_n 3, 1) := by decide +kernel
theorem dX7_putEdge_29 : decode cX7_putEdge 29 = .ok (.iastore, 1) := by decide +kernel
theorem dX7_putEdge_30 : decode cX7_putEdge 30 = .ok (.aload_n 0, 1) := by decide +kernel
theorem dX7_putEdge_31 : decode cX7_putEdge 31 = .ok (.dup, 1) := by decide +kernel
theorem dX7_putEdge_32 : decode cX7_putEdge 32 = .ok (.getfield 51, 3) := by decide +kernel
theorem dX7_putEdge_35 : decode cX7_putEdge 35 = .ok (.iconst 1, 1) := by decide +kernel
theorem dX7_putEdge_36 : decode cX7_putEdge 36 = .ok (.iadd, 1) := by decide +kernel
theorem dX7_putEdge_37 : decode cX7_putEdge 37 = .ok (.putfield 51, 3) := by decide +kernel
theorem dX7_putEdge_40 : decode cX7_putEdge 40 = .ok (.return_, 1) := by decide +kernel
set_option maxRecDepth 20000 in
theorem ggX7_isDigit_X7_in : GoodIn wsX7_isDigit wsX7_in := goodIn_r _ [7] (by decide +kernel) (by decide +kernel)
set_option maxRecDepth 20000 in
theorem gX7_isDigit_X7_in : GoodIn wsX7_isDigit (va_wsS RX7 60 yX7_in wsX7_in) := goodIn_app (goodIn_of _ (by decide +kernel)) ggX7_isDigit_X7_in
theorem dX7_isDigit_0 : decode cX7_isDigit 0 = .ok (.aload_n 0, 1) := by decide +kernel
theorem dX7_isDigit_1 : decode cX7_isDigit 1 = .ok (.getfield 54, 3) := by decide +kernel
theorem dX7_isDigit_4 : decode cX7_isDigit 4 = .ok (.aload_n 0, 1) := by decide +kernel
theorem dX7_isDigit_5 : decode cX7_isDigit 5 = .ok (.getfield 57, 3) := by decide +kernel
theorem dX7_isDigit_8 : decode cX7_isDigit 8 = .ok (.if_icmp .ge 26, 3) := by decide +kernel
theorem dX7_isDigit_11 : decode cX7_isDigit 11 = .ok (.aload_n 0, 1) := by decide +kernel
theorem dX7_isDigit_12 : decode cX7_isDigit 12 = .ok (.getfield 7, 3) := by decide +kernel
theorem dX7_isDigit_15 : decode cX7_isDigit 15 = .ok (.aload_n 0, 1) := by decide +kernel
theorem dX7_isDigit_16 : decode cX7_isDigit 16 = .ok (.getfield 54, 3) := by decide +kernel
theorem dX7_isDigit_19 : decode cX7_isDigit 19 = .ok (.iaload, 1) := by decide +kernel
theorem dX7_isDigit_20 : decode cX7_isDigit 20 = .ok (.bipush 48, 2) := by decide +kernel
theorem dX7_isDigit_22 : decode cX7_isDigit 22 = .ok (.bipush 57, 2) := by decide +kernel
theorem dX7_isDigit_24 : decode cX7_isDigit 24 = .ok (.invokestatic 60, 3) := by decide +kernel
theorem dX7_isDigit_27 : decode cX7_isDigit 27 = .ok (.ifCond .eq 7, 3) := by decide +kernel
theorem dX7_isDigit_30 : decode cX7_isDigit 30 = .ok (.iconst 1, 1) := by decide +kernel
theorem dX7_isDigit_31 : decode cX7_isDigit 31 = .ok (.goto 4, 3) := by decide +kernel
theorem dX7_isDigit_34 : decode cX7_isDigit 34 = .ok (.iconst 0, 1) := by decide +kernel
theorem dX7_isDigit_35 : decode cX7_isDigit 35 = .ok (.ireturn, 1) := by decide +kernel
set_option maxRecDepth 20000 in
theorem ggX7_readNumbers_X7_isDigit : GoodIn wsX7_readNumbers wsX7_isDigit := goodIn_r _ [9, 1, 3, 2, 10, 11, 8, 12, 13, 14, 15, 16, 17, 18, 19, 20, 21, 22, 23, 24, 25, 26, 27, 28, 29, 30, 31] (by decide +kernel) (by decide +kernel)
set_option maxRecDepth 20000 in
theorem gX7_readNumbers_X7_isDigit : GoodIn wsX7_readNumbers (wsV RX7 64 RX7 yX7_isDigit wsX7_isDigit) := goodIn_app (goodIn_of _ (by decide +kernel)) ggX7_readNumbers_X7_isDigit
theorem dX7_readNumbers_0 : decode cX7_readNumbers 0 = .ok (.iconst 0, 1) := by decide +kernel
theorem dX7_readNumbers_1 : decode cX7_readNumbers 1 = .ok (.istore_n 2, 1) := by decide +kernel
theorem dX7_readNumbers_2 : decode cX7_readNumbers 2 = .ok (.iload_n 2, 1) := by decide +kernel
theorem dX7_readNumbers_3 : decode cX7_readNumbers 3 = .ok (.iload_n 1, 1) := by decide +kernel
theorem dX7_readNumbers_4 : decode cX7_readNumbers 4 = .ok (.if_icmp .ge 132, 3) := by decide +kernel
theorem dX7_readNumbers_7 : decode cX7_readNumbers 7 = .ok (.aload_n 0, 1) := by decide +kernel
theorem dX7_readNumbers_8 : decode cX7_readNumbers 8 = .ok (.getfield 54, 3) := by decide +kernel
theorem dX7_readNumbers_11 : decode cX7_readNumbers 11 = .ok (.istore_n 3, 1) := by decide +kernel
theorem dX7_readNumbers_12 : decode cX7_readNumbers 12 = .ok (.iconst 0, 1) := by decide +kernel
theorem dX7_readNumbers_13 : decode cX7_readNumbers 13 = .ok (.istore 4, 2) := by decide +kernel
theorem dX7_readNumbers_15 : decode cX7_readNumbers 15 = .ok (.aload_n 0, 1) := by decide +kernel
theorem dX7_readNumbers_16 : decode cX7_readNumbers 16 = .ok (.invokevirtual 64, 3) := by decide +kernel
theorem dX7_readNumbers_19 : decode cX7_readNumbers 19 = .ok (.ifCond .eq 46, 3) := by decide +kernel
theorem dX7_readNumbers_22 : decode cX7_readNumbers 22 = .ok (.aload_n 0, 1) := by decide +kernel
theorem dX7_readNumbers_23 : decode cX7_readNumbers 23 = .ok (.getfield 54, 3) := by decide +kernel
theorem dX7_readNumbers_26 : decode cX7_readNumbers 26 = .ok (.iload_n 3, 1) := by decide +kernel
theorem dX7_readNumbers_27 : decode cX7_readNumbers 27 = .ok (.iconst 3, 1) := by decide +kernel
theorem dX7_readNumbers_28 : decode cX7_readNumbers 28 = .ok (.iadd, 1) := by decide +kernel
theorem dX7_readNumbers_29 : decode cX7_readNumbers 29 = .ok (.if_icmp .ge 36, 3) := by decide +kernel
theorem dX7_readNumbers_32 : decode cX7_readNumbers 32 = .ok (.bipush 10, 2) := by decide +kernel
theorem dX7_readNumbers_34 : decode cX7_readNumbers 34 = .ok (.iload 4, 2) := by decide +kernel
theorem dX7_readNumbers_36 : decode cX7_readNumbers 36 = .ok (.imul, 1) := by decide +kernel
theorem dX7_readNumbers_37 : decode cX7_readNumbers 37 = .ok (.aload_n 0, 1) := by decide +kernel
theorem dX7_readNumbers_38 : decode cX7_readNumbers 38 = .ok (.getfield 7, 3) := by decide +kernel
theorem dX7_readNumbers_41 : decode cX7_readNumbers 41 = .ok (.aload_n 0, 1) := by decide +kernel
theorem dX7_readNumbers_42 : decode cX7_readNumbers 42 = .ok (.getfield 54, 3) := by decide +kernel
theorem dX7_readNumbers_45 : decode cX7_readNumbers 45 = .ok (.iaload, 1) := by decide +kernel
theorem dX7_readNumbers_46 : decode cX7_readNumbers 46 = .ok (.iadd, 1) := by decide +kernel
theorem dX7_readNumbers_47 : decode cX7_readNumbers 47 = .ok (.bipush 48, 2) := by decide +kernel
theorem dX7_readNumbers_49 : decode cX7_readNumbers 49 = .ok (.isub, 1) := by decide +kernel
theorem dX7_readNumbers_50 : decode cX7_readNumbers 50 = .ok (.istore 4, 2) := by decide +kernel
theorem dX7_readNumbers_52 : decode cX7_readNumbers 52 = .ok (.aload_n 0, 1) := by decide +kernel
theorem dX7_readNumbers_53 : decode cX7_readNumbers 53 = .ok (.dup, 1) := by decide +kernel
theorem dX7_readNumbers_54 : decode cX7_readNumbers 54 = .ok (.getfield 54, 3) := by decide +kernel
theorem dX7_readNumbers_57 : decode cX7_readNumbers 57 = .ok (.iconst 1, 1) := by decide +kernel
theorem dX7_readNumbers_58 : decode cX7_readNumbers 58 = .ok (.iadd, 1) := by decide +kernel
theorem dX7_readNumbers_59 : decode cX7_readNumbers 59 = .ok (.putfield 54, 3) := by decide +kernel
theorem dX7_readNumbers_62 : decode cX7_readNumbers 62 = .ok (.goto (-47), 3) := by decide +kernel
theorem dX7_readNumbers_65 : decode cX7_readNumbers 65 = .ok (.aload_n 0, 1) := by decide +kernel
theorem dX7_readNumbers_66 : decode cX7_readNumbers 66 = .ok (.getfield 54, 3) := by decide +kernel
theorem dX7_readNumbers_69 : decode cX7_readNumbers 69 = .ok (.iload_n 3, 1) := by decide +kernel
theorem dX7_readNumbers_70 : decode cX7_readNumbers 70 = .ok (.if_icmp .eq 40, 3) := by decide +kernel
theorem dX7_readNumbers_73 : decode cX7_readNumbers 73 = .ok (.aload_n 0, 1) := by decide +kernel
theorem dX7_readNumbers_74 : decode cX7_readNumbers 74 = .ok (.getfield 54, 3) := by decide +kernel
theorem dX7_readNumbers_77 : decode cX7_readNumbers 77 = .ok (.aload_n 0, 1) := by decide +kernel
theorem dX7_readNumbers_78 : decode cX7_readNumbers 78 = .ok (.getfield 57, 3) := by decide +kernel
theorem dX7_readNumbers_81 : decode cX7_readNumbers 81 = .ok (.if_icmp .eq 29, 3) := by decide +kernel
theorem dX7_readNumbers_84 : decode cX7_readNumbers 84 = .ok (.aload_n 0, 1) := by decide +kernel
theorem dX7_readNumbers_85 : decode cX7_readNumbers 85 = .ok (.getfield 7, 3) := by decide +kernel
theorem dX7_readNumbers_88 : decode cX7_readNumbers 88 = .ok (.aload_n 0, 1) := by decide +kernel
theorem dX7_readNumbers_89 : decode cX7_readNumbers 89 = .ok (.getfield 54, 3) := by decide +kernel
theorem dX7_readNumbers_92 : decode cX7_readNumbers 92 = .ok (.iaload, 1) := by decide +kernel
theorem dX7_readNumbers_93 : decode cX7_readNumbers 93 = .ok (.iload_n 2, 1) := by decide +kernel
theorem dX7_readNumbers_94 : decode cX7_readNumbers 94 = .ok (.iconst 1, 1) := by decide +kernel
theorem dX7_readNumbers_95 : decode cX7_readNumbers 95 = .ok (.iadd, 1) := by decide +kernel
theorem dX7_readNumbers_96 : decode cX7_readNumbers 96 = .ok (.iload_n 1, 1) := by decide +kernel
theorem dX7_readNumbers_97 : decode cX7_readNumbers 97 = .ok (.if_icmp .ne 8, 3) := by decide +kernel
theorem dX7_readNumbers_100 : decode cX7_readNumbers 100 = .ok (.bipush 59, 2) := by decide +kernel
theorem dX7_readNumbers_102 : decode cX7_readNumbers 102 = .ok (.goto 5, 3) := by decide +kernel
theorem dX7_readNumbers_105 : decode cX7_readNumbers 105 = .ok (.bipush 44, 2) := by decide +kernel
theorem dX7_readNumbers_107 : decode cX7_readNumbers 107 = .ok (.if_icmp .eq 5, 3) := by decide +kernel
theorem dX7_readNumbers_110 : decode cX7_readNumbers 110 = .ok (.iconst 0, 1) := by decide +kernel
theorem dX7_readNumbers_111 : decode cX7_readNumbers 111 = .ok (.ireturn, 1) := by decide +kernel
theorem dX7_readNumbers_112 : decode cX7_readNumbers 112 = .ok (.aload_n 0, 1) := by decide +kernel
theorem dX7_readNumbers_113 : decode cX7_readNumbers 113 = .ok (.getfield 34, 3) := by decide +kernel
theorem dX7_readNumbers_116 : decode cX7_readNumbers 116 = .ok (.iload_n 2, 1) := by decide +kernel
theorem dX7_readNumbers_117 : decode cX7_readNumbers 117 = .ok (.iload 4, 2) := by decide +kernel
theorem dX7_readNumbers_119 : decode cX7_readNumbers 119 = .ok (.iastore, 1) := by decide +kernel
theorem dX7_readNumbers_120 : decode cX7_readNumbers 120 = .ok (.aload_n 0, 1) := by decide +kernel
theorem dX7_readNumbers_121 : decode cX7_readNumbers 121 = .ok (.dup, 1) := by decide +kernel
theorem dX7_readNumbers_122 : decode cX7_readNumbers 122 = .ok (.getfield 54, 3) := by decide +kernel
theorem dX7_readNumbers_125 : decode cX7_readNumbers 125 = .ok (.iconst 1, 1) := by decide +kernel
theorem dX7_readNumbers_126 : decode cX7_readNumbers 126 = .ok (.iadd, 1) := by decide +kernel
theorem dX7_readNumbers_127 : decode cX7_readNumbers 127 = .ok (.putfield 54, 3) := by decide +kernel
theorem dX7_readNumbers_130 : decode cX7_readNumbers 130 = .ok (.iinc 2 1, 3) := by decide +kernel
theorem dX7_readNumbers_133 : decode cX7_readNumbers 133 = .ok (.goto (-131), 3) := by decide +kernel
theorem dX7_readNumbers_136 : decode cX7_readNumbers 136 = .ok (.iconst 1, 1) := by decide +kernel
theorem dX7_readNumbers_137 : decode cX7_readNumbers 137 = .ok (.ireturn, 1) := by decide +kernel
set_option maxRecDepth 20000 in
theorem ggX7_isBlockButExit_X7_in : GoodIn wsX7_isBlockButExit wsX7_in := goodIn_r _ [5] (by decide +kernel) (by decide +kernel)
set_option maxRecDepth 20000 in
theorem gX7_isBlockButExit_X7_in : GoodIn wsX7_isBlockButExit (va_wsS RX7 60 yX7_in wsX7_in) := goodIn_app (goodIn_of _ (by decide +kernel)) ggX7_isBlockButExit_X7_in
end
section
theorem dX7_isBlockButExit_0 : decode cX7_isBlockButExit 0 = .ok (.iload_n 1, 1) := by decide +kernel
theorem dX7_isBlockButExit_1 : decode cX7_isBlockButExit 1 = .ok (.iconst 0, 1) := by decide +kernel
theorem dX7_isBlockButExit_2 : decode cX7_isBlockButExit 2 = .ok (.aload_n 0, 1) := by decide +kernel
theorem dX7_isBlockButExit_3 : decode cX7_isBlockButExit 3 = .ok (.getfield 40, 3) := by decide +kernel
theorem dX7_isBlockButExit_6 : decode cX7_isBlockButExit 6 = .ok (.iconst 2, 1) := by decide +kernel
theorem dX7_isBlockButExit_7 : decode cX7_isBlockButExit 7 = .ok (.isub, 1) := by decide +kernel
theorem dX7_isBlockButExit_8 : decode cX7_isBlockButExit 8 = .ok (.invokestatic 60, 3) := by decide +kernel
theorem dX7_isBlockButExit_11 : decode cX7_isBlockButExit 11 = .ok (.ireturn, 1) := by decide +kernel
set_option maxRecDepth 20000 in
theorem ggX7_readStatement_X7_readNumbers : GoodIn wsX7_readStatement wsX7_readNumbers := goodIn_r _ [11, 2, 1, 12, 3, 13, 14, 15, 10, 16, 17, 18, 19, 34, 35, 36, 37, 38, 39, 40, 41, 42, 43, 44, 45, 46, 47, 48, 49, 50, 51, 52] (by decide +kernel) (by decide +kernel)
set_option maxRecDepth 20000 in
theorem gX7_readStatement_X7_readNumbers : GoodIn wsX7_readStatement (wsV RX7 68 RX7 yX7_readNumbers wsX7_readNumbers) := goodIn_app (goodIn_of _ (by decide +kernel)) ggX7_readStatement_X7_readNumbers
set_option maxRecDepth 20000 in
theorem ggX7_readStatement_X7_in : GoodIn wsX7_readStatement wsX7_in := goodIn_r _ [19] (by decide +kernel) (by decide +kernel)
set_option maxRecDepth 20000 in
theorem gX7_readStatement_X7_in : GoodIn wsX7_readStatement (va_wsS RX7 60 yX7_in wsX7_in) := goodIn_app (goodIn_of _ (by decide +kernel)) ggX7_readStatement_X7_in
set_option maxRecDepth 20000 in
theorem ggX7_readStatement_X7_isBlockButExit : GoodIn wsX7_readStatement wsX7_isBlockButExit := goodIn_r _ [23, 4, 17, 18, 10, 19, 34, 35, 36, 37, 38, 39, 40, 41, 42, 43, 44, 45, 46, 47, 48, 49, 50, 51, 52] (by decide +kernel) (by decide +kernel)
set_option maxRecDepth 20000 in
theorem gX7_readStatement_X7_isBlockButExit : GoodIn wsX7_readStatement (wsV RX7 72 RX7 yX7_isBlockButExit wsX7_isBlockButExit) := goodIn_app (goodIn_of _ (by decide +kernel)) ggX7_readStatement_X7_isBlockButExit
set_option maxRecDepth 20000 in
theorem ggX7_readStatement_X7_has : GoodIn wsX7_readStatement wsX7_has := goodIn_r _ [26] (by decide +kernel) (by decide +kernel)
set_option maxRecDepth 20000 in
theorem gX7_readStatement_X7_has : GoodIn wsX7_readStatement (va_wsS RX7 78 yX7_has wsX7_has) := goodIn_app (goodIn_of _ (by decide +kernel)) ggX7_readStatement_X7_has
set_option maxRecDepth 20000 in
theorem ggX7_readStatement_X7_putEdge : GoodIn wsX7_readStatement wsX7_putEdge := goodIn_r _ [30, 31, 6, 32, 33, 34, 35, 36, 37, 38, 39, 40, 41, 42, 43, 44, 45, 46, 47, 48, 49, 50, 51, 52] (by decide +kernel) (by decide +kernel)
set_option maxRecDepth 20000 in
theorem gX7_readStatement_X7_putEdge : GoodIn wsX7_readStatement (wsV RX7 44 RX7 yX7_putEdge wsX7_putEdge) := goodIn_app (goodIn_of _ (by decide +kernel)) ggX7_readStatement_X7_putEdge
theorem dX7_readStatement_0 : decode cX7_readStatement 0 = .ok (.aload_n 0, 1) := by decide +kernel
theorem dX7_readStatement_1 : decode cX7_readStatement 1 = .ok (.getfield 7, 3) := by decide +kernel
theorem dX7_readStatement_4 : decode cX7_readStatement 4 = .ok (.aload_n 0, 1) := by decide +kernel
theorem dX7_readStatement_5 : decode cX7_readStatement 5 = .ok (.getfield 54, 3) := by decide +kernel
theorem dX7_readStatement_8 : decode cX7_readStatement 8 = .ok (.iaload, 1) := by decide +kernel
theorem dX7_readStatement_9 : decode cX7_readStatement 9 = .ok (.istore_n 1, 1) := by decide +kernel
theorem dX7_readStatement_10 : decode cX7_readStatement 10 = .ok (.aload_n 0, 1) := by decide +kernel
theorem dX7_readStatement_11 : decode cX7_readStatement 11 = .ok (.getfield 54, 3) := by decide +kernel
theorem dX7_readStatement_14 : decode cX7_readStatement 14 = .ok (.ifCond .ne 7, 3) := by decide +kernel
theorem dX7_readStatement_17 : decode cX7_readStatement 17 = .ok (.iconst 1, 1) := by decide +kernel
theorem dX7_readStatement_18 : decode cX7_readStatement 18 = .ok (.goto 4, 3) := by decide +kernel
theorem dX7_readStatement_21 : decode cX7_readStatement 21 = .ok (.iconst 0, 1) := by decide +kernel
theorem dX7_readStatement_22 : decode cX7_readStatement 22 = .ok (.istore_n 2, 1) := by decide +kernel
theorem dX7_readStatement_23 : decode cX7_readStatement 23 = .ok (.iload_n 1, 1) := by decide +kernel
theorem dX7_readStatement_24 : decode cX7_readStatement 24 = .ok (.bipush 98, 2) := by decide +kernel
theorem dX7_readStatement_26 : decode cX7_readStatement 26 = .ok (.if_icmp .eq 15, 3) := by decide +kernel
theorem dX7_readStatement_29 : decode cX7_readStatement 29 = .ok (.iload_n 1, 1) := by decide +kernel
theorem dX7_readStatement_30 : decode cX7_readStatement 30 = .ok (.bipush 101, 2) := by decide +kernel
theorem dX7_readStatement_32 : decode cX7_readStatement 32 = .ok (.if_icmp .eq 9, 3) := by decide +kernel
theorem dX7_readStatement_35 : decode cX7_readStatement 35 = .ok (.iload_n 1, 1) := by decide +kernel
theorem dX7_readStatement_36 : decode cX7_readStatement 36 = .ok (.bipush 97, 2) := by decide +kernel
theorem dX7_readStatement_38 : decode cX7_readStatement 38 = .ok (.if_icmp .ne 18, 3) := by decide +kernel
theorem dX7_readStatement_41 : decode cX7_readStatement 41 = .ok (.iload_n 2, 1) := by decide +kernel
theorem dX7_readStatement_42 : decode cX7_readStatement 42 = .ok (.iload_n 1, 1) := by decide +kernel
theorem dX7_readStatement_43 : decode cX7_readStatement 43 = .ok (.bipush 98, 2) := by decide +kernel
theorem dX7_readStatement_45 : decode cX7_readStatement 45 = .ok (.if_icmp .ne 7, 3) := by decide +kernel
theorem dX7_readStatement_48 : decode cX7_readStatement 48 = .ok (.iconst 1, 1) := by decide +kernel
theorem dX7_readStatement_49 : decode cX7_readStatement 49 = .ok (.goto 4, 3) := by decide +kernel
theorem dX7_readStatement_52 : decode cX7_readStatement 52 = .ok (.iconst 0, 1) := by decide +kernel
theorem dX7_readStatement_53 : decode cX7_readStatement 53 = .ok (.if_icmp .eq 5, 3) := by decide +kernel
theorem dX7_readStatement_56 : decode cX7_readStatement 56 = .ok (.iconst 1, 1) := by decide +kernel
theorem dX7_readStatement_57 : decode cX7_readStatement 57 = .ok (.ireturn, 1) := by decide +kernel
theorem dX7_readStatement_58 : decode cX7_readStatement 58 = .ok (.aload_n 0, 1) := by decide +kernel
theorem dX7_readStatement_59 : decode cX7_readStatement 59 = .ok (.dup, 1) := by decide +kernel
theorem dX7_readStatement_60 : decode cX7_readStatement 60 = .ok (.getfield 54, 3) := by decide +kernel
theorem dX7_readStatement_63 : decode cX7_readStatement 63 = .ok (.iconst 1, 1) := by decide +kernel
theorem dX7_readStatement_64 : decode cX7_readStatement 64 = .ok (.iadd, 1) := by decide +kernel
theorem dX7_readStatement_65 : decode cX7_readStatement 65 = .ok (.putfield 54, 3) := by decide +kernel
theorem dX7_readStatement_68 : decode cX7_readStatement 68 = .ok (.aload_n 0, 1) := by decide +kernel
theorem dX7_readStatement_69 : decode cX7_readStatement 69 = .ok (.iload_n 1, 1) := by decide +kernel
theorem dX7_readStatement_70 : decode cX7_readStatement 70 = .ok (.bipush 101, 2) := by decide +kernel
theorem dX7_readStatement_72 : decode cX7_readStatement 72 = .ok (.if_icmp .ne 7, 3) := by decide +kernel
theorem dX7_readStatement_75 : decode cX7_readStatement 75 = .ok (.iconst 3, 1) := by decide +kernel
theorem dX7_readStatement_76 : decode cX7_readStatement 76 = .ok (.goto 4, 3) := by decide +kernel
theorem dX7_readStatement_79 : decode cX7_readStatement 79 = .ok (.iconst 1, 1) := by decide +kernel
theorem dX7_readStatement_80 : decode cX7_readStatement 80 = .ok (.invokevirtual 68, 3) := by decide +kernel
theorem dX7_readStatement_83 : decode cX7_readStatement 83 = .ok (.ifCond .ne 5, 3) := by decide +kernel
theorem dX7_readStatement_86 : decode cX7_readStatement 86 = .ok (.iconst 2, 1) := by decide +kernel
theorem dX7_readStatement_87 : decode cX7_readStatement 87 = .ok (.ireturn, 1) := by decide +kernel
theorem dX7_readStatement_88 : decode cX7_readStatement 88 = .ok (.iload_n 1, 1) := by decide +kernel
theorem dX7_readStatement_89 : decode cX7_readStatement 89 = .ok (.bipush 98, 2) := by decide +kernel
theorem dX7_readStatement_91 : decode cX7_readStatement 91 = .ok (.if_icmp .ne 32, 3) := by decide +kernel
theorem dX7_readStatement_94 : decode cX7_readStatement 94 = .ok (.aload_n 0, 1) := by decide +kernel
theorem dX7_readStatement_95 : decode cX7_readStatement 95 = .ok (.aload_n 0, 1) := by decide +kernel
theorem dX7_readStatement_96 : decode cX7_readStatement 96 = .ok (.getfield 34, 3) := by decide +kernel
theorem dX7_readStatement_99 : decode cX7_readStatement 99 = .ok (.iconst 0, 1) := by decide +kernel
theorem dX7_readStatement_100 : decode cX7_readStatement 100 = .ok (.iaload, 1) := by decide +kernel
theorem dX7_readStatement_101 : decode cX7_readStatement 101 = .ok (.putfield 40, 3) := by decide +kernel
theorem dX7_readStatement_104 : decode cX7_readStatement 104 = .ok (.aload_n 0, 1) := by decide +kernel
theorem dX7_readStatement_105 : decode cX7_readStatement 105 = .ok (.getfield 40, 3) := by decide +kernel
theorem dX7_readStatement_108 : decode cX7_readStatement 108 = .ok (.iconst 2, 1) := by decide +kernel
theorem dX7_readStatement_109 : decode cX7_readStatement 109 = .ok (.bipush 10, 2) := by decide +kernel
theorem dX7_readStatement_111 : decode cX7_readStatement 111 = .ok (.invokestatic 60, 3) := by decide +kernel
theorem dX7_readStatement_114 : decode cX7_readStatement 114 = .ok (.ifCond .eq 7, 3) := by decide +kernel
theorem dX7_readStatement_117 : decode cX7_readStatement 117 = .ok (.iconst 0, 1) := by decide +kernel
theorem dX7_readStatement_118 : decode cX7_readStatement 118 = .ok (.goto 4, 3) := by decide +kernel
theorem dX7_readStatement_121 : decode cX7_readStatement 121 = .ok (.iconst 3, 1) := by decide +kernel
theorem dX7_readStatement_122 : decode cX7_readStatement 122 = .ok (.ireturn, 1) := by decide +kernel
theorem dX7_readStatement_123 : decode cX7_readStatement 123 = .ok (.iload_n 1, 1) := by decide +kernel
theorem dX7_readStatement_124 : decode cX7_readStatement 124 = .ok (.bipush 97, 2) := by decide +kernel
theorem dX7_readStatement_126 : decode cX7_readStatement 126 = .ok (.if_icmp .ne 7, 3) := by decide +kernel
theorem dX7_readStatement_129 : decode cX7_readStatement 129 = .ok (.iconst 1, 1) := by decide +kernel
theorem dX7_readStatement_130 : decode cX7_readStatement 130 = .ok (.goto 4, 3) := by decide +kernel
theorem dX7_readStatement_133 : decode cX7_readStatement 133 = .ok (.iconst 0, 1) := by decide +kernel
theorem dX7_readStatement_134 : decode cX7_readStatement 134 = .ok (.istore_n 3, 1) := by decide +kernel
theorem dX7_readStatement_135 : decode cX7_readStatement 135 = .ok (.aload_n 0, 1) := by decide +kernel
theorem dX7_readStatement_136 : decode cX7_readStatement 136 = .ok (.getfield 34, 3) := by decide +kernel
theorem dX7_readStatement_139 : decode cX7_readStatement 139 = .ok (.iconst 0, 1) := by decide +kernel
theorem dX7_readStatement_140 : decode cX7_readStatement 140 = .ok (.iaload, 1) := by decide +kernel
theorem dX7_readStatement_141 : decode cX7_readStatement 141 = .ok (.istore 4, 2) := by decide +kernel
theorem dX7_readStatement_143 : decode cX7_readStatement 143 = .ok (.iload_n 3, 1) := by decide +kernel
theorem dX7_readStatement_144 : decode cX7_readStatement 144 = .ok (.ifCond .eq 12, 3) := by decide +kernel
theorem dX7_readStatement_147 : decode cX7_readStatement 147 = .ok (.aload_n 0, 1) := by decide +kernel
theorem dX7_readStatement_148 : decode cX7_readStatement 148 = .ok (.getfield 40, 3) := by decide +kernel
theorem dX7_readStatement_151 : decode cX7_readStatement 151 = .ok (.iconst 1, 1) := by decide +kernel
theorem dX7_readStatement_152 : decode cX7_readStatement 152 = .ok (.isub, 1) := by decide +kernel
theorem dX7_readStatement_153 : decode cX7_readStatement 153 = .ok (.goto 9, 3) := by decide +kernel
theorem dX7_readStatement_156 : decode cX7_readStatement 156 = .ok (.aload_n 0, 1) := by decide +kernel
theorem dX7_readStatement_157 : decode cX7_readStatement 157 = .ok (.getfield 34, 3) := by decide +kernel
theorem dX7_readStatement_160 : decode cX7_readStatement 160 = .ok (.iconst 1, 1) := by decide +kernel
theorem dX7_readStatement_161 : decode cX7_readStatement 161 = .ok (.iaload, 1) := by decide +kernel
theorem dX7_readStatement_162 : decode cX7_readStatement 162 = .ok (.istore 5, 2) := by decide +kernel
theorem dX7_readStatement_164 : decode cX7_readStatement 164 = .ok (.aload_n 0, 1) := by decide +kernel
theorem dX7_readStatement_165 : decode cX7_readStatement 165 = .ok (.iload 4, 2) := by decide +kernel
theorem dX7_readStatement_167 : decode cX7_readStatement 167 = .ok (.invokevirtual 72, 3) := by decide +kernel
theorem dX7_readStatement_170 : decode cX7_readStatement 170 = .ok (.ifCond .eq 25, 3) := by decide +kernel
theorem dX7_readStatement_173 : decode cX7_readStatement 173 = .ok (.iload 5, 2) := by decide +kernel
theorem dX7_readStatement_175 : decode cX7_readStatement 175 = .ok (.iconst 1, 1) := by decide +kernel
theorem dX7_readStatement_176 : decode cX7_readStatement 176 = .ok (.aload_n 0, 1) := by decide +kernel
theorem dX7_readStatement_177 : decode cX7_readStatement 177 = .ok (.getfield 40, 3) := by decide +kernel
theorem dX7_readStatement_180 : decode cX7_readStatement 180 = .ok (.iconst 1, 1) := by decide +kernel
theorem dX7_readStatement_181 : decode cX7_readStatement 181 = .ok (.isub, 1) := by decide +kernel
theorem dX7_readStatement_182 : decode cX7_readStatement 182 = .ok (.invokestatic 60, 3) := by decide +kernel
theorem dX7_readStatement_185 : decode cX7_readStatement 185 = .ok (.ifCond .eq 10, 3) := by decide +kernel
theorem dX7_readStatement_188 : decode cX7_readStatement 188 = .ok (.iload 4, 2) := by decide +kernel
theorem dX7_readStatement_190 : decode cX7_readStatement 190 = .ok (.iload 5, 2) := by decide +kernel
theorem dX7_readStatement_192 : decode cX7_readStatement 192 = .ok (.if_icmp .ne 5, 3) := by decide +kernel
theorem dX7_readStatement_195 : decode cX7_readStatement 195 = .ok (.iconst 3, 1) := by decide +kernel
theorem dX7_readStatement_196 : decode cX7_readStatement 196 = .ok (.ireturn, 1) := by decide +kernel
theorem dX7_readStatement_197 : decode cX7_readStatement 197 = .ok (.iload_n 3, 1) := by decide +kernel
theorem dX7_readStatement_198 : decode cX7_readStatement 198 = .ok (.ifCond .eq 17, 3) := by decide +kernel
theorem dX7_readStatement_201 : decode cX7_readStatement 201 = .ok (.aload_n 0, 1) := by decide +kernel
theorem dX7_readStatement_202 : decode cX7_readStatement 202 = .ok (.getfield 75, 3) := by decide +kernel
theorem dX7_readStatement_205 : decode cX7_readStatement 205 = .ok (.iload 4, 2) := by decide +kernel
theorem dX7_readStatement_207 : decode cX7_readStatement 207 = .ok (.invokestatic 78, 3) := by decide +kernel
theorem dX7_readStatement_210 : decode cX7_readStatement 210 = .ok (.ifCond .eq 5, 3) := by decide +kernel
theorem dX7_readStatement_213 : decode cX7_readStatement 213 = .ok (.iconst 4, 1) := by decide +kernel
theorem dX7_readStatement_214 : decode cX7_readStatement 214 = .ok (.ireturn, 1) := by decide +kernel
theorem dX7_readStatement_215 : decode cX7_readStatement 215 = .ok (.aload_n 0, 1) := by decide +kernel
theorem dX7_readStatement_216 : decode cX7_readStatement 216 = .ok (.getfield 51, 3) := by decide +kernel
theorem dX7_readStatement_219 : decode cX7_readStatement 219 = .ok (.bipush 20, 2) := by decide +kernel
theorem dX7_readStatement_221 : decode cX7_readStatement 221 = .ok (.if_icmp .ne 5, 3) := by decide +kernel
theorem dX7_readStatement_224 : decode cX7_readStatement 224 = .ok (.iconst 5, 1) := by decide +kernel
theorem dX7_readStatement_225 : decode cX7_readStatement 225 = .ok (.ireturn, 1) := by decide +kernel
theorem dX7_readStatement_226 : decode cX7_readStatement 226 = .ok (.aload_n 0, 1) := by decide +kernel
theorem dX7_readStatement_227 : decode cX7_readStatement 227 = .ok (.dup, 1) := by decide +kernel
theorem dX7_readStatement_228 : decode cX7_readStatement 228 = .ok (.getfield 75, 3) := by decide +kernel
theorem dX7_readStatement_231 : decode cX7_readStatement 231 = .ok (.iload_n 3, 1) := by decide +kernel
theorem dX7_readStatement_232 : decode cX7_readStatement 232 = .ok (.ifCond .eq 10, 3) := by decide +kernel
theorem dX7_readStatement_235 : decode cX7_readStatement 235 = .ok (.iconst 1, 1) := by decide +kernel
theorem dX7_readStatement_236 : decode cX7_readStatement 236 = .ok (.iload 4, 2) := by decide +kernel
theorem dX7_readStatement_238 : decode cX7_readStatement 238 = .ok (.ishl, 1) := by decide +kernel
theorem dX7_readStatement_239 : decode cX7_readStatement 239 = .ok (.goto 4, 3) := by decide +kernel
theorem dX7_readStatement_242 : decode cX7_readStatement 242 = .ok (.iconst 0, 1) := by decide +kernel
theorem dX7_readStatement_243 : decode cX7_readStatement 243 = .ok (.ior, 1) := by decide +kernel
theorem dX7_readStatement_244 : decode cX7_readStatement 244 = .ok (.putfield 75, 3) := by decide +kernel
theorem dX7_readStatement_247 : decode cX7_readStatement 247 = .ok (.aload_n 0, 1) := by decide +kernel
theorem dX7_readStatement_248 : decode cX7_readStatement 248 = .ok (.iload 4, 2) := by decide +kernel
theorem dX7_readStatement_250 : decode cX7_readStatement 250 = .ok (.iload 5, 2) := by decide +kernel
theorem dX7_readStatement_252 : decode cX7_readStatement 252 = .ok (.iload_n 3, 1) := by decide +kernel
theorem dX7_readStatement_253 : decode cX7_readStatement 253 = .ok (.ifCond .eq 7, 3) := by decide +kernel
theorem dX7_readStatement_256 : decode cX7_readStatement 256 = .ok (.iconst 0, 1) := by decide +kernel
theorem dX7_readStatement_257 : decode cX7_readStatement 257 = .ok (.goto 9, 3) := by decide +kernel
theorem dX7_readStatement_260 : decode cX7_readStatement 260 = .ok (.aload_n 0, 1) := by decide +kernel
theorem dX7_readStatement_261 : decode cX7_readStatement 261 = .ok (.getfield 34, 3) := by decide +kernel
theorem dX7_readStatement_264 : decode cX7_readStatement 264 = .ok (.iconst 2, 1) := by decide +kernel
theorem dX7_readStatement_265 : decode cX7_readStatement 265 = .ok (.iaload, 1) := by decide +kernel
theorem dX7_readStatement_266 : decode cX7_readStatement 266 = .ok (.invokevirtual 44, 3) := by decide +kernel
theorem dX7_readStatement_269 : decode cX7_readStatement 269 = .ok (.iconst 0, 1) := by decide +kernel
theorem dX7_readStatement_270 : decode cX7_readStatement 270 = .ok (.ireturn, 1) := by decide +kernel
set_option maxRecDepth 20000 in
theorem ggX7_readText_X7_readStatement : GoodIn wsX7_readText wsX7_readStatement := goodIn_r _ [11, 12, 5, 13, 1, 3, 2, 14, 15, 16, 10, 17, 6, 18, 19, 20, 21, 22, 23, 24, 25, 26, 27, 28, 29, 30, 31, 32, 33, 34, 35, 36, 37, 38, 39, 40, 41, 42, 43, 44, 45, 46, 47, 48, 49, 50, 51, 52, 53, 54, 55, 56, 57] (by decide +kernel) (by decide +kernel)
set_option maxRecDepth 20000 in
theorem gX7_readText_X7_readStatement : GoodIn wsX7_readText (wsV RX7 85 RX7 yX7_readStatement wsX7_readStatement) := goodIn_app (goodIn_of _ (by decide +kernel)) ggX7_readText_X7_readStatement
theorem dX7_readText_0 : decode cX7_readText 0 = .ok (.aload_n 0, 1) := by decide +kernel
theorem dX7_readText_1 : decode cX7_readText 1 = .ok (.iconst 0, 1) := by decide +kernel
theorem dX7_readText_2 : decode cX7_readText 2 = .ok (.putfield 40, 3) := by decide +kernel
theorem dX7_readText_5 : decode cX7_readText 5 = .ok (.aload_n 0, 1) := by decide +kernel
theorem dX7_readText_6 : decode cX7_readText 6 = .ok (.iconst 0, 1) := by decide +kernel
theorem dX7_readText_7 : decode cX7_readText 7 = .ok (.putfield 51, 3) := by decide +kernel
theorem dX7_readText_10 : decode cX7_readText 10 = .ok (.aload_n 0, 1) := by decide +kernel
theorem dX7_readText_11 : decode cX7_readText 11 = .ok (.iconst 0, 1) := by decide +kernel
theorem dX7_readText_12 : decode cX7_readText 12 = .ok (.putfield 75, 3) := by decide +kernel
theorem dX7_readText_15 : decode cX7_readText 15 = .ok (.aload_n 0, 1) := by decide +kernel
theorem dX7_readText_16 : decode cX7_readText 16 = .ok (.iconst 0, 1) := by decide +kernel
theorem dX7_readText_17 : decode cX7_readText 17 = .ok (.putfield 82, 3) := by decide +kernel
theorem dX7_readText_20 : decode cX7_readText 20 = .ok (.aload_n 0, 1) := by decide +kernel
theorem dX7_readText_21 : decode cX7_readText 21 = .ok (.iconst 0, 1) := by decide +kernel
theorem dX7_readText_22 : decode cX7_readText 22 = .ok (.putfield 54, 3) := by decide +kernel
theorem dX7_readText_25 : decode cX7_readText 25 = .ok (.aload_n 0, 1) := by decide +kernel
theorem dX7_readText_26 : decode cX7_readText 26 = .ok (.getfield 54, 3) := by decide +kernel
theorem dX7_readText_29 : decode cX7_readText 29 = .ok (.aload_n 0, 1) := by decide +kernel
theorem dX7_readText_30 : decode cX7_readText 30 = .ok (.getfield 57, 3) := by decide +kernel
theorem dX7_readText_33 : decode cX7_readText 33 = .ok (.if_icmp .ge 28, 3) := by decide +kernel
theorem dX7_readText_36 : decode cX7_readText 36 = .ok (.aload_n 0, 1) := by decide +kernel
theorem dX7_readText_37 : decode cX7_readText 37 = .ok (.getfield 54, 3) := by decide +kernel
theorem dX7_readText_40 : decode cX7_readText 40 = .ok (.istore_n 1, 1) := by decide +kernel
theorem dX7_readText_41 : decode cX7_readText 41 = .ok (.aload_n 0, 1) := by decide +kernel
theorem dX7_readText_42 : decode cX7_readText 42 = .ok (.aload_n 0, 1) := by decide +kernel
theorem dX7_readText_43 : decode cX7_readText 43 = .ok (.invokevirtual 85, 3) := by decide +kernel
theorem dX7_readText_46 : decode cX7_readText 46 = .ok (.putfield 82, 3) := by decide +kernel
theorem dX7_readText_49 : decode cX7_readText 49 = .ok (.aload_n 0, 1) := by decide +kernel
theorem dX7_readText_50 : decode cX7_readText 50 = .ok (.getfield 82, 3) := by decide +kernel
theorem dX7_readText_53 : decode cX7_readText 53 = .ok (.ifCond .eq 5, 3) := by decide +kernel
theorem dX7_readText_56 : decode cX7_readText 56 = .ok (.iload_n 1, 1) := by decide +kernel
theorem dX7_readText_57 : decode cX7_readText 57 = .ok (.ireturn, 1) := by decide +kernel
theorem dX7_readText_58 : decode cX7_readText 58 = .ok (.goto (-33), 3) := by decide +kernel
theorem dX7_readText_61 : decode cX7_readText 61 = .ok (.bipush (-104), 2) := by decide +kernel
theorem dX7_readText_63 : decode cX7_readText 63 = .ok (.ireturn, 1) := by decide +kernel
set_option maxRecDepth 20000 in
theorem ggX7_append_X7_in : GoodIn wsX7_append wsX7_in := goodIn_r _ [6] (by decide +kernel) (by decide +kernel)
set_option maxRecDepth 20000 in
theorem gX7_append_X7_in : GoodIn wsX7_append (va_wsS RX7 60 yX7_in wsX7_in) := goodIn_app (goodIn_of _ (by decide +kernel)) ggX7_append_X7_in
theorem dX7_append_0 : decode cX7_append 0 = .ok (.iload_n 1, 1) := by decide +kernel
theorem dX7_append_1 : decode cX7_append 1 = .ok (.bipush 32, 2) := by decide +kernel
theorem dX7_append_3 : decode cX7_append 3 = .ok (.bipush 126, 2) := by decide +kernel
theorem dX7_append_5 : decode cX7_append 5 = .ok (.invokestatic 60, 3) := by decide +kernel
theorem dX7_append_8 : decode cX7_append 8 = .ok (.ifCond .ne 6, 3) := by decide +kernel
theorem dX7_append_11 : decode cX7_append 11 = .ok (.bipush (-101), 2) := by decide +kernel
theorem dX7_append_13 : decode cX7_append 13 = .ok (.ireturn, 1) := by decide +kernel
theorem dX7_append_14 : decode cX7_append 14 = .ok (.aload_n 0, 1) := by decide +kernel
theorem dX7_append_15 : decode cX7_append 15 = .ok (.getfield 57, 3) := by decide +kernel
theorem dX7_append_18 : decode cX7_append 18 = .ok (.sipush 200, 3) := by decide +kernel
theorem dX7_append_21 : decode cX7_append 21 = .ok (.if_icmp .ne 6, 3) := by decide +kernel
theorem dX7_append_24 : decode cX7_append 24 = .ok (.bipush (-103), 2) := by decide +kernel
theorem dX7_append_26 : decode cX7_append 26 = .ok (.ireturn, 1) := by decide +kernel
theorem dX7_append_27 : decode cX7_append 27 = .ok (.aload_n 0, 1) := by decide +kernel
theorem dX7_append_28 : decode cX7_append 28 = .ok (.getfield 7, 3) := by decide +kernel
theorem dX7_append_31 : decode cX7_append 31 = .ok (.aload_n 0, 1) := by decide +kernel
theorem dX7_append_32 : decode cX7_append 32 = .ok (.getfield 57, 3) := by decide +kernel
theorem dX7_append_35 : decode cX7_append 35 = .ok (.iload_n 1, 1) := by decide +kernel
theorem dX7_append_36 : decode cX7_append 36 = .ok (.iastore, 1) := by decide +kernel
theorem dX7_append_37 : decode cX7_append 37 = .ok (.aload_n 0, 1) := by decide +kernel
theorem dX7_append_38 : decode cX7_append 38 = .ok (.dup, 1) := by decide +kernel
theorem dX7_append_39 : decode cX7_append 39 = .ok (.getfield 57, 3) := by decide +kernel
theorem dX7_append_42 : decode cX7_append 42 = .ok (.iconst 1, 1) := by decide +kernel
theorem dX7_append_43 : decode cX7_append 43 = .ok (.iadd, 1) := by decide +kernel
theorem dX7_append_44 : decode cX7_append 44 = .ok (.putfield 57, 3) := by decide +kernel
theorem dX7_append_47 : decode cX7_append 47 = .ok (.aload_n 0, 1) := by decide +kernel
theorem dX7_append_48 : decode cX7_append 48 = .ok (.getfield 57, 3) := by decide +kernel
theorem dX7_append_51 : decode cX7_append 51 = .ok (.ireturn, 1) := by decide +kernel
theorem dX7_clearText_0 : decode cX7_clearText 0 = .ok (.aload_n 0, 1) := by decide +kernel
theorem dX7_clearText_1 : decode cX7_clearText 1 = .ok (.getfield 57, 3) := by decide +kernel
theorem dX7_clearText_4 : decode cX7_clearText 4 = .ok (.istore_n 1, 1) := by decide +kernel
theorem dX7_clearText_5 : decode cX7_clearText 5 = .ok (.aload_n 0, 1) := by decide +kernel
theorem dX7_clearText_6 : decode cX7_clearText 6 = .ok (.iconst 0, 1) := by decide +kernel
theorem dX7_clearText_7 : decode cX7_clearText 7 = .ok (.putfield 57, 3) := by decide +kernel
theorem dX7_clearText_10 : decode cX7_clearText 10 = .ok (.iload_n 1, 1) := by decide +kernel
theorem dX7_clearText_11 : decode cX7_clearText 11 = .ok (.ireturn, 1) := by decide +kernel
set_option maxRecDepth 20000 in
theorem ggX7_firstError_X7_readText : GoodIn wsX7_firstError wsX7_readText := goodIn_r _ [5, 6, 7, 8, 9, 10, 11, 12, 13, 14, 4, 15, 16, 17, 18, 19, 20, 21, 22, 23, 24, 25, 26, 27, 28, 29, 30, 31, 32, 33, 34, 35, 36, 37, 38, 39, 40, 41, 42, 43, 44, 45, 46, 47, 48, 49, 50, 51, 52, 53, 54, 55, 56, 57, 58, 59, 60, 61] (by decide +kernel) (by decide +kernel)
set_option maxRecDepth 20000 in
theorem gX7_firstError_X7_readText : GoodIn wsX7_firstError (wsV RX7 89 RX7 yX7_readText wsX7_readText) := goodIn_app (goodIn_of _ (by decide +kernel)) ggX7_firstError_X7_readText
theorem dX7_firstError_0 : decode cX7_firstError 0 = .ok (.aload_n 0, 1) := by decide +kernel
theorem dX7_firstError_1 : decode cX7_firstError 1 = .ok (.invokevirtual 89, 3) := by decide +kernel
theorem dX7_firstError_4 : decode cX7_firstError 4 = .ok (.ireturn, 1) := by decide +kernel
set_option maxRecDepth 20000 in
theorem ggX7_errorReason_X7_readText : GoodIn wsX7_errorReason wsX7_readText := goodIn_r _ [6, 7, 8, 9, 1, 10, 11, 12, 13, 14, 5, 15, 16, 17, 18, 19, 20, 21, 22, 23, 24, 25, 26, 27, 28, 29, 30, 31, 32, 33, 34, 35, 36, 37, 38, 39, 40, 41, 42, 43, 44, 45, 46, 47, 48, 49, 50, 51, 52, 53, 54, 55, 56, 57, 58, 59, 60, 61] (by decide +kernel) (by decide +kernel)
set_option maxRecDepth 20000 in
theorem gX7_errorReason_X7_readText : GoodIn wsX7_errorReason (wsV RX7 89 RX7 yX7_readText wsX7_readText) := goodIn_app (goodIn_of _ (by decide +kernel)) ggX7_errorReason_X7_readText
theorem dX7_errorReason_0 : decode cX7_errorReason 0 = .ok (.aload_n 0, 1) := by decide +kernel
theorem dX7_errorReason_1 : decode cX7_errorReason 1 = .ok (.invokevirtual 89, 3) := by decide +kernel
theorem dX7_errorReason_4 : decode cX7_errorReason 4 = .ok (.istore_n 1, 1) := by decide +kernel
theorem dX7_errorReason_5 : decode cX7_errorReason 5 = .ok (.iload_n 1, 1) := by decide +kernel
theorem dX7_errorReason_6 : decode cX7_errorReason 6 = .ok (.bipush (-104), 2) := by decide +kernel
theorem dX7_errorReason_8 : decode cX7_errorReason 8 = .ok (.if_icmp .ne 8, 3) := by decide +kernel
theorem dX7_errorReason_11 : decode cX7_errorReason 11 = .ok (.bipush (-104), 2) := by decide +kernel
theorem dX7_errorReason_13 : decode cX7_errorReason 13 = .ok (.goto 7, 3) := by decide +kernel
theorem dX7_errorReason_16 : decode cX7_errorReason 16 = .ok (.aload_n 0, 1) := by decide +kernel
theorem dX7_errorReason_17 : decode cX7_errorReason 17 = .ok (.getfield 82, 3) := by decide +kernel
theorem dX7_errorReason_20 : decode cX7_errorReason 20 = .ok (.ireturn, 1) := by decide +kernel
theorem dX7_isComplete_0 : decode cX7_isComplete 0 = .ok (.iconst 0, 1) := by decide +kernel
theorem dX7_isComplete_1 : decode cX7_isComplete 1 = .ok (.istore_n 1, 1) := by decide +kernel
theorem dX7_isComplete_2 : decode cX7_isComplete 2 = .ok (.iconst 1, 1) := by decide +kernel
theorem dX7_isComplete_3 : decode cX7_isComplete 3 = .ok (.iconst 1, 1) := by decide +kernel
theorem dX7_isComplete_4 : decode cX7_isComplete 4 = .ok (.aload_n 0, 1) := by decide +kernel
theorem dX7_isComplete_5 : decode cX7_isComplete 5 = .ok (.getfield 40, 3) := by decide +kernel
theorem dX7_isComplete_8 : decode cX7_isComplete 8 = .ok (.iconst 1, 1) := by decide +kernel
theorem dX7_isComplete_9 : decode cX7_isComplete 9 = .ok (.isub, 1) := by decide +kernel
theorem dX7_isComplete_10 : decode cX7_isComplete 10 = .ok (.ishl, 1) := by decide +kernel
theorem dX7_isComplete_11 : decode cX7_isComplete 11 = .ok (.ior, 1) := by decide +kernel
theorem dX7_isComplete_12 : decode cX7_isComplete 12 = .ok (.istore_n 2, 1) := by decide +kernel
theorem dX7_isComplete_13 : decode cX7_isComplete 13 = .ok (.iconst 0, 1) := by decide +kernel
theorem dX7_isComplete_14 : decode cX7_isComplete 14 = .ok (.istore_n 3, 1) := by decide +kernel
theorem dX7_isComplete_15 : decode cX7_isComplete 15 = .ok (.iload_n 3, 1) := by decide +kernel
theorem dX7_isComplete_16 : decode cX7_isComplete 16 = .ok (.bipush 10, 2) := by decide +kernel
theorem dX7_isComplete_18 : decode cX7_isComplete 18 = .ok (.if_icmp .ge 76, 3) := by decide +kernel
theorem dX7_isComplete_21 : decode cX7_isComplete 21 = .ok (.iconst 0, 1) := by decide +kernel
theorem dX7_isComplete_22 : decode cX7_isComplete 22 = .ok (.istore 4, 2) := by decide +kernel
theorem dX7_isComplete_24 : decode cX7_isComplete 24 = .ok (.iload 4, 2) := by decide +kernel
theorem dX7_isComplete_26 : decode cX7_isComplete 26 = .ok (.aload_n 0, 1) := by decide +kernel
theorem dX7_isComplete_27 : decode cX7_isComplete 27 = .ok (.getfield 51, 3) := by decide +kernel
theorem dX7_isComplete_30 : decode cX7_isComplete 30 = .ok (.if_icmp .ge 58, 3) := by decide +kernel
theorem dX7_isComplete_33 : decode cX7_isComplete 33 = .ok (.iconst 1, 1) := by decide +kernel
theorem dX7_isComplete_34 : decode cX7_isComplete 34 = .ok (.aload_n 0, 1) := by decide +kernel
theorem dX7_isComplete_35 : decode cX7_isComplete 35 = .ok (.getfield 25, 3) := by decide +kernel
theorem dX7_isComplete_38 : decode cX7_isComplete 38 = .ok (.iload 4, 2) := by decide +kernel
theorem dX7_isComplete_40 : decode cX7_isComplete 40 = .ok (.iaload, 1) := by decide +kernel
theorem dX7_isComplete_41 : decode cX7_isComplete 41 = .ok (.ishl, 1) := by decide +kernel
theorem dX7_isComplete_42 : decode cX7_isComplete 42 = .ok (.iconst 1, 1) := by decide +kernel
theorem dX7_isComplete_43 : decode cX7_isComplete 43 = .ok (.aload_n 0, 1) := by decide +kernel
theorem dX7_isComplete_44 : decode cX7_isComplete 44 = .ok (.getfield 28, 3) := by decide +kernel
theorem dX7_isComplete_47 : decode cX7_isComplete 47 = .ok (.iload 4, 2) := by decide +kernel
theorem dX7_isComplete_49 : decode cX7_isComplete 49 = .ok (.iaload, 1) := by decide +kernel
theorem dX7_isComplete_50 : decode cX7_isComplete 50 = .ok (.ishl, 1) := by decide +kernel
theorem dX7_isComplete_51 : decode cX7_isComplete 51 = .ok (.ior, 1) := by decide +kernel
theorem dX7_isComplete_52 : decode cX7_isComplete 52 = .ok (.istore 5, 2) := by decide +kernel
theorem dX7_isComplete_54 : decode cX7_isComplete 54 = .ok (.iload_n 1, 1) := by decide +kernel
theorem dX7_isComplete_55 : decode cX7_isComplete 55 = .ok (.iconst 1, 1) := by decide +kernel
theorem dX7_isComplete_56 : decode cX7_isComplete 56 = .ok (.aload_n 0, 1) := by decide +kernel
theorem dX7_isComplete_57 : decode cX7_isComplete 57 = .ok (.getfield 25, 3) := by decide +kernel
theorem dX7_isComplete_60 : decode cX7_isComplete 60 = .ok (.iload 4, 2) := by decide +kernel
theorem dX7_isComplete_62 : decode cX7_isComplete 62 = .ok (.iaload, 1) := by decide +kernel
theorem dX7_isComplete_63 : decode cX7_isComplete 63 = .ok (.ishl, 1) := by decide +kernel
theorem dX7_isComplete_64 : decode cX7_isComplete 64 = .ok (.ior, 1) := by decide +kernel
theorem dX7_isComplete_65 : decode cX7_isComplete 65 = .ok (.istore_n 1, 1) := by decide +kernel
theorem dX7_isComplete_66 : decode cX7_isComplete 66 = .ok (.iload_n 2, 1) := by decide +kernel
theorem dX7_isComplete_67 : decode cX7_isComplete 67 = .ok (.iload_n 2, 1) := by decide +kernel
theorem dX7_isComplete_68 : decode cX7_isComplete 68 = .ok (.iload 5, 2) := by decide +kernel
theorem dX7_isComplete_70 : decode cX7_isComplete 70 = .ok (.iand, 1) := by decide +kernel
theorem dX7_isComplete_71 : decode cX7_isComplete 71 = .ok (.ifCond .eq 8, 3) := by decide +kernel
theorem dX7_isComplete_74 : decode cX7_isComplete 74 = .ok (.iload 5, 2) := by decide +kernel
theorem dX7_isComplete_76 : decode cX7_isComplete 76 = .ok (.goto 4, 3) := by decide +kernel
theorem dX7_isComplete_79 : decode cX7_isComplete 79 = .ok (.iconst 0, 1) := by decide +kernel
theorem dX7_isComplete_80 : decode cX7_isComplete 80 = .ok (.ior, 1) := by decide +kernel
theorem dX7_isComplete_81 : decode cX7_isComplete 81 = .ok (.istore_n 2, 1) := by decide +kernel
theorem dX7_isComplete_82 : decode cX7_isComplete 82 = .ok (.iinc 4 1, 3) := by decide +kernel
theorem dX7_isComplete_85 : decode cX7_isComplete 85 = .ok (.goto (-61), 3) := by decide +kernel
theorem dX7_isComplete_88 : decode cX7_isComplete 88 = .ok (.iinc 3 1, 3) := by decide +kernel
theorem dX7_isComplete_91 : decode cX7_isComplete 91 = .ok (.goto (-76), 3) := by decide +kernel
theorem dX7_isComplete_94 : decode cX7_isComplete 94 = .ok (.iload_n 1, 1) := by decide +kernel
theorem dX7_isComplete_95 : decode cX7_isComplete 95 = .ok (.iconst 1, 1) := by decide +kernel
theorem dX7_isComplete_96 : decode cX7_isComplete 96 = .ok (.aload_n 0, 1) := by decide +kernel
theorem dX7_isComplete_97 : decode cX7_isComplete 97 = .ok (.getfield 40, 3) := by decide +kernel
theorem dX7_isComplete_100 : decode cX7_isComplete 100 = .ok (.iconst 1, 1) := by decide +kernel
theorem dX7_isComplete_101 : decode cX7_isComplete 101 = .ok (.isub, 1) := by decide +kernel
theorem dX7_isComplete_102 : decode cX7_isComplete 102 = .ok (.ishl, 1) := by decide +kernel
theorem dX7_isComplete_103 : decode cX7_isComplete 103 = .ok (.iconst 1, 1) := by decide +kernel
theorem dX7_isComplete_104 : decode cX7_isComplete 104 = .ok (.isub, 1) := by decide +kernel
theorem dX7_isComplete_105 : decode cX7_isComplete 105 = .ok (.if_icmp .ne 19, 3) := by decide +kernel
theorem dX7_isComplete_108 : decode cX7_isComplete 108 = .ok (.iload_n 2, 1) := by decide +kernel
theorem dX7_isComplete_109 : decode cX7_isComplete 109 = .ok (.iconst 1, 1) := by decide +kernel
theorem dX7_isComplete_110 : decode cX7_isComplete 110 = .ok (.aload_n 0, 1) := by decide +kernel
theorem dX7_isComplete_111 : decode cX7_isComplete 111 = .ok (.getfield 40, 3) := by decide +kernel
theorem dX7_isComplete_114 : decode cX7_isComplete 114 = .ok (.ishl, 1) := by decide +kernel
theorem dX7_isComplete_115 : decode cX7_isComplete 115 = .ok (.iconst 1, 1) := by decide +kernel
theorem dX7_isComplete_116 : decode cX7_isComplete 116 = .ok (.isub, 1) := by decide +kernel
theorem dX7_isComplete_117 : decode cX7_isComplete 117 = .ok (.if_icmp .ne 7, 3) := by decide +kernel
theorem dX7_isComplete_120 : decode cX7_isComplete 120 = .ok (.iconst 1, 1) := by decide +kernel
theorem dX7_isComplete_121 : decode cX7_isComplete 121 = .ok (.goto 4, 3) := by decide +kernel
theorem dX7_isComplete_124 : decode cX7_isComplete 124 = .ok (.iconst 0, 1) := by decide +kernel
theorem dX7_isComplete_125 : decode cX7_isComplete 125 = .ok (.ireturn, 1) := by decide +kernel
set_option maxRecDepth 20000 in
theorem ggX7_takeGraph_X7_findTree : GoodIn wsX7_takeGraph wsX7_findTree := goodIn_r _ [17, 9, 4, 5, 7, 18, 19, 20, 16, 21, 2, 22, 23, 24, 29, 30, 31, 32, 33, 34, 35, 36, 37, 38, 39, 40, 41, 42, 43, 44, 45, 46, 47] (by decide +kernel) (by decide +kernel)
set_option maxRecDepth 20000 in
theorem gX7_takeGraph_X7_findTree : GoodIn wsX7_takeGraph (wsV RX7 102 RX7 yX7_findTree wsX7_findTree) := goodIn_app (goodIn_of _ (by decide +kernel)) ggX7_takeGraph_X7_findTree
set_option maxRecDepth 20000 in
theorem ggX7_takeGraph_X7_resetCounts : GoodIn wsX7_takeGraph wsX7_resetCounts := goodIn_r _ [28, 9, 29, 30, 31, 32, 33, 34, 35, 36, 37, 38, 39, 40, 41, 42, 43, 44, 45, 46, 47] (by decide +kernel) (by decide +kernel)
set_option maxRecDepth 20000 in
theorem gX7_takeGraph_X7_resetCounts : GoodIn wsX7_takeGraph (wsV RX7 105 RX7 yX7_resetCounts wsX7_resetCounts) := goodIn_app (goodIn_of _ (by decide +kernel)) ggX7_takeGraph_X7_resetCounts
theorem dX7_takeGraph_0 : decode cX7_takeGraph 0 = .ok (.aload_n 0, 1) := by decide +kernel
theorem dX7_takeGraph_1 : decode cX7_takeGraph 1 = .ok (.aload_n 0, 1) := by decide +kernel
theorem dX7_takeGraph_2 : decode cX7_takeGraph 2 = .ok (.getfield 40, 3) := by decide +kernel
theorem dX7_takeGraph_5 : decode cX7_takeGraph 5 = .ok (.putfield 92, 3) := by decide +kernel
theorem dX7_takeGraph_8 : decode cX7_takeGraph 8 = .ok (.aload_n 0, 1) := by decide +kernel
theorem dX7_takeGraph_9 : decode cX7_takeGraph 9 = .ok (.aload_n 0, 1) := by decide +kernel
theorem dX7_takeGraph_10 : decode cX7_takeGraph 10 = .ok (.getfield 51, 3) := by decide +kernel
theorem dX7_takeGraph_13 : decode cX7_takeGraph 13 = .ok (.putfield 95, 3) := by decide +kernel
theorem dX7_takeGraph_16 : decode cX7_takeGraph 16 = .ok (.iconst 0, 1) := by decide +kernel
theorem dX7_takeGraph_17 : decode cX7_takeGraph 17 = .ok (.istore_n 1, 1) := by decide +kernel
theorem dX7_takeGraph_18 : decode cX7_takeGraph 18 = .ok (.iload_n 1, 1) := by decide +kernel
theorem dX7_takeGraph_19 : decode cX7_takeGraph 19 = .ok (.aload_n 0, 1) := by decide +kernel
theorem dX7_takeGraph_20 : decode cX7_takeGraph 20 = .ok (.getfield 51, 3) := by decide +kernel
theorem dX7_takeGraph_23 : decode cX7_takeGraph 23 = .ok (.if_icmp .ge 47, 3) := by decide +kernel
theorem dX7_takeGraph_26 : decode cX7_takeGraph 26 = .ok (.aload_n 0, 1) := by decide +kernel
theorem dX7_takeGraph_27 : decode cX7_takeGraph 27 = .ok (.getfield 13, 3) := by decide +kernel
theorem dX7_takeGraph_30 : decode cX7_takeGraph 30 = .ok (.iload_n 1, 1) := by decide +kernel
theorem dX7_takeGraph_31 : decode cX7_takeGraph 31 = .ok (.aload_n 0, 1) := by decide +kernel
theorem dX7_takeGraph_32 : decode cX7_takeGraph 32 = .ok (.getfield 25, 3) := by decide +kernel
theorem dX7_takeGraph_35 : decode cX7_takeGraph 35 = .ok (.iload_n 1, 1) := by decide +kernel
theorem dX7_takeGraph_36 : decode cX7_takeGraph 36 = .ok (.iaload, 1) := by decide +kernel
theorem dX7_takeGraph_37 : decode cX7_takeGraph 37 = .ok (.iastore, 1) := by decide +kernel
theorem dX7_takeGraph_38 : decode cX7_takeGraph 38 = .ok (.aload_n 0, 1) := by decide +kernel
theorem dX7_takeGraph_39 : decode cX7_takeGraph 39 = .ok (.getfield 16, 3) := by decide +kernel
theorem dX7_takeGraph_42 : decode cX7_takeGraph 42 = .ok (.iload_n 1, 1) := by decide +kernel
theorem dX7_takeGraph_43 : decode cX7_takeGraph 43 = .ok (.aload_n 0, 1) := by decide +kernel
theorem dX7_takeGraph_44 : decode cX7_takeGraph 44 = .ok (.getfield 28, 3) := by decide +kernel
theorem dX7_takeGraph_47 : decode cX7_takeGraph 47 = .ok (.iload_n 1, 1) := by decide +kernel
theorem dX7_takeGraph_48 : decode cX7_takeGraph 48 = .ok (.iaload, 1) := by decide +kernel
theorem dX7_takeGraph_49 : decode cX7_takeGraph 49 = .ok (.iastore, 1) := by decide +kernel
theorem dX7_takeGraph_50 : decode cX7_takeGraph 50 = .ok (.aload_n 0, 1) := by decide +kernel
theorem dX7_takeGraph_51 : decode cX7_takeGraph 51 = .ok (.getfield 19, 3) := by decide +kernel
theorem dX7_takeGraph_54 : decode cX7_takeGraph 54 = .ok (.iconst 0, 1) := by decide +kernel
theorem dX7_takeGraph_55 : decode cX7_takeGraph 55 = .ok (.iload_n 1, 1) := by decide +kernel
theorem dX7_takeGraph_56 : decode cX7_takeGraph 56 = .ok (.iadd, 1) := by decide +kernel
theorem dX7_takeGraph_57 : decode cX7_takeGraph 57 = .ok (.aload_n 0, 1) := by decide +kernel
theorem dX7_takeGraph_58 : decode cX7_takeGraph 58 = .ok (.getfield 31, 3) := by decide +kernel
theorem dX7_takeGraph_61 : decode cX7_takeGraph 61 = .ok (.iload_n 1, 1) := by decide +kernel
theorem dX7_takeGraph_62 : decode cX7_takeGraph 62 = .ok (.iaload, 1) := by decide +kernel
theorem dX7_takeGraph_63 : decode cX7_takeGraph 63 = .ok (.iastore, 1) := by decide +kernel
theorem dX7_takeGraph_64 : decode cX7_takeGraph 64 = .ok (.iinc 1 1, 3) := by decide +kernel
theorem dX7_takeGraph_67 : decode cX7_takeGraph 67 = .ok (.goto (-49), 3) := by decide +kernel
theorem dX7_takeGraph_70 : decode cX7_takeGraph 70 = .ok (.aload_n 0, 1) := by decide +kernel
theorem dX7_takeGraph_71 : decode cX7_takeGraph 71 = .ok (.getfield 19, 3) := by decide +kernel
theorem dX7_takeGraph_74 : decode cX7_takeGraph 74 = .ok (.bipush 80, 2) := by decide +kernel
theorem dX7_takeGraph_76 : decode cX7_takeGraph 76 = .ok (.ldc 98, 2) := by decide +kernel
theorem dX7_takeGraph_78 : decode cX7_takeGraph 78 = .ok (.iastore, 1) := by decide +kernel
theorem dX7_takeGraph_79 : decode cX7_takeGraph 79 = .ok (.aload_n 0, 1) := by decide +kernel
theorem dX7_takeGraph_80 : decode cX7_takeGraph 80 = .ok (.iconst 0, 1) := by decide +kernel
theorem dX7_takeGraph_81 : decode cX7_takeGraph 81 = .ok (.putfield 99, 3) := by decide +kernel
theorem dX7_takeGraph_84 : decode cX7_takeGraph 84 = .ok (.aload_n 0, 1) := by decide +kernel
theorem dX7_takeGraph_85 : decode cX7_takeGraph 85 = .ok (.invokevirtual 102, 3) := by decide +kernel
theorem dX7_takeGraph_88 : decode cX7_takeGraph 88 = .ok (.aload_n 0, 1) := by decide +kernel
theorem dX7_takeGraph_89 : decode cX7_takeGraph 89 = .ok (.invokevirtual 105, 3) := by decide +kernel
theorem dX7_takeGraph_92 : decode cX7_takeGraph 92 = .ok (.return_, 1) := by decide +kernel
set_option maxRecDepth 20000 in
theorem ggX7_configure_X7_readText : GoodIn wsX7_configure wsX7_readText := goodIn_r _ [7, 8, 9, 10, 11, 12, 1, 13, 14, 15, 6, 16, 17, 18, 19, 20, 21, 22, 23, 24, 25, 26, 27, 28, 29, 30, 31, 32, 33, 34, 35, 36, 37, 38, 39, 40, 41, 42, 43, 70, 71, 72, 73, 74, 75, 76, 77, 78, 79, 80, 81, 82, 83, 84, 85, 86, 87, 88] (by decide +kernel) (by decide +kernel)
set_option maxRecDepth 20000 in
theorem gX7_configure_X7_readText : GoodIn wsX7_configure (wsV RX7 89 RX7 yX7_readText wsX7_readText) := goodIn_app (goodIn_of _ (by decide +kernel)) ggX7_configure_X7_readText
set_option maxRecDepth 20000 in
theorem ggX7_configure_X7_isComplete : GoodIn wsX7_configure wsX7_isComplete := goodIn_r _ [47, 8, 9, 41, 42, 70, 71, 72, 73, 74, 75, 76, 77, 78, 79, 80, 81, 82, 83, 84, 85, 86, 87, 88] (by decide +kernel) (by decide +kernel)
set_option maxRecDepth 20000 in
theorem gX7_configure_X7_isComplete : GoodIn wsX7_configure (wsV RX7 108 RX7 yX7_isComplete wsX7_isComplete) := goodIn_app (goodIn_of _ (by decide +kernel)) ggX7_configure_X7_isComplete
set_option maxRecDepth 20000 in
theorem ggX7_configure_X7_takeGraph : GoodIn wsX7_configure wsX7_takeGraph := goodIn_r _ [51, 8, 52, 9, 2, 53, 41, 54, 42, 55, 43, 56, 57, 58, 59, 60, 6, 61, 62, 63, 64, 65, 34, 35, 36, 66, 67, 68, 69, 70, 71, 72, 73, 74, 75, 76, 77, 78, 79, 80, 81, 82, 83, 84, 85, 86, 87, 88] (by decide +kernel) (by decide +kernel)
set_option maxRecDepth 20000 in
theorem gX7_configure_X7_takeGraph : GoodIn wsX7_configure (wsV RX7 48 RX7 yX7_takeGraph wsX7_takeGraph) := goodIn_app (goodIn_of _ (by decide +kernel)) ggX7_configure_X7_takeGraph
theorem dX7_configure_0 : decode cX7_configure 0 = .ok (.aload_n 0, 1) := by decide +kernel
theorem dX7_configure_1 : decode cX7_configure 1 = .ok (.invokevirtual 89, 3) := by decide +kernel
theorem dX7_configure_4 : decode cX7_configure 4 = .ok (.bipush (-104), 2) := by decide +kernel
theorem dX7_configure_6 : decode cX7_configure 6 = .ok (.if_icmp .ne 17, 3) := by decide +kernel
theorem dX7_configure_9 : decode cX7_configure 9 = .ok (.aload_n 0, 1) := by decide +kernel
theorem dX7_configure_10 : decode cX7_configure 10 = .ok (.getfield 57, 3) := by decide +kernel
theorem dX7_configure_13 : decode cX7_configure 13 = .ok (.ifCond .eq 10, 3) := by decide +kernel
theorem dX7_configure_16 : decode cX7_configure 16 = .ok (.aload_n 0, 1) := by decide +kernel
theorem dX7_configure_17 : decode cX7_configure 17 = .ok (.invokevirtual 108, 3) := by decide +kernel
theorem dX7_configure_20 : decode cX7_configure 20 = .ok (.ifCond .ne 6, 3) := by decide +kernel
theorem dX7_configure_23 : decode cX7_configure 23 = .ok (.bipush (-102), 2) := by decide +kernel
theorem dX7_configure_25 : decode cX7_configure 25 = .ok (.ireturn, 1) := by decide +kernel
theorem dX7_configure_26 : decode cX7_configure 26 = .ok (.aload_n 0, 1) := by decide +kernel
theorem dX7_configure_27 : decode cX7_configure 27 = .ok (.invokevirtual 48, 3) := by decide +kernel
theorem dX7_configure_30 : decode cX7_configure 30 = .ok (.aload_n 0, 1) := by decide +kernel
theorem dX7_configure_31 : decode cX7_configure 31 = .ok (.getfield 95, 3) := by decide +kernel
theorem dX7_configure_34 : decode cX7_configure 34 = .ok (.ireturn, 1) := by decide +kernel
theorem dX7_sideOf_0 : decode cX7_sideOf 0 = .ok (.iconst 1, 1) := by decide +kernel
theorem dX7_sideOf_1 : decode cX7_sideOf 1 = .ok (.iload_n 1, 1) := by decide +kernel
theorem dX7_sideOf_2 : decode cX7_sideOf 2 = .ok (.ishl, 1) := by decide +kernel
theorem dX7_sideOf_3 : decode cX7_sideOf 3 = .ok (.istore_n 3, 1) := by decide +kernel
theorem dX7_sideOf_4 : decode cX7_sideOf 4 = .ok (.iconst 1, 1) := by decide +kernel
theorem dX7_sideOf_5 : decode cX7_sideOf 5 = .ok (.iconst 1, 1) := by decide +kernel
theorem dX7_sideOf_6 : decode cX7_sideOf 6 = .ok (.aload_n 0, 1) := by decide +kernel
theorem dX7_sideOf_7 : decode cX7_sideOf 7 = .ok (.getfield 92, 3) := by decide +kernel
theorem dX7_sideOf_10 : decode cX7_sideOf 10 = .ok (.iconst 1, 1) := by decide +kernel
theorem dX7_sideOf_11 : decode cX7_sideOf 11 = .ok (.isub, 1) := by decide +kernel
theorem dX7_sideOf_12 : decode cX7_sideOf 12 = .ok (.ishl, 1) := by decide +kernel
theorem dX7_sideOf_13 : decode cX7_sideOf 13 = .ok (.ior, 1) := by decide +kernel
theorem dX7_sideOf_14 : decode cX7_sideOf 14 = .ok (.istore 4, 2) := by decide +kernel
theorem dX7_sideOf_16 : decode cX7_sideOf 16 = .ok (.iconst 0, 1) := by decide +kernel
theorem dX7_sideOf_17 : decode cX7_sideOf 17 = .ok (.istore 5, 2) := by decide +kernel
theorem dX7_sideOf_19 : decode cX7_sideOf 19 = .ok (.iload 5, 2) := by decide +kernel
theorem dX7_sideOf_21 : decode cX7_sideOf 21 = .ok (.bipush 10, 2) := by decide +kernel
theorem dX7_sideOf_23 : decode cX7_sideOf 23 = .ok (.if_icmp .ge 112, 3) := by decide +kernel
theorem dX7_sideOf_26 : decode cX7_sideOf 26 = .ok (.iload_n 3, 1) := by decide +kernel
theorem dX7_sideOf_27 : decode cX7_sideOf 27 = .ok (.iload_n 3, 1) := by decide +kernel
theorem dX7_sideOf_28 : decode cX7_sideOf 28 = .ok (.iload 4, 2) := by decide +kernel
theorem dX7_sideOf_30 : decode cX7_sideOf 30 = .ok (.iand, 1) := by decide +kernel
theorem dX7_sideOf_31 : decode cX7_sideOf 31 = .ok (.ifCond .eq 8, 3) := by decide +kernel
theorem dX7_sideOf_34 : decode cX7_sideOf 34 = .ok (.iload 4, 2) := by decide +kernel
theorem dX7_sideOf_36 : decode cX7_sideOf 36 = .ok (.goto 4, 3) := by decide +kernel
theorem dX7_sideOf_39 : decode cX7_sideOf 39 = .ok (.iconst 0, 1) := by decide +kernel
theorem dX7_sideOf_40 : decode cX7_sideOf 40 = .ok (.ior, 1) := by decide +kernel
theorem dX7_sideOf_41 : decode cX7_sideOf 41 = .ok (.istore_n 3, 1) := by decide +kernel
theorem dX7_sideOf_42 : decode cX7_sideOf 42 = .ok (.iconst 0, 1) := by decide +kernel
theorem dX7_sideOf_43 : decode cX7_sideOf 43 = .ok (.istore 6, 2) := by decide +kernel
theorem dX7_sideOf_45 : decode cX7_sideOf 45 = .ok (.iload 6, 2) := by decide +kernel
theorem dX7_sideOf_47 : decode cX7_sideOf 47 = .ok (.aload_n 0, 1) := by decide +kernel
theorem dX7_sideOf_48 : decode cX7_sideOf 48 = .ok (.getfield 95, 3) := by decide +kernel
theorem dX7_sideOf_51 : decode cX7_sideOf 51 = .ok (.if_icmp .ge 78, 3) := by decide +kernel
theorem dX7_sideOf_54 : decode cX7_sideOf 54 = .ok (.iconst 1, 1) := by decide +kernel
theorem dX7_sideOf_55 : decode cX7_sideOf 55 = .ok (.aload_n 0, 1) := by decide +kernel
theorem dX7_sideOf_56 : decode cX7_sideOf 56 = .ok (.getfield 13, 3) := by decide +kernel
theorem dX7_sideOf_59 : decode cX7_sideOf 59 = .ok (.iload 6, 2) := by decide +kernel
theorem dX7_sideOf_61 : decode cX7_sideOf 61 = .ok (.iaload, 1) := by decide +kernel
theorem dX7_sideOf_62 : decode cX7_sideOf 62 = .ok (.ishl, 1) := by decide +kernel
theorem dX7_sideOf_63 : decode cX7_sideOf 63 = .ok (.iconst 1, 1) := by decide +kernel
theorem dX7_sideOf_64 : decode cX7_sideOf 64 = .ok (.aload_n 0, 1) := by decide +kernel
theorem dX7_sideOf_65 : decode cX7_sideOf 65 = .ok (.getfield 16, 3) := by decide +kernel
theorem dX7_sideOf_68 : decode cX7_sideOf 68 = .ok (.iload 6, 2) := by decide +kernel
theorem dX7_sideOf_70 : decode cX7_sideOf 70 = .ok (.iaload, 1) := by decide +kernel
theorem dX7_sideOf_71 : decode cX7_sideOf 71 = .ok (.ishl, 1) := by decide +kernel
theorem dX7_sideOf_72 : decode cX7_sideOf 72 = .ok (.ior, 1) := by decide +kernel
theorem dX7_sideOf_73 : decode cX7_sideOf 73 = .ok (.istore 7, 2) := by decide +kernel
theorem dX7_sideOf_75 : decode cX7_sideOf 75 = .ok (.aload_n 0, 1) := by decide +kernel
theorem dX7_sideOf_76 : decode cX7_sideOf 76 = .ok (.getfield 19, 3) := by decide +kernel
theorem dX7_sideOf_79 : decode cX7_sideOf 79 = .ok (.bipush 20, 2) := by decide +kernel
theorem dX7_sideOf_81 : decode cX7_sideOf 81 = .ok (.iload 6, 2) := by decide +kernel
theorem dX7_sideOf_83 : decode cX7_sideOf 83 = .ok (.iadd, 1) := by decide +kernel
theorem dX7_sideOf_84 : decode cX7_sideOf 84 = .ok (.iaload, 1) := by decide +kernel
theorem dX7_sideOf_85 : decode cX7_sideOf 85 = .ok (.iconst 1, 1) := by decide +kernel
theorem dX7_sideOf_86 : decode cX7_sideOf 86 = .ok (.if_icmp .ne 20, 3) := by decide +kernel
theorem dX7_sideOf_89 : decode cX7_sideOf 89 = .ok (.iload 6, 2) := by decide +kernel
theorem dX7_sideOf_91 : decode cX7_sideOf 91 = .ok (.iload_n 2, 1) := by decide +kernel
theorem dX7_sideOf_92 : decode cX7_sideOf 92 = .ok (.if_icmp .eq 14, 3) := by decide +kernel
theorem dX7_sideOf_95 : decode cX7_sideOf 95 = .ok (.iload_n 3, 1) := by decide +kernel
theorem dX7_sideOf_96 : decode cX7_sideOf 96 = .ok (.iload 7, 2) := by decide +kernel
theorem dX7_sideOf_98 : decode cX7_sideOf 98 = .ok (.iand, 1) := by decide +kernel
theorem dX7_sideOf_99 : decode cX7_sideOf 99 = .ok (.ifCond .eq 7, 3) := by decide +kernel
theorem dX7_sideOf_102 : decode cX7_sideOf 102 = .ok (.iconst 1, 1) := by decide +kernel
theorem dX7_sideOf_103 : decode cX7_sideOf 103 = .ok (.goto 4, 3) := by decide +kernel
theorem dX7_sideOf_106 : decode cX7_sideOf 106 = .ok (.iconst 0, 1) := by decide +kernel
theorem dX7_sideOf_107 : decode cX7_sideOf 107 = .ok (.istore 8, 2) := by decide +kernel
theorem dX7_sideOf_109 : decode cX7_sideOf 109 = .ok (.iload_n 3, 1) := by decide +kernel
theorem dX7_sideOf_110 : decode cX7_sideOf 110 = .ok (.iload 8, 2) := by decide +kernel
theorem dX7_sideOf_112 : decode cX7_sideOf 112 = .ok (.ifCond .eq 8, 3) := by decide +kernel
theorem dX7_sideOf_115 : decode cX7_sideOf 115 = .ok (.iload 7, 2) := by decide +kernel
theorem dX7_sideOf_117 : decode cX7_sideOf 117 = .ok (.goto 4, 3) := by decide +kernel
theorem dX7_sideOf_120 : decode cX7_sideOf 120 = .ok (.iconst 0, 1) := by decide +kernel
theorem dX7_sideOf_121 : decode cX7_sideOf 121 = .ok (.ior, 1) := by decide +kernel
theorem dX7_sideOf_122 : decode cX7_sideOf 122 = .ok (.istore_n 3, 1) := by decide +kernel
theorem dX7_sideOf_123 : decode cX7_sideOf 123 = .ok (.iinc 6 1, 3) := by decide +kernel
theorem dX7_sideOf_126 : decode cX7_sideOf 126 = .ok (.goto (-81), 3) := by decide +kernel
theorem dX7_sideOf_129 : decode cX7_sideOf 129 = .ok (.iinc 5 1, 3) := by decide +kernel
theorem dX7_sideOf_132 : decode cX7_sideOf 132 = .ok (.goto (-113), 3) := by decide +kernel
theorem dX7_sideOf_135 : decode cX7_sideOf 135 = .ok (.iload_n 3, 1) := by decide +kernel
theorem dX7_sideOf_136 : decode cX7_sideOf 136 = .ok (.ireturn, 1) := by decide +kernel
set_option maxRecDepth 20000 in
theorem ggX7_findTree_X7_sideOf : GoodIn wsX7_findTree wsX7_sideOf := goodIn_r _ [9, 10, 2, 3, 4, 1, 14, 15, 16, 17, 18, 19, 20, 21, 22, 23, 24, 25, 26, 27, 28, 29, 30, 31, 32] (by decide +kernel) (by decide +kernel)
set_option maxRecDepth 20000 in
theorem gX7_findTree_X7_sideOf : GoodIn wsX7_findTree (wsV RX7 111 RX7 yX7_sideOf wsX7_sideOf) := goodIn_app (goodIn_of _ (by decide +kernel)) ggX7_findTree_X7_sideOf
set_option maxRecDepth 20000 in
theorem ggX7_findTree_X7_has : GoodIn wsX7_findTree wsX7_has := goodIn_r _ [13] (by decide +kernel) (by decide +kernel)
set_option maxRecDepth 20000 in
theorem gX7_findTree_X7_has : GoodIn wsX7_findTree (va_wsS RX7 78 yX7_has wsX7_has) := goodIn_app (goodIn_of _ (by decide +kernel)) ggX7_findTree_X7_has
theorem dX7_findTree_0 : decode cX7_findTree 0 = .ok (.iconst 0, 1) := by decide +kernel
theorem dX7_findTree_1 : decode cX7_findTree 1 = .ok (.istore_n 1, 1) := by decide +kernel
theorem dX7_findTree_2 : decode cX7_findTree 2 = .ok (.iload_n 1, 1) := by decide +kernel
theorem dX7_findTree_3 : decode cX7_findTree 3 = .ok (.bipush 20, 2) := by decide +kernel
theorem dX7_findTree_5 : decode cX7_findTree 5 = .ok (.if_icmp .ge 19, 3) := by decide +kernel
theorem dX7_findTree_8 : decode cX7_findTree 8 = .ok (.aload_n 0, 1) := by decide +kernel
theorem dX7_findTree_9 : decode cX7_findTree 9 = .ok (.getfield 19, 3) := by decide +kernel
theorem dX7_findTree_12 : decode cX7_findTree 12 = .ok (.bipush 20, 2) := by decide +kernel
theorem dX7_findTree_14 : decode cX7_findTree 14 = .ok (.iload_n 1, 1) := by decide +kernel
theorem dX7_findTree_15 : decode cX7_findTree 15 = .ok (.iadd, 1) := by decide +kernel
theorem dX7_findTree_16 : decode cX7_findTree 16 = .ok (.iconst 0, 1) := by decide +kernel
theorem dX7_findTree_17 : decode cX7_findTree 17 = .ok (.iastore, 1) := by decide +kernel
theorem dX7_findTree_18 : decode cX7_findTree 18 = .ok (.iinc 1 1, 3) := by decide +kernel
theorem dX7_findTree_21 : decode cX7_findTree 21 = .ok (.goto (-19), 3) := by decide +kernel
theorem dX7_findTree_24 : decode cX7_findTree 24 = .ok (.sipush 999, 3) := by decide +kernel
theorem dX7_findTree_27 : decode cX7_findTree 27 = .ok (.istore_n 1, 1) := by decide +kernel
theorem dX7_findTree_28 : decode cX7_findTree 28 = .ok (.iload_n 1, 1) := by decide +kernel
theorem dX7_findTree_29 : decode cX7_findTree 29 = .ok (.ifCond .lt 93, 3) := by decide +kernel
theorem dX7_findTree_32 : decode cX7_findTree 32 = .ok (.iconst 0, 1) := by decide +kernel
theorem dX7_findTree_33 : decode cX7_findTree 33 = .ok (.istore_n 2, 1) := by decide +kernel
theorem dX7_findTree_34 : decode cX7_findTree 34 = .ok (.iload_n 2, 1) := by decide +kernel
theorem dX7_findTree_35 : decode cX7_findTree 35 = .ok (.aload_n 0, 1) := by decide +kernel
theorem dX7_findTree_36 : decode cX7_findTree 36 = .ok (.getfield 95, 3) := by decide +kernel
theorem dX7_findTree_39 : decode cX7_findTree 39 = .ok (.if_icmp .ge 77, 3) := by decide +kernel
theorem dX7_findTree_42 : decode cX7_findTree 42 = .ok (.aload_n 0, 1) := by decide +kernel
theorem dX7_findTree_43 : decode cX7_findTree 43 = .ok (.getfield 19, 3) := by decide +kernel
theorem dX7_findTree_46 : decode cX7_findTree 46 = .ok (.iconst 0, 1) := by decide +kernel
theorem dX7_findTree_47 : decode cX7_findTree 47 = .ok (.iload_n 2, 1) := by decide +kernel
theorem dX7_findTree_48 : decode cX7_findTree 48 = .ok (.iadd, 1) := by decide +kernel
theorem dX7_findTree_49 : decode cX7_findTree 49 = .ok (.iaload, 1) := by decide +kernel
theorem dX7_findTree_50 : decode cX7_findTree 50 = .ok (.iload_n 1, 1) := by decide +kernel
theorem dX7_findTree_51 : decode cX7_findTree 51 = .ok (.if_icmp .ne 31, 3) := by decide +kernel
theorem dX7_findTree_54 : decode cX7_findTree 54 = .ok (.aload_n 0, 1) := by decide +kernel
theorem dX7_findTree_55 : decode cX7_findTree 55 = .ok (.aload_n 0, 1) := by decide +kernel
theorem dX7_findTree_56 : decode cX7_findTree 56 = .ok (.getfield 13, 3) := by decide +kernel
theorem dX7_findTree_59 : decode cX7_findTree 59 = .ok (.iload_n 2, 1) := by decide +kernel
theorem dX7_findTree_60 : decode cX7_findTree 60 = .ok (.iaload, 1) := by decide +kernel
theorem dX7_findTree_61 : decode cX7_findTree 61 = .ok (.bipush (-104), 2) := by decide +kernel
theorem dX7_findTree_63 : decode cX7_findTree 63 = .ok (.invokevirtual 111, 3) := by decide +kernel
theorem dX7_findTree_66 : decode cX7_findTree 66 = .ok (.aload_n 0, 1) := by decide +kernel
theorem dX7_findTree_67 : decode cX7_findTree 67 = .ok (.getfield 16, 3) := by decide +kernel
theorem dX7_findTree_70 : decode cX7_findTree 70 = .ok (.iload_n 2, 1) := by decide +kernel
theorem dX7_findTree_71 : decode cX7_findTree 71 = .ok (.iaload, 1) := by decide +kernel
theorem dX7_findTree_72 : decode cX7_findTree 72 = .ok (.invokestatic 78, 3) := by decide +kernel
theorem dX7_findTree_75 : decode cX7_findTree 75 = .ok (.ifCond .ne 7, 3) := by decide +kernel
theorem dX7_findTree_78 : decode cX7_findTree 78 = .ok (.iconst 1, 1) := by decide +kernel
theorem dX7_findTree_79 : decode cX7_findTree 79 = .ok (.goto 4, 3) := by decide +kernel
theorem dX7_findTree_82 : decode cX7_findTree 82 = .ok (.iconst 0, 1) := by decide +kernel
theorem dX7_findTree_83 : decode cX7_findTree 83 = .ok (.istore_n 3, 1) := by decide +kernel
theorem dX7_findTree_84 : decode cX7_findTree 84 = .ok (.aload_n 0, 1) := by decide +kernel
theorem dX7_findTree_85 : decode cX7_findTree 85 = .ok (.getfield 19, 3) := by decide +kernel
theorem dX7_findTree_88 : decode cX7_findTree 88 = .ok (.bipush 20, 2) := by decide +kernel
theorem dX7_findTree_90 : decode cX7_findTree 90 = .ok (.iload_n 2, 1) := by decide +kernel
theorem dX7_findTree_91 : decode cX7_findTree 91 = .ok (.iadd, 1) := by decide +kernel
theorem dX7_findTree_92 : decode cX7_findTree 92 = .ok (.iload_n 3, 1) := by decide +kernel
theorem dX7_findTree_93 : decode cX7_findTree 93 = .ok (.ifCond .eq 7, 3) := by decide +kernel
theorem dX7_findTree_96 : decode cX7_findTree 96 = .ok (.iconst 1, 1) := by decide +kernel
theorem dX7_findTree_97 : decode cX7_findTree 97 = .ok (.goto 12, 3) := by decide +kernel
theorem dX7_findTree_100 : decode cX7_findTree 100 = .ok (.aload_n 0, 1) := by decide +kernel
theorem dX7_findTree_101 : decode cX7_findTree 101 = .ok (.getfield 19, 3) := by decide +kernel
theorem dX7_findTree_104 : decode cX7_findTree 104 = .ok (.bipush 20, 2) := by decide +kernel
theorem dX7_findTree_106 : decode cX7_findTree 106 = .ok (.iload_n 2, 1) := by decide +kernel
theorem dX7_findTree_107 : decode cX7_findTree 107 = .ok (.iadd, 1) := by decide +kernel
theorem dX7_findTree_108 : decode cX7_findTree 108 = .ok (.iaload, 1) := by decide +kernel
theorem dX7_findTree_109 : decode cX7_findTree 109 = .ok (.iastore, 1) := by decide +kernel
theorem dX7_findTree_110 : decode cX7_findTree 110 = .ok (.iinc 2 1, 3) := by decide +kernel
theorem dX7_findTree_113 : decode cX7_findTree 113 = .ok (.goto (-79), 3) := by decide +kernel
theorem dX7_findTree_116 : decode cX7_findTree 116 = .ok (.iinc 1 (-1), 3) := by decide +kernel
theorem dX7_findTree_119 : decode cX7_findTree 119 = .ok (.goto (-91), 3) := by decide +kernel
theorem dX7_findTree_122 : decode cX7_findTree 122 = .ok (.return_, 1) := by decide +kernel
theorem dX7_resetCounts_0 : decode cX7_resetCounts 0 = .ok (.iconst 0, 1) := by decide +kernel
theorem dX7_resetCounts_1 : decode cX7_resetCounts 1 = .ok (.istore_n 1, 1) := by decide +kernel
theorem dX7_resetCounts_2 : decode cX7_resetCounts 2 = .ok (.iload_n 1, 1) := by decide +kernel
theorem dX7_resetCounts_3 : decode cX7_resetCounts 3 = .ok (.bipush 20, 2) := by decide +kernel
theorem dX7_resetCounts_5 : decode cX7_resetCounts 5 = .ok (.if_icmp .ge 29, 3) := by decide +kernel
theorem dX7_resetCounts_8 : decode cX7_resetCounts 8 = .ok (.aload_n 0, 1) := by decide +kernel
theorem dX7_resetCounts_9 : decode cX7_resetCounts 9 = .ok (.getfield 19, 3) := by decide +kernel
theorem dX7_resetCounts_12 : decode cX7_resetCounts 12 = .ok (.bipush 40, 2) := by decide +kernel
theorem dX7_resetCounts_14 : decode cX7_resetCounts 14 = .ok (.iload_n 1, 1) := by decide +kernel
theorem dX7_resetCounts_15 : decode cX7_resetCounts 15 = .ok (.iadd, 1) := by decide +kernel
theorem dX7_resetCounts_16 : decode cX7_resetCounts 16 = .ok (.iconst 0, 1) := by decide +kernel
theorem dX7_resetCounts_17 : decode cX7_resetCounts 17 = .ok (.iastore, 1) := by decide +kernel
theorem dX7_resetCounts_18 : decode cX7_resetCounts 18 = .ok (.aload_n 0, 1) := by decide +kernel
theorem dX7_resetCounts_19 : decode cX7_resetCounts 19 = .ok (.getfield 19, 3) := by decide +kernel
theorem dX7_resetCounts_22 : decode cX7_resetCounts 22 = .ok (.bipush 60, 2) := by decide +kernel
theorem dX7_resetCounts_24 : decode cX7_resetCounts 24 = .ok (.iload_n 1, 1) := by decide +kernel
theorem dX7_resetCounts_25 : decode cX7_resetCounts 25 = .ok (.iadd, 1) := by decide +kernel
theorem dX7_resetCounts_26 : decode cX7_resetCounts 26 = .ok (.iconst 0, 1) := by decide +kernel
theorem dX7_resetCounts_27 : decode cX7_resetCounts 27 = .ok (.iastore, 1) := by decide +kernel
theorem dX7_resetCounts_28 : decode cX7_resetCounts 28 = .ok (.iinc 1 1, 3) := by decide +kernel
theorem dX7_resetCounts_31 : decode cX7_resetCounts 31 = .ok (.goto (-29), 3) := by decide +kernel
theorem dX7_resetCounts_34 : decode cX7_resetCounts 34 = .ok (.aload_n 0, 1) := by decide +kernel
theorem dX7_resetCounts_35 : decode cX7_resetCounts 35 = .ok (.getfield 19, 3) := by decide +kernel
theorem dX7_resetCounts_38 : decode cX7_resetCounts 38 = .ok (.bipush 81, 2) := by decide +kernel
theorem dX7_resetCounts_40 : decode cX7_resetCounts 40 = .ok (.iconst 0, 1) := by decide +kernel
theorem dX7_resetCounts_41 : decode cX7_resetCounts 41 = .ok (.iastore, 1) := by decide +kernel
theorem dX7_resetCounts_42 : decode cX7_resetCounts 42 = .ok (.aload_n 0, 1) := by decide +kernel
theorem dX7_resetCounts_43 : decode cX7_resetCounts 43 = .ok (.getfield 19, 3) := by decide +kernel
theorem dX7_resetCounts_46 : decode cX7_resetCounts 46 = .ok (.bipush 82, 2) := by decide +kernel
theorem dX7_resetCounts_48 : decode cX7_resetCounts 48 = .ok (.iconst 0, 1) := by decide +kernel
theorem dX7_resetCounts_49 : decode cX7_resetCounts 49 = .ok (.iastore, 1) := by decide +kernel
theorem dX7_resetCounts_50 : decode cX7_resetCounts 50 = .ok (.return_, 1) := by decide +kernel
theorem dX7_save_0 : decode cX7_save 0 = .ok (.aload_n 0, 1) := by decide +kernel
theorem dX7_save_1 : decode cX7_save 1 = .ok (.getfield 99, 3) := by decide +kernel
theorem dX7_save_4 : decode cX7_save 4 = .ok (.iconst 4, 1) := by decide +kernel
theorem dX7_save_5 : decode cX7_save 5 = .ok (.if_icmp .ne 43, 3) := by decide +kernel
theorem dX7_save_8 : decode cX7_save 8 = .ok (.iconst 0, 1) := by decide +kernel
theorem dX7_save_9 : decode cX7_save 9 = .ok (.istore_n 1, 1) := by decide +kernel
theorem dX7_save_10 : decode cX7_save 10 = .ok (.iload_n 1, 1) := by decide +kernel
theorem dX7_save_11 : decode cX7_save 11 = .ok (.sipush 249, 3) := by decide +kernel
theorem dX7_save_14 : decode cX7_save 14 = .ok (.if_icmp .ge 24, 3) := by decide +kernel
theorem dX7_save_17 : decode cX7_save 17 = .ok (.aload_n 0, 1) := by decide +kernel
theorem dX7_save_18 : decode cX7_save 18 = .ok (.getfield 22, 3) := by decide +kernel
theorem dX7_save_21 : decode cX7_save 21 = .ok (.iload_n 1, 1) := by decide +kernel
theorem dX7_save_22 : decode cX7_save 22 = .ok (.aload_n 0, 1) := by decide +kernel
theorem dX7_save_23 : decode cX7_save 23 = .ok (.getfield 22, 3) := by decide +kernel
theorem dX7_save_26 : decode cX7_save 26 = .ok (.iload_n 1, 1) := by decide +kernel
theorem dX7_save_27 : decode cX7_save 27 = .ok (.bipush 83, 2) := by decide +kernel
theorem dX7_save_29 : decode cX7_save 29 = .ok (.iadd, 1) := by decide +kernel
theorem dX7_save_30 : decode cX7_save 30 = .ok (.iaload, 1) := by decide +kernel
theorem dX7_save_31 : decode cX7_save 31 = .ok (.iastore, 1) := by decide +kernel
theorem dX7_save_32 : decode cX7_save 32 = .ok (.iinc 1 1, 3) := by decide +kernel
theorem dX7_save_35 : decode cX7_save 35 = .ok (.goto (-25), 3) := by decide +kernel
theorem dX7_save_38 : decode cX7_save 38 = .ok (.aload_n 0, 1) := by decide +kernel
theorem dX7_save_39 : decode cX7_save 39 = .ok (.dup, 1) := by decide +kernel
theorem dX7_save_40 : decode cX7_save 40 = .ok (.getfield 99, 3) := by decide +kernel
theorem dX7_save_43 : decode cX7_save 43 = .ok (.iconst 1, 1) := by decide +kernel
theorem dX7_save_44 : decode cX7_save 44 = .ok (.isub, 1) := by decide +kernel
theorem dX7_save_45 : decode cX7_save 45 = .ok (.putfield 99, 3) := by decide +kernel
theorem dX7_save_48 : decode cX7_save 48 = .ok (.iconst 0, 1) := by decide +kernel
theorem dX7_save_49 : decode cX7_save 49 = .ok (.istore_n 1, 1) := by decide +kernel
theorem dX7_save_50 : decode cX7_save 50 = .ok (.iload_n 1, 1) := by decide +kernel
theorem dX7_save_51 : decode cX7_save 51 = .ok (.bipush 83, 2) := by decide +kernel
theorem dX7_save_53 : decode cX7_save 53 = .ok (.if_icmp .ge 29, 3) := by decide +kernel
theorem dX7_save_56 : decode cX7_save 56 = .ok (.aload_n 0, 1) := by decide +kernel
theorem dX7_save_57 : decode cX7_save 57 = .ok (.getfield 22, 3) := by decide +kernel
theorem dX7_save_60 : decode cX7_save 60 = .ok (.bipush 83, 2) := by decide +kernel
theorem dX7_save_62 : decode cX7_save 62 = .ok (.aload_n 0, 1) := by decide +kernel
theorem dX7_save_63 : decode cX7_save 63 = .ok (.getfield 99, 3) := by decide +kernel
theorem dX7_save_66 : decode cX7_save 66 = .ok (.imul, 1) := by decide +kernel
theorem dX7_save_67 : decode cX7_save 67 = .ok (.iload_n 1, 1) := by decide +kernel
theorem dX7_save_68 : decode cX7_save 68 = .ok (.iadd, 1) := by decide +kernel
theorem dX7_save_69 : decode cX7_save 69 = .ok (.aload_n 0, 1) := by decide +kernel
theorem dX7_save_70 : decode cX7_save 70 = .ok (.getfield 19, 3) := by decide +kernel
theorem dX7_save_73 : decode cX7_save 73 = .ok (.iload_n 1, 1) := by decide +kernel
theorem dX7_save_74 : decode cX7_save 74 = .ok (.iaload, 1) := by decide +kernel
theorem dX7_save_75 : decode cX7_save 75 = .ok (.iastore, 1) := by decide +kernel
theorem dX7_save_76 : decode cX7_save 76 = .ok (.iinc 1 1, 3) := by decide +kernel
theorem dX7_save_79 : decode cX7_save 79 = .ok (.goto (-29), 3) := by decide +kernel
theorem dX7_save_82 : decode cX7_save 82 = .ok (.aload_n 0, 1) := by decide +kernel
theorem dX7_save_83 : decode cX7_save 83 = .ok (.dup, 1) := by decide +kernel
theorem dX7_save_84 : decode cX7_save 84 = .ok (.getfield 99, 3) := by decide +kernel
theorem dX7_save_87 : decode cX7_save 87 = .ok (.iconst 1, 1) := by decide +kernel
theorem dX7_save_88 : decode cX7_save 88 = .ok (.iadd, 1) := by decide +kernel
theorem dX7_save_89 : decode cX7_save 89 = .ok (.putfield 99, 3) := by decide +kernel
theorem dX7_save_92 : decode cX7_save 92 = .ok (.return_, 1) := by decide +kernel
theorem dX7_undo_0 : decode cX7_undo 0 = .ok (.aload_n 0, 1) := by decide +kernel
theorem dX7_undo_1 : decode cX7_undo 1 = .ok (.getfield 99, 3) := by decide +kernel
theorem dX7_undo_4 : decode cX7_undo 4 = .ok (.ifCond .ne 6, 3) := by decide +kernel
theorem dX7_undo_7 : decode cX7_undo 7 = .ok (.bipush (-102), 2) := by decide +kernel
theorem dX7_undo_9 : decode cX7_undo 9 = .ok (.ireturn, 1) := by decide +kernel
theorem dX7_undo_10 : decode cX7_undo 10 = .ok (.aload_n 0, 1) := by decide +kernel
theorem dX7_undo_11 : decode cX7_undo 11 = .ok (.dup, 1) := by decide +kernel
theorem dX7_undo_12 : decode cX7_undo 12 = .ok (.getfield 99, 3) := by decide +kernel
theorem dX7_undo_15 : decode cX7_undo 15 = .ok (.iconst 1, 1) := by decide +kernel
theorem dX7_undo_16 : decode cX7_undo 16 = .ok (.isub, 1) := by decide +kernel
theorem dX7_undo_17 : decode cX7_undo 17 = .ok (.putfield 99, 3) := by decide +kernel
theorem dX7_undo_20 : decode cX7_undo 20 = .ok (.iconst 0, 1) := by decide +kernel
theorem dX7_undo_21 : decode cX7_undo 21 = .ok (.istore_n 1, 1) := by decide +kernel
theorem dX7_undo_22 : decode cX7_undo 22 = .ok (.iload_n 1, 1) := by decide +kernel
theorem dX7_undo_23 : decode cX7_undo 23 = .ok (.bipush 83, 2) := by decide +kernel
theorem dX7_undo_25 : decode cX7_undo 25 = .ok (.if_icmp .ge 29, 3) := by decide +kernel
theorem dX7_undo_28 : decode cX7_undo 28 = .ok (.aload_n 0, 1) := by decide +kernel
theorem dX7_undo_29 : decode cX7_undo 29 = .ok (.getfield 19, 3) := by decide +kernel
theorem dX7_undo_32 : decode cX7_undo 32 = .ok (.iload_n 1, 1) := by decide +kernel
theorem dX7_undo_33 : decode cX7_undo 33 = .ok (.aload_n 0, 1) := by decide +kernel
theorem dX7_undo_34 : decode cX7_undo 34 = .ok (.getfield 22, 3) := by decide +kernel
theorem dX7_undo_37 : decode cX7_undo 37 = .ok (.bipush 83, 2) := by decide +kernel
theorem dX7_undo_39 : decode cX7_undo 39 = .ok (.aload_n 0, 1) := by decide +kernel
theorem dX7_undo_40 : decode cX7_undo 40 = .ok (.getfield 99, 3) := by decide +kernel
theorem dX7_undo_43 : decode cX7_undo 43 = .ok (.imul, 1) := by decide +kernel
theorem dX7_undo_44 : decode cX7_undo 44 = .ok (.iload_n 1, 1) := by decide +kernel
theorem dX7_undo_45 : decode cX7_undo 45 = .ok (.iadd, 1) := by decide +kernel
theorem dX7_undo_46 : decode cX7_undo 46 = .ok (.iaload, 1) := by decide +kernel
theorem dX7_undo_47 : decode cX7_undo 47 = .ok (.iastore, 1) := by decide +kernel
theorem dX7_undo_48 : decode cX7_undo 48 = .ok (.iinc 1 1, 3) := by decide +kernel
theorem dX7_undo_51 : decode cX7_undo 51 = .ok (.goto (-29), 3) := by decide +kernel
theorem dX7_undo_54 : decode cX7_undo 54 = .ok (.aload_n 0, 1) := by decide +kernel
theorem dX7_undo_55 : decode cX7_undo 55 = .ok (.getfield 99, 3) := by decide +kernel
theorem dX7_undo_58 : decode cX7_undo 58 = .ok (.ireturn, 1) := by decide +kernel
set_option maxRecDepth 20000 in
theorem ggX7_isEdge_X7_in : GoodIn wsX7_isEdge wsX7_in := goodIn_r _ [5] (by decide +kernel) (by decide +kernel)
set_option maxRecDepth 20000 in
theorem gX7_isEdge_X7_in : GoodIn wsX7_isEdge (va_wsS RX7 60 yX7_in wsX7_in) := goodIn_app (goodIn_of _ (by decide +kernel)) ggX7_isEdge_X7_in
theorem dX7_isEdge_0 : decode cX7_isEdge 0 = .ok (.iload_n 1, 1) := by decide +kernel
theorem dX7_isEdge_1 : decode cX7_isEdge 1 = .ok (.iconst 0, 1) := by decide +kernel
theorem dX7_isEdge_2 : decode cX7_isEdge 2 = .ok (.aload_n 0, 1) := by decide +kernel
theorem dX7_isEdge_3 : decode cX7_isEdge 3 = .ok (.getfield 95, 3) := by decide +kernel
theorem dX7_isEdge_6 : decode cX7_isEdge 6 = .ok (.iconst 1, 1) := by decide +kernel
theorem dX7_isEdge_7 : decode cX7_isEdge 7 = .ok (.isub, 1) := by decide +kernel
theorem dX7_isEdge_8 : decode cX7_isEdge 8 = .ok (.invokestatic 60, 3) := by decide +kernel
theorem dX7_isEdge_11 : decode cX7_isEdge 11 = .ok (.ireturn, 1) := by decide +kernel
theorem dX7_isTree_0 : decode cX7_isTree 0 = .ok (.aload_n 0, 1) := by decide +kernel
theorem dX7_isTree_1 : decode cX7_isTree 1 = .ok (.getfield 19, 3) := by decide +kernel
theorem dX7_isTree_4 : decode cX7_isTree 4 = .ok (.bipush 20, 2) := by decide +kernel
theorem dX7_isTree_6 : decode cX7_isTree 6 = .ok (.iload_n 1, 1) := by decide +kernel
theorem dX7_isTree_7 : decode cX7_isTree 7 = .ok (.iadd, 1) := by decide +kernel
theorem dX7_isTree_8 : decode cX7_isTree 8 = .ok (.iaload, 1) := by decide +kernel
theorem dX7_isTree_9 : decode cX7_isTree 9 = .ok (.iconst 1, 1) := by decide +kernel
theorem dX7_isTree_10 : decode cX7_isTree 10 = .ok (.if_icmp .ne 7, 3) := by decide +kernel
theorem dX7_isTree_13 : decode cX7_isTree 13 = .ok (.iconst 1, 1) := by decide +kernel
theorem dX7_isTree_14 : decode cX7_isTree 14 = .ok (.goto 4, 3) := by decide +kernel
theorem dX7_isTree_17 : decode cX7_isTree 17 = .ok (.iconst 0, 1) := by decide +kernel
theorem dX7_isTree_18 : decode cX7_isTree 18 = .ok (.ireturn, 1) := by decide +kernel
set_option maxRecDepth 20000 in
theorem ggX7_setWeight_X7_isEdge : GoodIn wsX7_setWeight wsX7_isEdge := goodIn_r _ [6, 7, 8, 9, 5, 10, 35, 36, 37, 38, 39, 40, 41, 42, 43, 44, 45, 46, 47, 48, 49, 50, 51, 52, 53] (by decide +kernel) (by decide +kernel)
set_option maxRecDepth 20000 in
theorem gX7_setWeight_X7_isEdge : GoodIn wsX7_setWeight (wsV RX7 115 RX7 yX7_isEdge wsX7_isEdge) := goodIn_app (goodIn_of _ (by decide +kernel)) ggX7_setWeight_X7_isEdge
set_option maxRecDepth 20000 in
theorem ggX7_setWeight_X7_in : GoodIn wsX7_setWeight wsX7_in := goodIn_r _ [10] (by decide +kernel) (by decide +kernel)
set_option maxRecDepth 20000 in
theorem gX7_setWeight_X7_in : GoodIn wsX7_setWeight (va_wsS RX7 60 yX7_in wsX7_in) := goodIn_app (goodIn_of _ (by decide +kernel)) ggX7_setWeight_X7_in
set_option maxRecDepth 20000 in
theorem ggX7_setWeight_X7_save : GoodIn wsX7_setWeight wsX7_save := goodIn_r _ [14, 15, 16, 1, 35, 36, 37, 38, 39, 40, 41, 42, 43, 44, 45, 46, 47, 48, 49, 50, 51, 52, 53] (by decide +kernel) (by decide +kernel)
set_option maxRecDepth 20000 in
theorem gX7_setWeight_X7_save : GoodIn wsX7_setWeight (wsV RX7 118 RX7 yX7_save wsX7_save) := goodIn_app (goodIn_of _ (by decide +kernel)) ggX7_setWeight_X7_save
set_option maxRecDepth 20000 in
theorem ggX7_setWeight_X7_findTree : GoodIn wsX7_setWeight wsX7_findTree := goodIn_r _ [20, 1, 7, 21, 22, 23, 24, 25, 5, 26, 27, 28, 29, 30, 35, 36, 37, 38, 39, 40, 41, 42, 43, 44, 45, 46, 47, 48, 49, 50, 51, 52, 53] (by decide +kernel) (by decide +kernel)
set_option maxRecDepth 20000 in
theorem gX7_setWeight_X7_findTree : GoodIn wsX7_setWeight (wsV RX7 102 RX7 yX7_findTree wsX7_findTree) := goodIn_app (goodIn_of _ (by decide +kernel)) ggX7_setWeight_X7_findTree
set_option maxRecDepth 20000 in
theorem ggX7_setWeight_X7_resetCounts : GoodIn wsX7_setWeight wsX7_resetCounts := goodIn_r _ [34, 1, 35, 36, 37, 38, 39, 40, 41, 42, 43, 44, 45, 46, 47, 48, 49, 50, 51, 52, 53] (by decide +kernel) (by decide +kernel)
set_option maxRecDepth 20000 in
theorem gX7_setWeight_X7_resetCounts : GoodIn wsX7_setWeight (wsV RX7 105 RX7 yX7_resetCounts wsX7_resetCounts) := goodIn_app (goodIn_of _ (by decide +kernel)) ggX7_setWeight_X7_resetCounts
theorem dX7_setWeight_0 : decode cX7_setWeight 0 = .ok (.aload_n 0, 1) := by decide +kernel
theorem dX7_setWeight_1 : decode cX7_setWeight 1 = .ok (.iload_n 1, 1) := by decide +kernel
theorem dX7_setWeight_2 : decode cX7_setWeight 2 = .ok (.invokevirtual 115, 3) := by decide +kernel
theorem dX7_setWeight_5 : decode cX7_setWeight 5 = .ok (.ifCond .eq 14, 3) := by decide +kernel
theorem dX7_setWeight_8 : decode cX7_setWeight 8 = .ok (.iload_n 2, 1) := by decide +kernel
theorem dX7_setWeight_9 : decode cX7_setWeight 9 = .ok (.iconst 0, 1) := by decide +kernel
theorem dX7_setWeight_10 : decode cX7_setWeight 10 = .ok (.sipush 999, 3) := by decide +kernel
theorem dX7_setWeight_13 : decode cX7_setWeight 13 = .ok (.invokestatic 60, 3) := by decide +kernel
theorem dX7_setWeight_16 : decode cX7_setWeight 16 = .ok (.ifCond .ne 6, 3) := by decide +kernel
theorem dX7_setWeight_19 : decode cX7_setWeight 19 = .ok (.bipush (-101), 2) := by decide +kernel
end
section
theorem dX7_setWeight_21 : decode cX7_setWeight 21 = .ok (.ireturn, 1) := by decide +kernel
theorem dX7_setWeight_22 : decode cX7_setWeight 22 = .ok (.aload_n 0, 1) := by decide +kernel
theorem dX7_setWeight_23 : decode cX7_setWeight 23 = .ok (.invokevirtual 118, 3) := by decide +kernel
theorem dX7_setWeight_26 : decode cX7_setWeight 26 = .ok (.aload_n 0, 1) := by decide +kernel
theorem dX7_setWeight_27 : decode cX7_setWeight 27 = .ok (.getfield 19, 3) := by decide +kernel
theorem dX7_setWeight_30 : decode cX7_setWeight 30 = .ok (.iconst 0, 1) := by decide +kernel
theorem dX7_setWeight_31 : decode cX7_setWeight 31 = .ok (.iload_n 1, 1) := by decide +kernel
theorem dX7_setWeight_32 : decode cX7_setWeight 32 = .ok (.iadd, 1) := by decide +kernel
theorem dX7_setWeight_33 : decode cX7_setWeight 33 = .ok (.iaload, 1) := by decide +kernel
theorem dX7_setWeight_34 : decode cX7_setWeight 34 = .ok (.istore_n 3, 1) := by decide +kernel
theorem dX7_setWeight_35 : decode cX7_setWeight 35 = .ok (.aload_n 0, 1) := by decide +kernel
theorem dX7_setWeight_36 : decode cX7_setWeight 36 = .ok (.getfield 19, 3) := by decide +kernel
theorem dX7_setWeight_39 : decode cX7_setWeight 39 = .ok (.iconst 0, 1) := by decide +kernel
theorem dX7_setWeight_40 : decode cX7_setWeight 40 = .ok (.iload_n 1, 1) := by decide +kernel
theorem dX7_setWeight_41 : decode cX7_setWeight 41 = .ok (.iadd, 1) := by decide +kernel
theorem dX7_setWeight_42 : decode cX7_setWeight 42 = .ok (.iload_n 2, 1) := by decide +kernel
theorem dX7_setWeight_43 : decode cX7_setWeight 43 = .ok (.iastore, 1) := by decide +kernel
theorem dX7_setWeight_44 : decode cX7_setWeight 44 = .ok (.aload_n 0, 1) := by decide +kernel
theorem dX7_setWeight_45 : decode cX7_setWeight 45 = .ok (.invokevirtual 102, 3) := by decide +kernel
theorem dX7_setWeight_48 : decode cX7_setWeight 48 = .ok (.aload_n 0, 1) := by decide +kernel
theorem dX7_setWeight_49 : decode cX7_setWeight 49 = .ok (.invokevirtual 105, 3) := by decide +kernel
theorem dX7_setWeight_52 : decode cX7_setWeight 52 = .ok (.iload_n 3, 1) := by decide +kernel
theorem dX7_setWeight_53 : decode cX7_setWeight 53 = .ok (.ireturn, 1) := by decide +kernel
set_option maxRecDepth 20000 in
theorem ggX7_setCounterLimit_X7_in : GoodIn wsX7_setCounterLimit wsX7_in := goodIn_r _ [6] (by decide +kernel) (by decide +kernel)
set_option maxRecDepth 20000 in
theorem gX7_setCounterLimit_X7_in : GoodIn wsX7_setCounterLimit (va_wsS RX7 60 yX7_in wsX7_in) := goodIn_app (goodIn_of _ (by decide +kernel)) ggX7_setCounterLimit_X7_in
set_option maxRecDepth 20000 in
theorem ggX7_setCounterLimit_X7_save : GoodIn wsX7_setCounterLimit wsX7_save := goodIn_r _ [10, 11, 12, 2, 17, 18, 19, 20, 21, 22, 23, 24, 25, 26, 27, 28, 29, 30, 31, 32, 33, 34, 35] (by decide +kernel) (by decide +kernel)
set_option maxRecDepth 20000 in
theorem gX7_setCounterLimit_X7_save : GoodIn wsX7_setCounterLimit (wsV RX7 118 RX7 yX7_save wsX7_save) := goodIn_app (goodIn_of _ (by decide +kernel)) ggX7_setCounterLimit_X7_save
set_option maxRecDepth 20000 in
theorem ggX7_setCounterLimit_X7_resetCounts : GoodIn wsX7_setCounterLimit wsX7_resetCounts := goodIn_r _ [16, 2, 17, 18, 19, 20, 21, 22, 23, 24, 25, 26, 27, 28, 29, 30, 31, 32, 33, 34, 35] (by decide +kernel) (by decide +kernel)
set_option maxRecDepth 20000 in
theorem gX7_setCounterLimit_X7_resetCounts : GoodIn wsX7_setCounterLimit (wsV RX7 105 RX7 yX7_resetCounts wsX7_resetCounts) := goodIn_app (goodIn_of _ (by decide +kernel)) ggX7_setCounterLimit_X7_resetCounts
theorem dX7_setCounterLimit_0 : decode cX7_setCounterLimit 0 = .ok (.iload_n 1, 1) := by decide +kernel
theorem dX7_setCounterLimit_1 : decode cX7_setCounterLimit 1 = .ok (.iconst 1, 1) := by decide +kernel
theorem dX7_setCounterLimit_2 : decode cX7_setCounterLimit 2 = .ok (.ldc 98, 2) := by decide +kernel
theorem dX7_setCounterLimit_4 : decode cX7_setCounterLimit 4 = .ok (.invokestatic 60, 3) := by decide +kernel
theorem dX7_setCounterLimit_7 : decode cX7_setCounterLimit 7 = .ok (.ifCond .ne 6, 3) := by decide +kernel
theorem dX7_setCounterLimit_10 : decode cX7_setCounterLimit 10 = .ok (.bipush (-101), 2) := by decide +kernel
theorem dX7_setCounterLimit_12 : decode cX7_setCounterLimit 12 = .ok (.ireturn, 1) := by decide +kernel
theorem dX7_setCounterLimit_13 : decode cX7_setCounterLimit 13 = .ok (.aload_n 0, 1) := by decide +kernel
theorem dX7_setCounterLimit_14 : decode cX7_setCounterLimit 14 = .ok (.invokevirtual 118, 3) := by decide +kernel
theorem dX7_setCounterLimit_17 : decode cX7_setCounterLimit 17 = .ok (.aload_n 0, 1) := by decide +kernel
theorem dX7_setCounterLimit_18 : decode cX7_setCounterLimit 18 = .ok (.getfield 19, 3) := by decide +kernel
theorem dX7_setCounterLimit_21 : decode cX7_setCounterLimit 21 = .ok (.bipush 80, 2) := by decide +kernel
theorem dX7_setCounterLimit_23 : decode cX7_setCounterLimit 23 = .ok (.iaload, 1) := by decide +kernel
theorem dX7_setCounterLimit_24 : decode cX7_setCounterLimit 24 = .ok (.istore_n 2, 1) := by decide +kernel
theorem dX7_setCounterLimit_25 : decode cX7_setCounterLimit 25 = .ok (.aload_n 0, 1) := by decide +kernel
theorem dX7_setCounterLimit_26 : decode cX7_setCounterLimit 26 = .ok (.getfield 19, 3) := by decide +kernel
theorem dX7_setCounterLimit_29 : decode cX7_setCounterLimit 29 = .ok (.bipush 80, 2) := by decide +kernel
theorem dX7_setCounterLimit_31 : decode cX7_setCounterLimit 31 = .ok (.iload_n 1, 1) := by decide +kernel
theorem dX7_setCounterLimit_32 : decode cX7_setCounterLimit 32 = .ok (.iastore, 1) := by decide +kernel
theorem dX7_setCounterLimit_33 : decode cX7_setCounterLimit 33 = .ok (.aload_n 0, 1) := by decide +kernel
theorem dX7_setCounterLimit_34 : decode cX7_setCounterLimit 34 = .ok (.invokevirtual 105, 3) := by decide +kernel
theorem dX7_setCounterLimit_37 : decode cX7_setCounterLimit 37 = .ok (.iload_n 2, 1) := by decide +kernel
theorem dX7_setCounterLimit_38 : decode cX7_setCounterLimit 38 = .ok (.ireturn, 1) := by decide +kernel
set_option maxRecDepth 20000 in
theorem ggX7_pass_X7_isTree : GoodIn wsX7_pass wsX7_isTree := goodIn_r _ [8, 1, 9, 10, 11, 12, 13, 14, 15, 16, 17, 18, 19, 20, 21, 22, 23, 24, 25, 26, 27] (by decide +kernel) (by decide +kernel)
set_option maxRecDepth 20000 in
theorem gX7_pass_X7_isTree : GoodIn wsX7_pass (wsV RX7 121 RX7 yX7_isTree wsX7_isTree) := goodIn_app (goodIn_of _ (by decide +kernel)) ggX7_pass_X7_isTree
theorem dX7_pass_0 : decode cX7_pass 0 = .ok (.aload_n 0, 1) := by decide +kernel
theorem dX7_pass_1 : decode cX7_pass 1 = .ok (.getfield 19, 3) := by decide +kernel
theorem dX7_pass_4 : decode cX7_pass 4 = .ok (.bipush 60, 2) := by decide +kernel
theorem dX7_pass_6 : decode cX7_pass 6 = .ok (.iload_n 1, 1) := by decide +kernel
theorem dX7_pass_7 : decode cX7_pass 7 = .ok (.iadd, 1) := by decide +kernel
theorem dX7_pass_8 : decode cX7_pass 8 = .ok (.dup2, 1) := by decide +kernel
theorem dX7_pass_9 : decode cX7_pass 9 = .ok (.iaload, 1) := by decide +kernel
theorem dX7_pass_10 : decode cX7_pass 10 = .ok (.iconst 1, 1) := by decide +kernel
theorem dX7_pass_11 : decode cX7_pass 11 = .ok (.iadd, 1) := by decide +kernel
theorem dX7_pass_12 : decode cX7_pass 12 = .ok (.iastore, 1) := by decide +kernel
theorem dX7_pass_13 : decode cX7_pass 13 = .ok (.aload_n 0, 1) := by decide +kernel
theorem dX7_pass_14 : decode cX7_pass 14 = .ok (.iload_n 1, 1) := by decide +kernel
theorem dX7_pass_15 : decode cX7_pass 15 = .ok (.invokevirtual 121, 3) := by decide +kernel
theorem dX7_pass_18 : decode cX7_pass 18 = .ok (.ifCond .ne 35, 3) := by decide +kernel
theorem dX7_pass_21 : decode cX7_pass 21 = .ok (.aload_n 0, 1) := by decide +kernel
theorem dX7_pass_22 : decode cX7_pass 22 = .ok (.getfield 19, 3) := by decide +kernel
theorem dX7_pass_25 : decode cX7_pass 25 = .ok (.bipush 40, 2) := by decide +kernel
theorem dX7_pass_27 : decode cX7_pass 27 = .ok (.iload_n 1, 1) := by decide +kernel
theorem dX7_pass_28 : decode cX7_pass 28 = .ok (.iadd, 1) := by decide +kernel
theorem dX7_pass_29 : decode cX7_pass 29 = .ok (.iaload, 1) := by decide +kernel
theorem dX7_pass_30 : decode cX7_pass 30 = .ok (.aload_n 0, 1) := by decide +kernel
theorem dX7_pass_31 : decode cX7_pass 31 = .ok (.getfield 19, 3) := by decide +kernel
theorem dX7_pass_34 : decode cX7_pass 34 = .ok (.bipush 80, 2) := by decide +kernel
theorem dX7_pass_36 : decode cX7_pass 36 = .ok (.iaload, 1) := by decide +kernel
theorem dX7_pass_37 : decode cX7_pass 37 = .ok (.if_icmp .ge 16, 3) := by decide +kernel
theorem dX7_pass_40 : decode cX7_pass 40 = .ok (.aload_n 0, 1) := by decide +kernel
theorem dX7_pass_41 : decode cX7_pass 41 = .ok (.getfield 19, 3) := by decide +kernel
theorem dX7_pass_44 : decode cX7_pass 44 = .ok (.bipush 40, 2) := by decide +kernel
theorem dX7_pass_46 : decode cX7_pass 46 = .ok (.iload_n 1, 1) := by decide +kernel
theorem dX7_pass_47 : decode cX7_pass 47 = .ok (.iadd, 1) := by decide +kernel
theorem dX7_pass_48 : decode cX7_pass 48 = .ok (.dup2, 1) := by decide +kernel
theorem dX7_pass_49 : decode cX7_pass 49 = .ok (.iaload, 1) := by decide +kernel
theorem dX7_pass_50 : decode cX7_pass 50 = .ok (.iconst 1, 1) := by decide +kernel
theorem dX7_pass_51 : decode cX7_pass 51 = .ok (.iadd, 1) := by decide +kernel
theorem dX7_pass_52 : decode cX7_pass 52 = .ok (.iastore, 1) := by decide +kernel
theorem dX7_pass_53 : decode cX7_pass 53 = .ok (.aload_n 0, 1) := by decide +kernel
theorem dX7_pass_54 : decode cX7_pass 54 = .ok (.getfield 16, 3) := by decide +kernel
theorem dX7_pass_57 : decode cX7_pass 57 = .ok (.iload_n 1, 1) := by decide +kernel
theorem dX7_pass_58 : decode cX7_pass 58 = .ok (.iaload, 1) := by decide +kernel
theorem dX7_pass_59 : decode cX7_pass 59 = .ok (.aload_n 0, 1) := by decide +kernel
theorem dX7_pass_60 : decode cX7_pass 60 = .ok (.getfield 92, 3) := by decide +kernel
theorem dX7_pass_63 : decode cX7_pass 63 = .ok (.iconst 1, 1) := by decide +kernel
theorem dX7_pass_64 : decode cX7_pass 64 = .ok (.isub, 1) := by decide +kernel
theorem dX7_pass_65 : decode cX7_pass 65 = .ok (.if_icmp .ne 7, 3) := by decide +kernel
theorem dX7_pass_68 : decode cX7_pass 68 = .ok (.iconst 1, 1) := by decide +kernel
theorem dX7_pass_69 : decode cX7_pass 69 = .ok (.goto 4, 3) := by decide +kernel
theorem dX7_pass_72 : decode cX7_pass 72 = .ok (.iconst 0, 1) := by decide +kernel
theorem dX7_pass_73 : decode cX7_pass 73 = .ok (.istore_n 2, 1) := by decide +kernel
theorem dX7_pass_74 : decode cX7_pass 74 = .ok (.aload_n 0, 1) := by decide +kernel
theorem dX7_pass_75 : decode cX7_pass 75 = .ok (.getfield 19, 3) := by decide +kernel
theorem dX7_pass_78 : decode cX7_pass 78 = .ok (.bipush 81, 2) := by decide +kernel
theorem dX7_pass_80 : decode cX7_pass 80 = .ok (.dup2, 1) := by decide +kernel
theorem dX7_pass_81 : decode cX7_pass 81 = .ok (.iaload, 1) := by decide +kernel
theorem dX7_pass_82 : decode cX7_pass 82 = .ok (.iload_n 2, 1) := by decide +kernel
theorem dX7_pass_83 : decode cX7_pass 83 = .ok (.ifCond .eq 7, 3) := by decide +kernel
theorem dX7_pass_86 : decode cX7_pass 86 = .ok (.iconst 1, 1) := by decide +kernel
theorem dX7_pass_87 : decode cX7_pass 87 = .ok (.goto 4, 3) := by decide +kernel
theorem dX7_pass_90 : decode cX7_pass 90 = .ok (.iconst 0, 1) := by decide +kernel
theorem dX7_pass_91 : decode cX7_pass 91 = .ok (.iadd, 1) := by decide +kernel
theorem dX7_pass_92 : decode cX7_pass 92 = .ok (.iastore, 1) := by decide +kernel
theorem dX7_pass_93 : decode cX7_pass 93 = .ok (.aload_n 0, 1) := by decide +kernel
theorem dX7_pass_94 : decode cX7_pass 94 = .ok (.getfield 19, 3) := by decide +kernel
theorem dX7_pass_97 : decode cX7_pass 97 = .ok (.bipush 82, 2) := by decide +kernel
theorem dX7_pass_99 : decode cX7_pass 99 = .ok (.iload_n 2, 1) := by decide +kernel
theorem dX7_pass_100 : decode cX7_pass 100 = .ok (.ifCond .eq 7, 3) := by decide +kernel
theorem dX7_pass_103 : decode cX7_pass 103 = .ok (.iconst 0, 1) := by decide +kernel
theorem dX7_pass_104 : decode cX7_pass 104 = .ok (.goto 9, 3) := by decide +kernel
theorem dX7_pass_107 : decode cX7_pass 107 = .ok (.aload_n 0, 1) := by decide +kernel
theorem dX7_pass_108 : decode cX7_pass 108 = .ok (.getfield 16, 3) := by decide +kernel
theorem dX7_pass_111 : decode cX7_pass 111 = .ok (.iload_n 1, 1) := by decide +kernel
theorem dX7_pass_112 : decode cX7_pass 112 = .ok (.iaload, 1) := by decide +kernel
theorem dX7_pass_113 : decode cX7_pass 113 = .ok (.iastore, 1) := by decide +kernel
theorem dX7_pass_114 : decode cX7_pass 114 = .ok (.return_, 1) := by decide +kernel
set_option maxRecDepth 20000 in
theorem ggX7_follow_X7_isEdge : GoodIn wsX7_follow wsX7_isEdge := goodIn_r _ [7, 8, 9, 10, 6, 11, 28, 29, 30, 31, 32, 33, 34, 35, 36, 37, 38, 39, 40, 41, 42, 43, 44, 45, 46] (by decide +kernel) (by decide +kernel)
set_option maxRecDepth 20000 in
theorem gX7_follow_X7_isEdge : GoodIn wsX7_follow (wsV RX7 115 RX7 yX7_isEdge wsX7_isEdge) := goodIn_app (goodIn_of _ (by decide +kernel)) ggX7_follow_X7_isEdge
set_option maxRecDepth 20000 in
theorem ggX7_follow_X7_save : GoodIn wsX7_follow wsX7_save := goodIn_r _ [15, 16, 17, 2, 28, 29, 30, 31, 32, 33, 34, 35, 36, 37, 38, 39, 40, 41, 42, 43, 44, 45, 46] (by decide +kernel) (by decide +kernel)
set_option maxRecDepth 20000 in
theorem gX7_follow_X7_save : GoodIn wsX7_follow (wsV RX7 118 RX7 yX7_save wsX7_save) := goodIn_app (goodIn_of _ (by decide +kernel)) ggX7_follow_X7_save
set_option maxRecDepth 20000 in
theorem ggX7_follow_X7_pass : GoodIn wsX7_follow wsX7_pass := goodIn_r _ [21, 2, 22, 23, 24, 25, 26, 6, 27, 28, 29, 30, 31, 32, 33, 34, 35, 36, 37, 38, 39, 40, 41, 42, 43, 44, 45, 46] (by decide +kernel) (by decide +kernel)
set_option maxRecDepth 20000 in
theorem gX7_follow_X7_pass : GoodIn wsX7_follow (wsV RX7 124 RX7 yX7_pass wsX7_pass) := goodIn_app (goodIn_of _ (by decide +kernel)) ggX7_follow_X7_pass
theorem dX7_follow_0 : decode cX7_follow 0 = .ok (.aload_n 0, 1) := by decide +kernel
theorem dX7_follow_1 : decode cX7_follow 1 = .ok (.iload_n 1, 1) := by decide +kernel
theorem dX7_follow_2 : decode cX7_follow 2 = .ok (.invokevirtual 115, 3) := by decide +kernel
theorem dX7_follow_5 : decode cX7_follow 5 = .ok (.ifCond .ne 6, 3) := by decide +kernel
theorem dX7_follow_8 : decode cX7_follow 8 = .ok (.bipush (-101), 2) := by decide +kernel
theorem dX7_follow_10 : decode cX7_follow 10 = .ok (.ireturn, 1) := by decide +kernel
theorem dX7_follow_11 : decode cX7_follow 11 = .ok (.aload_n 0, 1) := by decide +kernel
theorem dX7_follow_12 : decode cX7_follow 12 = .ok (.getfield 13, 3) := by decide +kernel
theorem dX7_follow_15 : decode cX7_follow 15 = .ok (.iload_n 1, 1) := by decide +kernel
theorem dX7_follow_16 : decode cX7_follow 16 = .ok (.iaload, 1) := by decide +kernel
theorem dX7_follow_17 : decode cX7_follow 17 = .ok (.aload_n 0, 1) := by decide +kernel
theorem dX7_follow_18 : decode cX7_follow 18 = .ok (.getfield 19, 3) := by decide +kernel
theorem dX7_follow_21 : decode cX7_follow 21 = .ok (.bipush 82, 2) := by decide +kernel
theorem dX7_follow_23 : decode cX7_follow 23 = .ok (.iaload, 1) := by decide +kernel
theorem dX7_follow_24 : decode cX7_follow 24 = .ok (.if_icmp .eq 6, 3) := by decide +kernel
theorem dX7_follow_27 : decode cX7_follow 27 = .ok (.bipush (-102), 2) := by decide +kernel
theorem dX7_follow_29 : decode cX7_follow 29 = .ok (.ireturn, 1) := by decide +kernel
theorem dX7_follow_30 : decode cX7_follow 30 = .ok (.aload_n 0, 1) := by decide +kernel
theorem dX7_follow_31 : decode cX7_follow 31 = .ok (.invokevirtual 118, 3) := by decide +kernel
theorem dX7_follow_34 : decode cX7_follow 34 = .ok (.aload_n 0, 1) := by decide +kernel
theorem dX7_follow_35 : decode cX7_follow 35 = .ok (.iload_n 1, 1) := by decide +kernel
theorem dX7_follow_36 : decode cX7_follow 36 = .ok (.invokevirtual 124, 3) := by decide +kernel
theorem dX7_follow_39 : decode cX7_follow 39 = .ok (.aload_n 0, 1) := by decide +kernel
theorem dX7_follow_40 : decode cX7_follow 40 = .ok (.getfield 19, 3) := by decide +kernel
theorem dX7_follow_43 : decode cX7_follow 43 = .ok (.bipush 82, 2) := by decide +kernel
theorem dX7_follow_45 : decode cX7_follow 45 = .ok (.iaload, 1) := by decide +kernel
theorem dX7_follow_46 : decode cX7_follow 46 = .ok (.ireturn, 1) := by decide +kernel
theorem dX7_leavingEdge_0 : decode cX7_leavingEdge 0 = .ok (.iload_n 1, 1) := by decide +kernel
theorem dX7_leavingEdge_1 : decode cX7_leavingEdge 1 = .ok (.istore_n 2, 1) := by decide +kernel
theorem dX7_leavingEdge_2 : decode cX7_leavingEdge 2 = .ok (.iconst 0, 1) := by decide +kernel
theorem dX7_leavingEdge_3 : decode cX7_leavingEdge 3 = .ok (.istore_n 3, 1) := by decide +kernel
theorem dX7_leavingEdge_4 : decode cX7_leavingEdge 4 = .ok (.iload_n 3, 1) := by decide +kernel
theorem dX7_leavingEdge_5 : decode cX7_leavingEdge 5 = .ok (.aload_n 0, 1) := by decide +kernel
theorem dX7_leavingEdge_6 : decode cX7_leavingEdge 6 = .ok (.getfield 95, 3) := by decide +kernel
theorem dX7_leavingEdge_9 : decode cX7_leavingEdge 9 = .ok (.if_icmp .ge 34, 3) := by decide +kernel
theorem dX7_leavingEdge_12 : decode cX7_leavingEdge 12 = .ok (.aload_n 0, 1) := by decide +kernel
theorem dX7_leavingEdge_13 : decode cX7_leavingEdge 13 = .ok (.getfield 13, 3) := by decide +kernel
theorem dX7_leavingEdge_16 : decode cX7_leavingEdge 16 = .ok (.iload_n 3, 1) := by decide +kernel
theorem dX7_leavingEdge_17 : decode cX7_leavingEdge 17 = .ok (.iaload, 1) := by decide +kernel
theorem dX7_leavingEdge_18 : decode cX7_leavingEdge 18 = .ok (.aload_n 0, 1) := by decide +kernel
theorem dX7_leavingEdge_19 : decode cX7_leavingEdge 19 = .ok (.getfield 19, 3) := by decide +kernel
theorem dX7_leavingEdge_22 : decode cX7_leavingEdge 22 = .ok (.bipush 82, 2) := by decide +kernel
theorem dX7_leavingEdge_24 : decode cX7_leavingEdge 24 = .ok (.iaload, 1) := by decide +kernel
theorem dX7_leavingEdge_25 : decode cX7_leavingEdge 25 = .ok (.if_icmp .ne 12, 3) := by decide +kernel
theorem dX7_leavingEdge_28 : decode cX7_leavingEdge 28 = .ok (.iload_n 2, 1) := by decide +kernel
theorem dX7_leavingEdge_29 : decode cX7_leavingEdge 29 = .ok (.ifCond .ne 5, 3) := by decide +kernel
theorem dX7_leavingEdge_32 : decode cX7_leavingEdge 32 = .ok (.iload_n 3, 1) := by decide +kernel
theorem dX7_leavingEdge_33 : decode cX7_leavingEdge 33 = .ok (.ireturn, 1) := by decide +kernel
theorem dX7_leavingEdge_34 : decode cX7_leavingEdge 34 = .ok (.iinc 2 (-1), 3) := by decide +kernel
theorem dX7_leavingEdge_37 : decode cX7_leavingEdge 37 = .ok (.iinc 3 1, 3) := by decide +kernel
theorem dX7_leavingEdge_40 : decode cX7_leavingEdge 40 = .ok (.goto (-36), 3) := by decide +kernel
theorem dX7_leavingEdge_43 : decode cX7_leavingEdge 43 = .ok (.bipush (-104), 2) := by decide +kernel
theorem dX7_leavingEdge_45 : decode cX7_leavingEdge 45 = .ok (.ireturn, 1) := by decide +kernel
theorem dX7_leavingCount_0 : decode cX7_leavingCount 0 = .ok (.iconst 0, 1) := by decide +kernel
theorem dX7_leavingCount_1 : decode cX7_leavingCount 1 = .ok (.istore_n 1, 1) := by decide +kernel
theorem dX7_leavingCount_2 : decode cX7_leavingCount 2 = .ok (.iconst 0, 1) := by decide +kernel
theorem dX7_leavingCount_3 : decode cX7_leavingCount 3 = .ok (.istore_n 2, 1) := by decide +kernel
theorem dX7_leavingCount_4 : decode cX7_leavingCount 4 = .ok (.iload_n 2, 1) := by decide +kernel
theorem dX7_leavingCount_5 : decode cX7_leavingCount 5 = .ok (.aload_n 0, 1) := by decide +kernel
theorem dX7_leavingCount_6 : decode cX7_leavingCount 6 = .ok (.getfield 95, 3) := by decide +kernel
theorem dX7_leavingCount_9 : decode cX7_leavingCount 9 = .ok (.if_icmp .ge 33, 3) := by decide +kernel
theorem dX7_leavingCount_12 : decode cX7_leavingCount 12 = .ok (.iload_n 1, 1) := by decide +kernel
theorem dX7_leavingCount_13 : decode cX7_leavingCount 13 = .ok (.aload_n 0, 1) := by decide +kernel
theorem dX7_leavingCount_14 : decode cX7_leavingCount 14 = .ok (.getfield 13, 3) := by decide +kernel
theorem dX7_leavingCount_17 : decode cX7_leavingCount 17 = .ok (.iload_n 2, 1) := by decide +kernel
theorem dX7_leavingCount_18 : decode cX7_leavingCount 18 = .ok (.iaload, 1) := by decide +kernel
theorem dX7_leavingCount_19 : decode cX7_leavingCount 19 = .ok (.aload_n 0, 1) := by decide +kernel
theorem dX7_leavingCount_20 : decode cX7_leavingCount 20 = .ok (.getfield 19, 3) := by decide +kernel
theorem dX7_leavingCount_23 : decode cX7_leavingCount 23 = .ok (.bipush 82, 2) := by decide +kernel
theorem dX7_leavingCount_25 : decode cX7_leavingCount 25 = .ok (.iaload, 1) := by decide +kernel
theorem dX7_leavingCount_26 : decode cX7_leavingCount 26 = .ok (.if_icmp .ne 7, 3) := by decide +kernel
theorem dX7_leavingCount_29 : decode cX7_leavingCount 29 = .ok (.iconst 1, 1) := by decide +kernel
theorem dX7_leavingCount_30 : decode cX7_leavingCount 30 = .ok (.goto 4, 3) := by decide +kernel
theorem dX7_leavingCount_33 : decode cX7_leavingCount 33 = .ok (.iconst 0, 1) := by decide +kernel
theorem dX7_leavingCount_34 : decode cX7_leavingCount 34 = .ok (.iadd, 1) := by decide +kernel
theorem dX7_leavingCount_35 : decode cX7_leavingCount 35 = .ok (.istore_n 1, 1) := by decide +kernel
theorem dX7_leavingCount_36 : decode cX7_leavingCount 36 = .ok (.iinc 2 1, 3) := by decide +kernel
theorem dX7_leavingCount_39 : decode cX7_leavingCount 39 = .ok (.goto (-35), 3) := by decide +kernel
theorem dX7_leavingCount_42 : decode cX7_leavingCount 42 = .ok (.iload_n 1, 1) := by decide +kernel
theorem dX7_leavingCount_43 : decode cX7_leavingCount 43 = .ok (.ireturn, 1) := by decide +kernel
set_option maxRecDepth 20000 in
theorem ggX7_drive_X7_in : GoodIn wsX7_drive wsX7_in := goodIn_r _ [8] (by decide +kernel) (by decide +kernel)
set_option maxRecDepth 20000 in
theorem gX7_drive_X7_in : GoodIn wsX7_drive (va_wsS RX7 60 yX7_in wsX7_in) := goodIn_app (goodIn_of _ (by decide +kernel)) ggX7_drive_X7_in
set_option maxRecDepth 20000 in
theorem ggX7_drive_X7_save : GoodIn wsX7_drive wsX7_save := goodIn_r _ [12, 13, 14, 1, 35, 36, 37, 38, 39, 40, 41, 42, 43, 44, 45, 46, 47, 48, 49, 50, 51, 52, 53] (by decide +kernel) (by decide +kernel)
set_option maxRecDepth 20000 in
theorem gX7_drive_X7_save : GoodIn wsX7_drive (wsV RX7 118 RX7 yX7_save wsX7_save) := goodIn_app (goodIn_of _ (by decide +kernel)) ggX7_drive_X7_save
set_option maxRecDepth 20000 in
theorem ggX7_drive_X7_leavingCount : GoodIn wsX7_drive wsX7_leavingCount := goodIn_r _ [18, 19, 20, 1, 35, 36, 37, 38, 39, 40, 41, 42, 43, 44, 45, 46, 47, 48, 49, 50, 51, 52, 53] (by decide +kernel) (by decide +kernel)
set_option maxRecDepth 20000 in
theorem gX7_drive_X7_leavingCount : GoodIn wsX7_drive (wsV RX7 134 RX7 yX7_leavingCount wsX7_leavingCount) := goodIn_app (goodIn_of _ (by decide +kernel)) ggX7_drive_X7_leavingCount
set_option maxRecDepth 20000 in
theorem ggX7_drive_X7_leavingEdge : GoodIn wsX7_drive wsX7_leavingEdge := goodIn_r _ [24, 19, 20, 1, 35, 36, 37, 38, 39, 40, 41, 42, 43, 44, 45, 46, 47, 48, 49, 50, 51, 52, 53] (by decide +kernel) (by decide +kernel)
set_option maxRecDepth 20000 in
theorem gX7_drive_X7_leavingEdge : GoodIn wsX7_drive (wsV RX7 137 RX7 yX7_leavingEdge wsX7_leavingEdge) := goodIn_app (goodIn_of _ (by decide +kernel)) ggX7_drive_X7_leavingEdge
set_option maxRecDepth 20000 in
theorem ggX7_drive_X7_pass : GoodIn wsX7_drive wsX7_pass := goodIn_r _ [28, 1, 29, 30, 31, 32, 33, 7, 34, 35, 36, 37, 38, 39, 40, 41, 42, 43, 44, 45, 46, 47, 48, 49, 50, 51, 52, 53] (by decide +kernel) (by decide +kernel)
set_option maxRecDepth 20000 in
theorem gX7_drive_X7_pass : GoodIn wsX7_drive (wsV RX7 124 RX7 yX7_pass wsX7_pass) := goodIn_app (goodIn_of _ (by decide +kernel)) ggX7_drive_X7_pass
theorem dX7_drive_0 : decode cX7_drive 0 = .ok (.iload_n 1, 1) := by decide +kernel
theorem dX7_drive_1 : decode cX7_drive 1 = .ok (.iconst 0, 1) := by decide +kernel
theorem dX7_drive_2 : decode cX7_drive 2 = .ok (.sipush 9999, 3) := by decide +kernel
theorem dX7_drive_5 : decode cX7_drive 5 = .ok (.invokestatic 60, 3) := by decide +kernel
theorem dX7_drive_8 : decode cX7_drive 8 = .ok (.ifCond .eq 14, 3) := by decide +kernel
theorem dX7_drive_11 : decode cX7_drive 11 = .ok (.iload_n 2, 1) := by decide +kernel
theorem dX7_drive_12 : decode cX7_drive 12 = .ok (.iconst 1, 1) := by decide +kernel
theorem dX7_drive_13 : decode cX7_drive 13 = .ok (.sipush 500, 3) := by decide +kernel
theorem dX7_drive_16 : decode cX7_drive 16 = .ok (.invokestatic 60, 3) := by decide +kernel
theorem dX7_drive_19 : decode cX7_drive 19 = .ok (.ifCond .ne 6, 3) := by decide +kernel
theorem dX7_drive_22 : decode cX7_drive 22 = .ok (.bipush (-101), 2) := by decide +kernel
theorem dX7_drive_24 : decode cX7_drive 24 = .ok (.ireturn, 1) := by decide +kernel
theorem dX7_drive_25 : decode cX7_drive 25 = .ok (.aload_n 0, 1) := by decide +kernel
theorem dX7_drive_26 : decode cX7_drive 26 = .ok (.invokevirtual 118, 3) := by decide +kernel
theorem dX7_drive_29 : decode cX7_drive 29 = .ok (.aload_n 0, 1) := by decide +kernel
theorem dX7_drive_30 : decode cX7_drive 30 = .ok (.getfield 19, 3) := by decide +kernel
theorem dX7_drive_33 : decode cX7_drive 33 = .ok (.bipush 81, 2) := by decide +kernel
theorem dX7_drive_35 : decode cX7_drive 35 = .ok (.iaload, 1) := by decide +kernel
theorem dX7_drive_36 : decode cX7_drive 36 = .ok (.istore_n 3, 1) := by decide +kernel
theorem dX7_drive_37 : decode cX7_drive 37 = .ok (.iconst 0, 1) := by decide +kernel
theorem dX7_drive_38 : decode cX7_drive 38 = .ok (.istore 4, 2) := by decide +kernel
theorem dX7_drive_40 : decode cX7_drive 40 = .ok (.iload 4, 2) := by decide +kernel
theorem dX7_drive_42 : decode cX7_drive 42 = .ok (.iload_n 2, 1) := by decide +kernel
theorem dX7_drive_43 : decode cX7_drive 43 = .ok (.if_icmp .ge 55, 3) := by decide +kernel
theorem dX7_drive_46 : decode cX7_drive 46 = .ok (.ldc2_w 128, 3) := by decide +kernel
theorem dX7_drive_49 : decode cX7_drive 49 = .ok (.iload_n 1, 1) := by decide +kernel
theorem dX7_drive_50 : decode cX7_drive 50 = .ok (.i2l, 1) := by decide +kernel
theorem dX7_drive_51 : decode cX7_drive 51 = .ok (.lmul, 1) := by decide +kernel
theorem dX7_drive_52 : decode cX7_drive 52 = .ok (.ldc2_w 130, 3) := by decide +kernel
theorem dX7_drive_55 : decode cX7_drive 55 = .ok (.iload 4, 2) := by decide +kernel
theorem dX7_drive_57 : decode cX7_drive 57 = .ok (.i2l, 1) := by decide +kernel
theorem dX7_drive_58 : decode cX7_drive 58 = .ok (.lmul, 1) := by decide +kernel
theorem dX7_drive_59 : decode cX7_drive 59 = .ok (.ladd, 1) := by decide +kernel
theorem dX7_drive_60 : decode cX7_drive 60 = .ok (.lconst 1, 1) := by decide +kernel
theorem dX7_drive_61 : decode cX7_drive 61 = .ok (.ladd, 1) := by decide +kernel
theorem dX7_drive_62 : decode cX7_drive 62 = .ok (.lstore 5, 2) := by decide +kernel
theorem dX7_drive_64 : decode cX7_drive 64 = .ok (.lload 5, 2) := by decide +kernel
theorem dX7_drive_66 : decode cX7_drive 66 = .ok (.lload 5, 2) := by decide +kernel
theorem dX7_drive_68 : decode cX7_drive 68 = .ok (.lmul, 1) := by decide +kernel
theorem dX7_drive_69 : decode cX7_drive 69 = .ok (.ldc2_w 132, 3) := by decide +kernel
theorem dX7_drive_72 : decode cX7_drive 72 = .ok (.lrem, 1) := by decide +kernel
theorem dX7_drive_73 : decode cX7_drive 73 = .ok (.lstore 7, 2) := by decide +kernel
theorem dX7_drive_75 : decode cX7_drive 75 = .ok (.aload_n 0, 1) := by decide +kernel
theorem dX7_drive_76 : decode cX7_drive 76 = .ok (.aload_n 0, 1) := by decide +kernel
theorem dX7_drive_77 : decode cX7_drive 77 = .ok (.lload 7, 2) := by decide +kernel
theorem dX7_drive_79 : decode cX7_drive 79 = .ok (.aload_n 0, 1) := by decide +kernel
theorem dX7_drive_80 : decode cX7_drive 80 = .ok (.invokevirtual 134, 3) := by decide +kernel
theorem dX7_drive_83 : decode cX7_drive 83 = .ok (.i2l, 1) := by decide +kernel
theorem dX7_drive_84 : decode cX7_drive 84 = .ok (.lrem, 1) := by decide +kernel
theorem dX7_drive_85 : decode cX7_drive 85 = .ok (.l2i, 1) := by decide +kernel
theorem dX7_drive_86 : decode cX7_drive 86 = .ok (.invokevirtual 137, 3) := by decide +kernel
theorem dX7_drive_89 : decode cX7_drive 89 = .ok (.invokevirtual 124, 3) := by decide +kernel
theorem dX7_drive_92 : decode cX7_drive 92 = .ok (.iinc 4 1, 3) := by decide +kernel
theorem dX7_drive_95 : decode cX7_drive 95 = .ok (.goto (-55), 3) := by decide +kernel
theorem dX7_drive_98 : decode cX7_drive 98 = .ok (.aload_n 0, 1) := by decide +kernel
theorem dX7_drive_99 : decode cX7_drive 99 = .ok (.getfield 19, 3) := by decide +kernel
theorem dX7_drive_102 : decode cX7_drive 102 = .ok (.bipush 81, 2) := by decide +kernel
theorem dX7_drive_104 : decode cX7_drive 104 = .ok (.iaload, 1) := by decide +kernel
theorem dX7_drive_105 : decode cX7_drive 105 = .ok (.iload_n 3, 1) := by decide +kernel
theorem dX7_drive_106 : decode cX7_drive 106 = .ok (.isub, 1) := by decide +kernel
theorem dX7_drive_107 : decode cX7_drive 107 = .ok (.ireturn, 1) := by decide +kernel
set_option maxRecDepth 20000 in
theorem ggX7_adoptCounts_X7_isUncertain : GoodIn wsX7_adoptCounts wsX7_isUncertain := goodIn_r _ [8, 1, 9, 10, 11, 7, 12, 3, 13, 14, 15, 16, 17, 18, 19, 20, 21, 22, 23, 24, 25, 26, 27, 28, 29, 30, 52, 53, 54, 55, 56, 57, 58, 59, 60, 61, 62, 63, 64, 65, 66, 67, 68, 69, 70] (by decide +kernel) (by decide +kernel)
set_option maxRecDepth 20000 in
theorem gX7_adoptCounts_X7_isUncertain : GoodIn wsX7_adoptCounts (wsV RX7 141 RX7 yX7_isUncertain wsX7_isUncertain) := goodIn_app (goodIn_of _ (by decide +kernel)) ggX7_adoptCounts_X7_isUncertain
set_option maxRecDepth 20000 in
theorem ggX7_adoptCounts_X7_save : GoodIn wsX7_adoptCounts wsX7_save := goodIn_r _ [34, 35, 36, 3, 52, 53, 54, 55, 56, 57, 58, 59, 60, 61, 62, 63, 64, 65, 66, 67, 68, 69, 70] (by decide +kernel) (by decide +kernel)
set_option maxRecDepth 20000 in
theorem gX7_adoptCounts_X7_save : GoodIn wsX7_adoptCounts (wsV RX7 118 RX7 yX7_save wsX7_save) := goodIn_app (goodIn_of _ (by decide +kernel)) ggX7_adoptCounts_X7_save
set_option maxRecDepth 20000 in
theorem ggX7_adoptCounts_X7_countOf : GoodIn wsX7_adoptCounts wsX7_countOf := goodIn_r _ [40, 3, 21, 27, 1, 22, 9, 10, 11, 7, 12, 23, 24, 25, 26, 28, 29, 30, 52, 53, 54, 55, 56, 57, 58, 59, 60, 61, 62, 63, 64, 65, 66, 67, 68, 69, 70] (by decide +kernel) (by decide +kernel)
set_option maxRecDepth 20000 in
theorem gX7_adoptCounts_X7_countOf : GoodIn wsX7_adoptCounts (wsV RX7 144 RX7 yX7_countOf wsX7_countOf) := goodIn_app (goodIn_of _ (by decide +kernel)) ggX7_adoptCounts_X7_countOf
set_option maxRecDepth 20000 in
theorem ggX7_adoptCounts_X7_findTree : GoodIn wsX7_adoptCounts wsX7_findTree := goodIn_r _ [44, 3, 1, 22, 21, 23, 24, 25, 7, 26, 27, 45, 46, 47, 52, 53, 54, 55, 56, 57, 58, 59, 60, 61, 62, 63, 64, 65, 66, 67, 68, 69, 70] (by decide +kernel) (by decide +kernel)
set_option maxRecDepth 20000 in
theorem gX7_adoptCounts_X7_findTree : GoodIn wsX7_adoptCounts (wsV RX7 102 RX7 yX7_findTree wsX7_findTree) := goodIn_app (goodIn_of _ (by decide +kernel)) ggX7_adoptCounts_X7_findTree
set_option maxRecDepth 20000 in
theorem ggX7_adoptCounts_X7_resetCounts : GoodIn wsX7_adoptCounts wsX7_resetCounts := goodIn_r _ [51, 3, 52, 53, 54, 55, 56, 57, 58, 59, 60, 61, 62, 63, 64, 65, 66, 67, 68, 69, 70] (by decide +kernel) (by decide +kernel)
set_option maxRecDepth 20000 in
theorem gX7_adoptCounts_X7_resetCounts : GoodIn wsX7_adoptCounts (wsV RX7 105 RX7 yX7_resetCounts wsX7_resetCounts) := goodIn_app (goodIn_of _ (by decide +kernel)) ggX7_adoptCounts_X7_resetCounts
theorem dX7_adoptCounts_0 : decode cX7_adoptCounts 0 = .ok (.iconst 0, 1) := by decide +kernel
theorem dX7_adoptCounts_1 : decode cX7_adoptCounts 1 = .ok (.istore_n 1, 1) := by decide +kernel
theorem dX7_adoptCounts_2 : decode cX7_adoptCounts 2 = .ok (.iload_n 1, 1) := by decide +kernel
theorem dX7_adoptCounts_3 : decode cX7_adoptCounts 3 = .ok (.aload_n 0, 1) := by decide +kernel
theorem dX7_adoptCounts_4 : decode cX7_adoptCounts 4 = .ok (.getfield 95, 3) := by decide +kernel
theorem dX7_adoptCounts_7 : decode cX7_adoptCounts 7 = .ok (.if_icmp .ge 20, 3) := by decide +kernel
theorem dX7_adoptCounts_10 : decode cX7_adoptCounts 10 = .ok (.aload_n 0, 1) := by decide +kernel
theorem dX7_adoptCounts_11 : decode cX7_adoptCounts 11 = .ok (.iload_n 1, 1) := by decide +kernel
theorem dX7_adoptCounts_12 : decode cX7_adoptCounts 12 = .ok (.invokevirtual 141, 3) := by decide +kernel
theorem dX7_adoptCounts_15 : decode cX7_adoptCounts 15 = .ok (.ifCond .eq 6, 3) := by decide +kernel
theorem dX7_adoptCounts_18 : decode cX7_adoptCounts 18 = .ok (.bipush (-105), 2) := by decide +kernel
theorem dX7_adoptCounts_20 : decode cX7_adoptCounts 20 = .ok (.ireturn, 1) := by decide +kernel
theorem dX7_adoptCounts_21 : decode cX7_adoptCounts 21 = .ok (.iinc 1 1, 3) := by decide +kernel
theorem dX7_adoptCounts_24 : decode cX7_adoptCounts 24 = .ok (.goto (-22), 3) := by decide +kernel
theorem dX7_adoptCounts_27 : decode cX7_adoptCounts 27 = .ok (.aload_n 0, 1) := by decide +kernel
theorem dX7_adoptCounts_28 : decode cX7_adoptCounts 28 = .ok (.invokevirtual 118, 3) := by decide +kernel
theorem dX7_adoptCounts_31 : decode cX7_adoptCounts 31 = .ok (.iconst 0, 1) := by decide +kernel
theorem dX7_adoptCounts_32 : decode cX7_adoptCounts 32 = .ok (.istore_n 1, 1) := by decide +kernel
theorem dX7_adoptCounts_33 : decode cX7_adoptCounts 33 = .ok (.iconst 0, 1) := by decide +kernel
theorem dX7_adoptCounts_34 : decode cX7_adoptCounts 34 = .ok (.istore_n 2, 1) := by decide +kernel
theorem dX7_adoptCounts_35 : decode cX7_adoptCounts 35 = .ok (.iload_n 2, 1) := by decide +kernel
theorem dX7_adoptCounts_36 : decode cX7_adoptCounts 36 = .ok (.aload_n 0, 1) := by decide +kernel
theorem dX7_adoptCounts_37 : decode cX7_adoptCounts 37 = .ok (.getfield 95, 3) := by decide +kernel
theorem dX7_adoptCounts_40 : decode cX7_adoptCounts 40 = .ok (.if_icmp .ge 35, 3) := by decide +kernel
theorem dX7_adoptCounts_43 : decode cX7_adoptCounts 43 = .ok (.aload_n 0, 1) := by decide +kernel
theorem dX7_adoptCounts_44 : decode cX7_adoptCounts 44 = .ok (.iload_n 2, 1) := by decide +kernel
theorem dX7_adoptCounts_45 : decode cX7_adoptCounts 45 = .ok (.invokevirtual 144, 3) := by decide +kernel
theorem dX7_adoptCounts_48 : decode cX7_adoptCounts 48 = .ok (.istore_n 3, 1) := by decide +kernel
theorem dX7_adoptCounts_49 : decode cX7_adoptCounts 49 = .ok (.aload_n 0, 1) := by decide +kernel
theorem dX7_adoptCounts_50 : decode cX7_adoptCounts 50 = .ok (.getfield 37, 3) := by decide +kernel
theorem dX7_adoptCounts_53 : decode cX7_adoptCounts 53 = .ok (.iload_n 2, 1) := by decide +kernel
theorem dX7_adoptCounts_54 : decode cX7_adoptCounts 54 = .ok (.iload_n 3, 1) := by decide +kernel
theorem dX7_adoptCounts_55 : decode cX7_adoptCounts 55 = .ok (.sipush 999, 3) := by decide +kernel
theorem dX7_adoptCounts_58 : decode cX7_adoptCounts 58 = .ok (.if_icmp .ge 7, 3) := by decide +kernel
theorem dX7_adoptCounts_61 : decode cX7_adoptCounts 61 = .ok (.iload_n 3, 1) := by decide +kernel
theorem dX7_adoptCounts_62 : decode cX7_adoptCounts 62 = .ok (.goto 6, 3) := by decide +kernel
theorem dX7_adoptCounts_65 : decode cX7_adoptCounts 65 = .ok (.sipush 999, 3) := by decide +kernel
theorem dX7_adoptCounts_68 : decode cX7_adoptCounts 68 = .ok (.iastore, 1) := by decide +kernel
theorem dX7_adoptCounts_69 : decode cX7_adoptCounts 69 = .ok (.iinc 2 1, 3) := by decide +kernel
theorem dX7_adoptCounts_72 : decode cX7_adoptCounts 72 = .ok (.goto (-37), 3) := by decide +kernel
theorem dX7_adoptCounts_75 : decode cX7_adoptCounts 75 = .ok (.iconst 0, 1) := by decide +kernel
theorem dX7_adoptCounts_76 : decode cX7_adoptCounts 76 = .ok (.istore_n 2, 1) := by decide +kernel
theorem dX7_adoptCounts_77 : decode cX7_adoptCounts 77 = .ok (.iload_n 2, 1) := by decide +kernel
theorem dX7_adoptCounts_78 : decode cX7_adoptCounts 78 = .ok (.aload_n 0, 1) := by decide +kernel
theorem dX7_adoptCounts_79 : decode cX7_adoptCounts 79 = .ok (.getfield 95, 3) := by decide +kernel
theorem dX7_adoptCounts_82 : decode cX7_adoptCounts 82 = .ok (.if_icmp .ge 48, 3) := by decide +kernel
theorem dX7_adoptCounts_85 : decode cX7_adoptCounts 85 = .ok (.iload_n 1, 1) := by decide +kernel
theorem dX7_adoptCounts_86 : decode cX7_adoptCounts 86 = .ok (.aload_n 0, 1) := by decide +kernel
theorem dX7_adoptCounts_87 : decode cX7_adoptCounts 87 = .ok (.getfield 37, 3) := by decide +kernel
theorem dX7_adoptCounts_90 : decode cX7_adoptCounts 90 = .ok (.iload_n 2, 1) := by decide +kernel
theorem dX7_adoptCounts_91 : decode cX7_adoptCounts 91 = .ok (.iaload, 1) := by decide +kernel
theorem dX7_adoptCounts_92 : decode cX7_adoptCounts 92 = .ok (.aload_n 0, 1) := by decide +kernel
theorem dX7_adoptCounts_93 : decode cX7_adoptCounts 93 = .ok (.getfield 19, 3) := by decide +kernel
theorem dX7_adoptCounts_96 : decode cX7_adoptCounts 96 = .ok (.iconst 0, 1) := by decide +kernel
theorem dX7_adoptCounts_97 : decode cX7_adoptCounts 97 = .ok (.iload_n 2, 1) := by decide +kernel
theorem dX7_adoptCounts_98 : decode cX7_adoptCounts 98 = .ok (.iadd, 1) := by decide +kernel
theorem dX7_adoptCounts_99 : decode cX7_adoptCounts 99 = .ok (.iaload, 1) := by decide +kernel
theorem dX7_adoptCounts_100 : decode cX7_adoptCounts 100 = .ok (.if_icmp .eq 7, 3) := by decide +kernel
theorem dX7_adoptCounts_103 : decode cX7_adoptCounts 103 = .ok (.iconst 1, 1) := by decide +kernel
theorem dX7_adoptCounts_104 : decode cX7_adoptCounts 104 = .ok (.goto 4, 3) := by decide +kernel
theorem dX7_adoptCounts_107 : decode cX7_adoptCounts 107 = .ok (.iconst 0, 1) := by decide +kernel
theorem dX7_adoptCounts_108 : decode cX7_adoptCounts 108 = .ok (.iadd, 1) := by decide +kernel
theorem dX7_adoptCounts_109 : decode cX7_adoptCounts 109 = .ok (.istore_n 1, 1) := by decide +kernel
theorem dX7_adoptCounts_110 : decode cX7_adoptCounts 110 = .ok (.aload_n 0, 1) := by decide +kernel
theorem dX7_adoptCounts_111 : decode cX7_adoptCounts 111 = .ok (.getfield 19, 3) := by decide +kernel
theorem dX7_adoptCounts_114 : decode cX7_adoptCounts 114 = .ok (.iconst 0, 1) := by decide +kernel
theorem dX7_adoptCounts_115 : decode cX7_adoptCounts 115 = .ok (.iload_n 2, 1) := by decide +kernel
theorem dX7_adoptCounts_116 : decode cX7_adoptCounts 116 = .ok (.iadd, 1) := by decide +kernel
theorem dX7_adoptCounts_117 : decode cX7_adoptCounts 117 = .ok (.aload_n 0, 1) := by decide +kernel
theorem dX7_adoptCounts_118 : decode cX7_adoptCounts 118 = .ok (.getfield 37, 3) := by decide +kernel
theorem dX7_adoptCounts_121 : decode cX7_adoptCounts 121 = .ok (.iload_n 2, 1) := by decide +kernel
theorem dX7_adoptCounts_122 : decode cX7_adoptCounts 122 = .ok (.iaload, 1) := by decide +kernel
theorem dX7_adoptCounts_123 : decode cX7_adoptCounts 123 = .ok (.iastore, 1) := by decide +kernel
theorem dX7_adoptCounts_124 : decode cX7_adoptCounts 124 = .ok (.iinc 2 1, 3) := by decide +kernel
theorem dX7_adoptCounts_127 : decode cX7_adoptCounts 127 = .ok (.goto (-50), 3) := by decide +kernel
theorem dX7_adoptCounts_130 : decode cX7_adoptCounts 130 = .ok (.aload_n 0, 1) := by decide +kernel
theorem dX7_adoptCounts_131 : decode cX7_adoptCounts 131 = .ok (.invokevirtual 102, 3) := by decide +kernel
theorem dX7_adoptCounts_134 : decode cX7_adoptCounts 134 = .ok (.aload_n 0, 1) := by decide +kernel
theorem dX7_adoptCounts_135 : decode cX7_adoptCounts 135 = .ok (.invokevirtual 105, 3) := by decide +kernel
theorem dX7_adoptCounts_138 : decode cX7_adoptCounts 138 = .ok (.iload_n 1, 1) := by decide +kernel
theorem dX7_adoptCounts_139 : decode cX7_adoptCounts 139 = .ok (.ireturn, 1) := by decide +kernel
theorem dX7_factor_0 : decode cX7_factor 0 = .ok (.iload_n 0, 1) := by decide +kernel
theorem dX7_factor_1 : decode cX7_factor 1 = .ok (.iload_n 1, 1) := by decide +kernel
theorem dX7_factor_2 : decode cX7_factor 2 = .ok (.ishr, 1) := by decide +kernel
theorem dX7_factor_3 : decode cX7_factor 3 = .ok (.iconst 1, 1) := by decide +kernel
theorem dX7_factor_4 : decode cX7_factor 4 = .ok (.iand, 1) := by decide +kernel
theorem dX7_factor_5 : decode cX7_factor 5 = .ok (.iload_n 0, 1) := by decide +kernel
theorem dX7_factor_6 : decode cX7_factor 6 = .ok (.iload_n 2, 1) := by decide +kernel
theorem dX7_factor_7 : decode cX7_factor 7 = .ok (.ishr, 1) := by decide +kernel
theorem dX7_factor_8 : decode cX7_factor 8 = .ok (.iconst 1, 1) := by decide +kernel
theorem dX7_factor_9 : decode cX7_factor 9 = .ok (.iand, 1) := by decide +kernel
theorem dX7_factor_10 : decode cX7_factor 10 = .ok (.isub, 1) := by decide +kernel
theorem dX7_factor_11 : decode cX7_factor 11 = .ok (.ireturn, 1) := by decide +kernel
set_option maxRecDepth 20000 in
theorem ggX7_factorOf_X7_sideOf : GoodIn wsX7_factorOf wsX7_sideOf := goodIn_r _ [7, 8, 9, 2, 1, 10, 14, 15, 16, 17, 18, 19, 20, 21, 22, 23, 24, 25, 26, 27, 28, 29, 30, 31, 32] (by decide +kernel) (by decide +kernel)
set_option maxRecDepth 20000 in
theorem gX7_factorOf_X7_sideOf : GoodIn wsX7_factorOf (wsV RX7 111 RX7 yX7_sideOf wsX7_sideOf) := goodIn_app (goodIn_of _ (by decide +kernel)) ggX7_factorOf_X7_sideOf
set_option maxRecDepth 20000 in
theorem ggX7_factorOf_X7_factor : GoodIn wsX7_factorOf wsX7_factor := goodIn_r _ [13] (by decide +kernel) (by decide +kernel)
set_option maxRecDepth 20000 in
theorem gX7_factorOf_X7_factor : GoodIn wsX7_factorOf (va_wsS RX7 147 yX7_factor wsX7_factor) := goodIn_app (goodIn_of _ (by decide +kernel)) ggX7_factorOf_X7_factor
theorem dX7_factorOf_0 : decode cX7_factorOf 0 = .ok (.aload_n 0, 1) := by decide +kernel
theorem dX7_factorOf_1 : decode cX7_factorOf 1 = .ok (.aload_n 0, 1) := by decide +kernel
theorem dX7_factorOf_2 : decode cX7_factorOf 2 = .ok (.getfield 16, 3) := by decide +kernel
theorem dX7_factorOf_5 : decode cX7_factorOf 5 = .ok (.iload_n 1, 1) := by decide +kernel
theorem dX7_factorOf_6 : decode cX7_factorOf 6 = .ok (.iaload, 1) := by decide +kernel
theorem dX7_factorOf_7 : decode cX7_factorOf 7 = .ok (.iload_n 1, 1) := by decide +kernel
theorem dX7_factorOf_8 : decode cX7_factorOf 8 = .ok (.invokevirtual 111, 3) := by decide +kernel
theorem dX7_factorOf_11 : decode cX7_factorOf 11 = .ok (.aload_n 0, 1) := by decide +kernel
theorem dX7_factorOf_12 : decode cX7_factorOf 12 = .ok (.getfield 13, 3) := by decide +kernel
theorem dX7_factorOf_15 : decode cX7_factorOf 15 = .ok (.iload_n 2, 1) := by decide +kernel
theorem dX7_factorOf_16 : decode cX7_factorOf 16 = .ok (.iaload, 1) := by decide +kernel
theorem dX7_factorOf_17 : decode cX7_factorOf 17 = .ok (.aload_n 0, 1) := by decide +kernel
theorem dX7_factorOf_18 : decode cX7_factorOf 18 = .ok (.getfield 16, 3) := by decide +kernel
theorem dX7_factorOf_21 : decode cX7_factorOf 21 = .ok (.iload_n 2, 1) := by decide +kernel
theorem dX7_factorOf_22 : decode cX7_factorOf 22 = .ok (.iaload, 1) := by decide +kernel
theorem dX7_factorOf_23 : decode cX7_factorOf 23 = .ok (.invokestatic 147, 3) := by decide +kernel
theorem dX7_factorOf_26 : decode cX7_factorOf 26 = .ok (.ireturn, 1) := by decide +kernel
set_option maxRecDepth 20000 in
theorem ggX7_isSaturated_X7_isTree : GoodIn wsX7_isSaturated wsX7_isTree := goodIn_r _ [6, 1, 7, 8, 9, 10, 11, 12, 13, 14, 15, 16, 17, 18, 19, 20, 21, 22, 23, 24, 25] (by decide +kernel) (by decide +kernel)
set_option maxRecDepth 20000 in
theorem gX7_isSaturated_X7_isTree : GoodIn wsX7_isSaturated (wsV RX7 121 RX7 yX7_isTree wsX7_isTree) := goodIn_app (goodIn_of _ (by decide +kernel)) ggX7_isSaturated_X7_isTree
theorem dX7_isSaturated_0 : decode cX7_isSaturated 0 = .ok (.aload_n 0, 1) := by decide +kernel
theorem dX7_isSaturated_1 : decode cX7_isSaturated 1 = .ok (.iload_n 1, 1) := by decide +kernel
theorem dX7_isSaturated_2 : decode cX7_isSaturated 2 = .ok (.invokevirtual 121, 3) := by decide +kernel
theorem dX7_isSaturated_5 : decode cX7_isSaturated 5 = .ok (.ifCond .ne 26, 3) := by decide +kernel
theorem dX7_isSaturated_8 : decode cX7_isSaturated 8 = .ok (.aload_n 0, 1) := by decide +kernel
theorem dX7_isSaturated_9 : decode cX7_isSaturated 9 = .ok (.getfield 19, 3) := by decide +kernel
theorem dX7_isSaturated_12 : decode cX7_isSaturated 12 = .ok (.bipush 40, 2) := by decide +kernel
theorem dX7_isSaturated_14 : decode cX7_isSaturated 14 = .ok (.iload_n 1, 1) := by decide +kernel
theorem dX7_isSaturated_15 : decode cX7_isSaturated 15 = .ok (.iadd, 1) := by decide +kernel
theorem dX7_isSaturated_16 : decode cX7_isSaturated 16 = .ok (.iaload, 1) := by decide +kernel
theorem dX7_isSaturated_17 : decode cX7_isSaturated 17 = .ok (.aload_n 0, 1) := by decide +kernel
theorem dX7_isSaturated_18 : decode cX7_isSaturated 18 = .ok (.getfield 19, 3) := by decide +kernel
theorem dX7_isSaturated_21 : decode cX7_isSaturated 21 = .ok (.bipush 80, 2) := by decide +kernel
theorem dX7_isSaturated_23 : decode cX7_isSaturated 23 = .ok (.iaload, 1) := by decide +kernel
theorem dX7_isSaturated_24 : decode cX7_isSaturated 24 = .ok (.if_icmp .ne 7, 3) := by decide +kernel
theorem dX7_isSaturated_27 : decode cX7_isSaturated 27 = .ok (.iconst 1, 1) := by decide +kernel
theorem dX7_isSaturated_28 : decode cX7_isSaturated 28 = .ok (.goto 4, 3) := by decide +kernel
theorem dX7_isSaturated_31 : decode cX7_isSaturated 31 = .ok (.iconst 0, 1) := by decide +kernel
theorem dX7_isSaturated_32 : decode cX7_isSaturated 32 = .ok (.ireturn, 1) := by decide +kernel
set_option maxRecDepth 20000 in
theorem ggX7_isUncertain_X7_isTree : GoodIn wsX7_isUncertain wsX7_isTree := goodIn_r _ [6, 7, 26, 27, 28, 29, 30, 31, 32, 33, 34, 35, 36, 37, 38, 39, 40, 41, 42, 43, 44] (by decide +kernel) (by decide +kernel)
set_option maxRecDepth 20000 in
theorem gX7_isUncertain_X7_isTree : GoodIn wsX7_isUncertain (wsV RX7 121 RX7 yX7_isTree wsX7_isTree) := goodIn_app (goodIn_of _ (by decide +kernel)) ggX7_isUncertain_X7_isTree
set_option maxRecDepth 20000 in
theorem ggX7_isUncertain_X7_isSaturated : GoodIn wsX7_isUncertain wsX7_isSaturated := goodIn_r _ [11, 7, 2, 3, 4, 5, 6, 26, 27, 28, 29, 30, 31, 32, 33, 34, 35, 36, 37, 38, 39, 40, 41, 42, 43, 44] (by decide +kernel) (by decide +kernel)
set_option maxRecDepth 20000 in
theorem gX7_isUncertain_X7_isSaturated : GoodIn wsX7_isUncertain (wsV RX7 151 RX7 yX7_isSaturated wsX7_isSaturated) := goodIn_app (goodIn_of _ (by decide +kernel)) ggX7_isUncertain_X7_isSaturated
set_option maxRecDepth 20000 in
theorem ggX7_isUncertain_X7_factorOf : GoodIn wsX7_isUncertain wsX7_factorOf := goodIn_r _ [15, 16, 17, 18, 19, 20, 5, 21, 22, 1, 7, 23, 24, 25, 26, 27, 28, 29, 30, 31, 32, 33, 34, 35, 36, 37, 38, 39, 40, 41, 42, 43, 44] (by decide +kernel) (by decide +kernel)
set_option maxRecDepth 20000 in
theorem gX7_isUncertain_X7_factorOf : GoodIn wsX7_isUncertain (wsV RX7 154 RX7 yX7_factorOf wsX7_factorOf) := goodIn_app (goodIn_of _ (by decide +kernel)) ggX7_isUncertain_X7_factorOf
theorem dX7_isUncertain_0 : decode cX7_isUncertain 0 = .ok (.aload_n 0, 1) := by decide +kernel
theorem dX7_isUncertain_1 : decode cX7_isUncertain 1 = .ok (.iload_n 1, 1) := by decide +kernel
theorem dX7_isUncertain_2 : decode cX7_isUncertain 2 = .ok (.invokevirtual 121, 3) := by decide +kernel
theorem dX7_isUncertain_5 : decode cX7_isUncertain 5 = .ok (.ifCond .ne 9, 3) := by decide +kernel
theorem dX7_isUncertain_8 : decode cX7_isUncertain 8 = .ok (.aload_n 0, 1) := by decide +kernel
theorem dX7_isUncertain_9 : decode cX7_isUncertain 9 = .ok (.iload_n 1, 1) := by decide +kernel
theorem dX7_isUncertain_10 : decode cX7_isUncertain 10 = .ok (.invokevirtual 151, 3) := by decide +kernel
theorem dX7_isUncertain_13 : decode cX7_isUncertain 13 = .ok (.ireturn, 1) := by decide +kernel
theorem dX7_isUncertain_14 : decode cX7_isUncertain 14 = .ok (.iconst 0, 1) := by decide +kernel
theorem dX7_isUncertain_15 : decode cX7_isUncertain 15 = .ok (.istore_n 2, 1) := by decide +kernel
theorem dX7_isUncertain_16 : decode cX7_isUncertain 16 = .ok (.iconst 0, 1) := by decide +kernel
theorem dX7_isUncertain_17 : decode cX7_isUncertain 17 = .ok (.istore_n 3, 1) := by decide +kernel
theorem dX7_isUncertain_18 : decode cX7_isUncertain 18 = .ok (.iload_n 3, 1) := by decide +kernel
theorem dX7_isUncertain_19 : decode cX7_isUncertain 19 = .ok (.aload_n 0, 1) := by decide +kernel
theorem dX7_isUncertain_20 : decode cX7_isUncertain 20 = .ok (.getfield 95, 3) := by decide +kernel
theorem dX7_isUncertain_23 : decode cX7_isUncertain 23 = .ok (.if_icmp .ge 36, 3) := by decide +kernel
theorem dX7_isUncertain_26 : decode cX7_isUncertain 26 = .ok (.iload_n 2, 1) := by decide +kernel
theorem dX7_isUncertain_27 : decode cX7_isUncertain 27 = .ok (.ifCond .ne 20, 3) := by decide +kernel
theorem dX7_isUncertain_30 : decode cX7_isUncertain 30 = .ok (.aload_n 0, 1) := by decide +kernel
theorem dX7_isUncertain_31 : decode cX7_isUncertain 31 = .ok (.iload_n 3, 1) := by decide +kernel
theorem dX7_isUncertain_32 : decode cX7_isUncertain 32 = .ok (.invokevirtual 151, 3) := by decide +kernel
theorem dX7_isUncertain_35 : decode cX7_isUncertain 35 = .ok (.ifCond .eq 16, 3) := by decide +kernel
theorem dX7_isUncertain_38 : decode cX7_isUncertain 38 = .ok (.aload_n 0, 1) := by decide +kernel
theorem dX7_isUncertain_39 : decode cX7_isUncertain 39 = .ok (.iload_n 1, 1) := by decide +kernel
theorem dX7_isUncertain_40 : decode cX7_isUncertain 40 = .ok (.iload_n 3, 1) := by decide +kernel
theorem dX7_isUncertain_41 : decode cX7_isUncertain 41 = .ok (.invokevirtual 154, 3) := by decide +kernel
theorem dX7_isUncertain_44 : decode cX7_isUncertain 44 = .ok (.ifCond .eq 7, 3) := by decide +kernel
theorem dX7_isUncertain_47 : decode cX7_isUncertain 47 = .ok (.iconst 1, 1) := by decide +kernel
theorem dX7_isUncertain_48 : decode cX7_isUncertain 48 = .ok (.goto 4, 3) := by decide +kernel
theorem dX7_isUncertain_51 : decode cX7_isUncertain 51 = .ok (.iconst 0, 1) := by decide +kernel
theorem dX7_isUncertain_52 : decode cX7_isUncertain 52 = .ok (.istore_n 2, 1) := by decide +kernel
theorem dX7_isUncertain_53 : decode cX7_isUncertain 53 = .ok (.iinc 3 1, 3) := by decide +kernel
theorem dX7_isUncertain_56 : decode cX7_isUncertain 56 = .ok (.goto (-38), 3) := by decide +kernel
theorem dX7_isUncertain_59 : decode cX7_isUncertain 59 = .ok (.iload_n 2, 1) := by decide +kernel
theorem dX7_isUncertain_60 : decode cX7_isUncertain 60 = .ok (.ireturn, 1) := by decide +kernel
set_option maxRecDepth 20000 in
theorem ggX7_countOf_X7_isTree : GoodIn wsX7_countOf wsX7_isTree := goodIn_r _ [10, 1, 18, 19, 20, 21, 22, 23, 24, 25, 26, 27, 28, 29, 30, 31, 32, 33, 34, 35, 36] (by decide +kernel) (by decide +kernel)
set_option maxRecDepth 20000 in
theorem gX7_countOf_X7_isTree : GoodIn wsX7_countOf (wsV RX7 121 RX7 yX7_isTree wsX7_isTree) := goodIn_app (goodIn_of _ (by decide +kernel)) ggX7_countOf_X7_isTree
set_option maxRecDepth 20000 in
theorem ggX7_countOf_X7_sideOf : GoodIn wsX7_countOf wsX7_sideOf := goodIn_r _ [14, 3, 4, 5, 2, 1, 18, 19, 20, 21, 22, 23, 24, 25, 26, 27, 28, 29, 30, 31, 32, 33, 34, 35, 36] (by decide +kernel) (by decide +kernel)
set_option maxRecDepth 20000 in
theorem gX7_countOf_X7_sideOf : GoodIn wsX7_countOf (wsV RX7 111 RX7 yX7_sideOf wsX7_sideOf) := goodIn_app (goodIn_of _ (by decide +kernel)) ggX7_countOf_X7_sideOf
set_option maxRecDepth 20000 in
theorem ggX7_countOf_X7_factor : GoodIn wsX7_countOf wsX7_factor := goodIn_r _ [17] (by decide +kernel) (by decide +kernel)
set_option maxRecDepth 20000 in
theorem gX7_countOf_X7_factor : GoodIn wsX7_countOf (va_wsS RX7 147 yX7_factor wsX7_factor) := goodIn_app (goodIn_of _ (by decide +kernel)) ggX7_countOf_X7_factor
theorem dX7_countOf_0 : decode cX7_countOf 0 = .ok (.aload_n 0, 1) := by decide +kernel
theorem dX7_countOf_1 : decode cX7_countOf 1 = .ok (.iload_n 1, 1) := by decide +kernel
theorem dX7_countOf_2 : decode cX7_countOf 2 = .ok (.invokevirtual 121, 3) := by decide +kernel
theorem dX7_countOf_5 : decode cX7_countOf 5 = .ok (.ifCond .ne 13, 3) := by decide +kernel
theorem dX7_countOf_8 : decode cX7_countOf 8 = .ok (.aload_n 0, 1) := by decide +kernel
theorem dX7_countOf_9 : decode cX7_countOf 9 = .ok (.getfield 19, 3) := by decide +kernel
theorem dX7_countOf_12 : decode cX7_countOf 12 = .ok (.bipush 40, 2) := by decide +kernel
theorem dX7_countOf_14 : decode cX7_countOf 14 = .ok (.iload_n 1, 1) := by decide +kernel
theorem dX7_countOf_15 : decode cX7_countOf 15 = .ok (.iadd, 1) := by decide +kernel
theorem dX7_countOf_16 : decode cX7_countOf 16 = .ok (.iaload, 1) := by decide +kernel
theorem dX7_countOf_17 : decode cX7_countOf 17 = .ok (.ireturn, 1) := by decide +kernel
theorem dX7_countOf_18 : decode cX7_countOf 18 = .ok (.aload_n 0, 1) := by decide +kernel
theorem dX7_countOf_19 : decode cX7_countOf 19 = .ok (.aload_n 0, 1) := by decide +kernel
theorem dX7_countOf_20 : decode cX7_countOf 20 = .ok (.getfield 16, 3) := by decide +kernel
theorem dX7_countOf_23 : decode cX7_countOf 23 = .ok (.iload_n 1, 1) := by decide +kernel
theorem dX7_countOf_24 : decode cX7_countOf 24 = .ok (.iaload, 1) := by decide +kernel
theorem dX7_countOf_25 : decode cX7_countOf 25 = .ok (.iload_n 1, 1) := by decide +kernel
theorem dX7_countOf_26 : decode cX7_countOf 26 = .ok (.invokevirtual 111, 3) := by decide +kernel
theorem dX7_countOf_29 : decode cX7_countOf 29 = .ok (.istore_n 2, 1) := by decide +kernel
theorem dX7_countOf_30 : decode cX7_countOf 30 = .ok (.aload_n 0, 1) := by decide +kernel
theorem dX7_countOf_31 : decode cX7_countOf 31 = .ok (.getfield 19, 3) := by decide +kernel
theorem dX7_countOf_34 : decode cX7_countOf 34 = .ok (.bipush 82, 2) := by decide +kernel
theorem dX7_countOf_36 : decode cX7_countOf 36 = .ok (.iaload, 1) := by decide +kernel
theorem dX7_countOf_37 : decode cX7_countOf 37 = .ok (.ifCond .ne 7, 3) := by decide +kernel
theorem dX7_countOf_40 : decode cX7_countOf 40 = .ok (.iconst 0, 1) := by decide +kernel
theorem dX7_countOf_41 : decode cX7_countOf 41 = .ok (.goto 20, 3) := by decide +kernel
theorem dX7_countOf_44 : decode cX7_countOf 44 = .ok (.iload_n 2, 1) := by decide +kernel
theorem dX7_countOf_45 : decode cX7_countOf 45 = .ok (.aload_n 0, 1) := by decide +kernel
theorem dX7_countOf_46 : decode cX7_countOf 46 = .ok (.getfield 19, 3) := by decide +kernel
theorem dX7_countOf_49 : decode cX7_countOf 49 = .ok (.bipush 82, 2) := by decide +kernel
theorem dX7_countOf_51 : decode cX7_countOf 51 = .ok (.iaload, 1) := by decide +kernel
theorem dX7_countOf_52 : decode cX7_countOf 52 = .ok (.aload_n 0, 1) := by decide +kernel
theorem dX7_countOf_53 : decode cX7_countOf 53 = .ok (.getfield 92, 3) := by decide +kernel
theorem dX7_countOf_56 : decode cX7_countOf 56 = .ok (.iconst 1, 1) := by decide +kernel
theorem dX7_countOf_57 : decode cX7_countOf 57 = .ok (.isub, 1) := by decide +kernel
theorem dX7_countOf_58 : decode cX7_countOf 58 = .ok (.invokestatic 147, 3) := by decide +kernel
theorem dX7_countOf_61 : decode cX7_countOf 61 = .ok (.istore_n 3, 1) := by decide +kernel
theorem dX7_countOf_62 : decode cX7_countOf 62 = .ok (.iconst 0, 1) := by decide +kernel
theorem dX7_countOf_63 : decode cX7_countOf 63 = .ok (.istore 4, 2) := by decide +kernel
theorem dX7_countOf_65 : decode cX7_countOf 65 = .ok (.iload 4, 2) := by decide +kernel
theorem dX7_countOf_67 : decode cX7_countOf 67 = .ok (.aload_n 0, 1) := by decide +kernel
theorem dX7_countOf_68 : decode cX7_countOf 68 = .ok (.getfield 95, 3) := by decide +kernel
theorem dX7_countOf_71 : decode cX7_countOf 71 = .ok (.if_icmp .ge 54, 3) := by decide +kernel
theorem dX7_countOf_74 : decode cX7_countOf 74 = .ok (.iload_n 3, 1) := by decide +kernel
theorem dX7_countOf_75 : decode cX7_countOf 75 = .ok (.aload_n 0, 1) := by decide +kernel
theorem dX7_countOf_76 : decode cX7_countOf 76 = .ok (.iload 4, 2) := by decide +kernel
theorem dX7_countOf_78 : decode cX7_countOf 78 = .ok (.invokevirtual 121, 3) := by decide +kernel
theorem dX7_countOf_81 : decode cX7_countOf 81 = .ok (.ifCond .eq 7, 3) := by decide +kernel
theorem dX7_countOf_84 : decode cX7_countOf 84 = .ok (.iconst 0, 1) := by decide +kernel
theorem dX7_countOf_85 : decode cX7_countOf 85 = .ok (.goto 32, 3) := by decide +kernel
theorem dX7_countOf_88 : decode cX7_countOf 88 = .ok (.iload_n 2, 1) := by decide +kernel
theorem dX7_countOf_89 : decode cX7_countOf 89 = .ok (.aload_n 0, 1) := by decide +kernel
theorem dX7_countOf_90 : decode cX7_countOf 90 = .ok (.getfield 13, 3) := by decide +kernel
theorem dX7_countOf_93 : decode cX7_countOf 93 = .ok (.iload 4, 2) := by decide +kernel
theorem dX7_countOf_95 : decode cX7_countOf 95 = .ok (.iaload, 1) := by decide +kernel
theorem dX7_countOf_96 : decode cX7_countOf 96 = .ok (.aload_n 0, 1) := by decide +kernel
theorem dX7_countOf_97 : decode cX7_countOf 97 = .ok (.getfield 16, 3) := by decide +kernel
theorem dX7_countOf_100 : decode cX7_countOf 100 = .ok (.iload 4, 2) := by decide +kernel
theorem dX7_countOf_102 : decode cX7_countOf 102 = .ok (.iaload, 1) := by decide +kernel
theorem dX7_countOf_103 : decode cX7_countOf 103 = .ok (.invokestatic 147, 3) := by decide +kernel
theorem dX7_countOf_106 : decode cX7_countOf 106 = .ok (.aload_n 0, 1) := by decide +kernel
theorem dX7_countOf_107 : decode cX7_countOf 107 = .ok (.getfield 19, 3) := by decide +kernel
theorem dX7_countOf_110 : decode cX7_countOf 110 = .ok (.bipush 40, 2) := by decide +kernel
theorem dX7_countOf_112 : decode cX7_countOf 112 = .ok (.iload 4, 2) := by decide +kernel
theorem dX7_countOf_114 : decode cX7_countOf 114 = .ok (.iadd, 1) := by decide +kernel
theorem dX7_countOf_115 : decode cX7_countOf 115 = .ok (.iaload, 1) := by decide +kernel
theorem dX7_countOf_116 : decode cX7_countOf 116 = .ok (.imul, 1) := by decide +kernel
theorem dX7_countOf_117 : decode cX7_countOf 117 = .ok (.iadd, 1) := by decide +kernel
theorem dX7_countOf_118 : decode cX7_countOf 118 = .ok (.istore_n 3, 1) := by decide +kernel
theorem dX7_countOf_119 : decode cX7_countOf 119 = .ok (.iinc 4 1, 3) := by decide +kernel
theorem dX7_countOf_122 : decode cX7_countOf 122 = .ok (.goto (-57), 3) := by decide +kernel
theorem dX7_countOf_125 : decode cX7_countOf 125 = .ok (.iload_n 3, 1) := by decide +kernel
theorem dX7_countOf_126 : decode cX7_countOf 126 = .ok (.ireturn, 1) := by decide +kernel
theorem dX7_blockCount_0 : decode cX7_blockCount 0 = .ok (.aload_n 0, 1) := by decide +kernel
theorem dX7_blockCount_1 : decode cX7_blockCount 1 = .ok (.getfield 92, 3) := by decide +kernel
theorem dX7_blockCount_4 : decode cX7_blockCount 4 = .ok (.ireturn, 1) := by decide +kernel
set_option maxRecDepth 20000 in
theorem ggX7_sourceOf_X7_isEdge : GoodIn wsX7_sourceOf wsX7_isEdge := goodIn_r _ [6, 7, 8, 9, 5, 10, 11, 12, 13, 14, 15, 16, 17, 18, 19, 20, 21, 22, 23, 24, 25, 26, 27, 28, 29] (by decide +kernel) (by decide +kernel)
set_option maxRecDepth 20000 in
theorem gX7_sourceOf_X7_isEdge : GoodIn wsX7_sourceOf (wsV RX7 115 RX7 yX7_isEdge wsX7_isEdge) := goodIn_app (goodIn_of _ (by decide +kernel)) ggX7_sourceOf_X7_isEdge
theorem dX7_sourceOf_0 : decode cX7_sourceOf 0 = .ok (.aload_n 0, 1) := by decide +kernel
theorem dX7_sourceOf_1 : decode cX7_sourceOf 1 = .ok (.iload_n 1, 1) := by decide +kernel
theorem dX7_sourceOf_2 : decode cX7_sourceOf 2 = .ok (.invokevirtual 115, 3) := by decide +kernel
theorem dX7_sourceOf_5 : decode cX7_sourceOf 5 = .ok (.ifCond .eq 12, 3) := by decide +kernel
theorem dX7_sourceOf_8 : decode cX7_sourceOf 8 = .ok (.aload_n 0, 1) := by decide +kernel
theorem dX7_sourceOf_9 : decode cX7_sourceOf 9 = .ok (.getfield 13, 3) := by decide +kernel
theorem dX7_sourceOf_12 : decode cX7_sourceOf 12 = .ok (.iload_n 1, 1) := by decide +kernel
theorem dX7_sourceOf_13 : decode cX7_sourceOf 13 = .ok (.iaload, 1) := by decide +kernel
theorem dX7_sourceOf_14 : decode cX7_sourceOf 14 = .ok (.goto 5, 3) := by decide +kernel
theorem dX7_sourceOf_17 : decode cX7_sourceOf 17 = .ok (.bipush (-101), 2) := by decide +kernel
theorem dX7_sourceOf_19 : decode cX7_sourceOf 19 = .ok (.ireturn, 1) := by decide +kernel
set_option maxRecDepth 20000 in
theorem ggX7_targetOf_X7_isEdge : GoodIn wsX7_targetOf wsX7_isEdge := goodIn_r _ [6, 7, 8, 9, 5, 10, 11, 12, 13, 14, 15, 16, 17, 18, 19, 20, 21, 22, 23, 24, 25, 26, 27, 28, 29] (by decide +kernel) (by decide +kernel)
set_option maxRecDepth 20000 in
theorem gX7_targetOf_X7_isEdge : GoodIn wsX7_targetOf (wsV RX7 115 RX7 yX7_isEdge wsX7_isEdge) := goodIn_app (goodIn_of _ (by decide +kernel)) ggX7_targetOf_X7_isEdge
theorem dX7_targetOf_0 : decode cX7_targetOf 0 = .ok (.aload_n 0, 1) := by decide +kernel
theorem dX7_targetOf_1 : decode cX7_targetOf 1 = .ok (.iload_n 1, 1) := by decide +kernel
theorem dX7_targetOf_2 : decode cX7_targetOf 2 = .ok (.invokevirtual 115, 3) := by decide +kernel
theorem dX7_targetOf_5 : decode cX7_targetOf 5 = .ok (.ifCond .eq 12, 3) := by decide +kernel
theorem dX7_targetOf_8 : decode cX7_targetOf 8 = .ok (.aload_n 0, 1) := by decide +kernel
theorem dX7_targetOf_9 : decode cX7_targetOf 9 = .ok (.getfield 16, 3) := by decide +kernel
theorem dX7_targetOf_12 : decode cX7_targetOf 12 = .ok (.iload_n 1, 1) := by decide +kernel
theorem dX7_targetOf_13 : decode cX7_targetOf 13 = .ok (.iaload, 1) := by decide +kernel
theorem dX7_targetOf_14 : decode cX7_targetOf 14 = .ok (.goto 5, 3) := by decide +kernel
theorem dX7_targetOf_17 : decode cX7_targetOf 17 = .ok (.bipush (-101), 2) := by decide +kernel
theorem dX7_targetOf_19 : decode cX7_targetOf 19 = .ok (.ireturn, 1) := by decide +kernel
set_option maxRecDepth 20000 in
theorem ggX7_weightOf_X7_isEdge : GoodIn wsX7_weightOf wsX7_isEdge := goodIn_r _ [6, 7, 8, 9, 5, 10, 11, 12, 13, 14, 15, 16, 17, 18, 19, 20, 21, 22, 23, 24, 25, 26, 27, 28, 29] (by decide +kernel) (by decide +kernel)
set_option maxRecDepth 20000 in
theorem gX7_weightOf_X7_isEdge : GoodIn wsX7_weightOf (wsV RX7 115 RX7 yX7_isEdge wsX7_isEdge) := goodIn_app (goodIn_of _ (by decide +kernel)) ggX7_weightOf_X7_isEdge
theorem dX7_weightOf_0 : decode cX7_weightOf 0 = .ok (.aload_n 0, 1) := by decide +kernel
theorem dX7_weightOf_1 : decode cX7_weightOf 1 = .ok (.iload_n 1, 1) := by decide +kernel
theorem dX7_weightOf_2 : decode cX7_weightOf 2 = .ok (.invokevirtual 115, 3) := by decide +kernel
theorem dX7_weightOf_5 : decode cX7_weightOf 5 = .ok (.ifCond .eq 14, 3) := by decide +kernel
theorem dX7_weightOf_8 : decode cX7_weightOf 8 = .ok (.aload_n 0, 1) := by decide +kernel
theorem dX7_weightOf_9 : decode cX7_weightOf 9 = .ok (.getfield 19, 3) := by decide +kernel
theorem dX7_weightOf_12 : decode cX7_weightOf 12 = .ok (.iconst 0, 1) := by decide +kernel
theorem dX7_weightOf_13 : decode cX7_weightOf 13 = .ok (.iload_n 1, 1) := by decide +kernel
theorem dX7_weightOf_14 : decode cX7_weightOf 14 = .ok (.iadd, 1) := by decide +kernel
theorem dX7_weightOf_15 : decode cX7_weightOf 15 = .ok (.iaload, 1) := by decide +kernel
theorem dX7_weightOf_16 : decode cX7_weightOf 16 = .ok (.goto 5, 3) := by decide +kernel
theorem dX7_weightOf_19 : decode cX7_weightOf 19 = .ok (.bipush (-101), 2) := by decide +kernel
theorem dX7_weightOf_21 : decode cX7_weightOf 21 = .ok (.ireturn, 1) := by decide +kernel
set_option maxRecDepth 20000 in
theorem ggX7_hasCounter_X7_isEdge : GoodIn wsX7_hasCounter wsX7_isEdge := goodIn_r _ [5, 6, 7, 8, 4, 9, 15, 16, 17, 18, 19, 20, 21, 22, 23, 24, 25, 26, 27, 28, 29, 30, 31, 32, 33] (by decide +kernel) (by decide +kernel)
set_option maxRecDepth 20000 in
theorem gX7_hasCounter_X7_isEdge : GoodIn wsX7_hasCounter (wsV RX7 115 RX7 yX7_isEdge wsX7_isEdge) := goodIn_app (goodIn_of _ (by decide +kernel)) ggX7_hasCounter_X7_isEdge
set_option maxRecDepth 20000 in
theorem ggX7_hasCounter_X7_isTree : GoodIn wsX7_hasCounter wsX7_isTree := goodIn_r _ [13, 14, 15, 16, 17, 18, 19, 20, 21, 22, 23, 24, 25, 26, 27, 28, 29, 30, 31, 32, 33] (by decide +kernel) (by decide +kernel)
set_option maxRecDepth 20000 in
theorem gX7_hasCounter_X7_isTree : GoodIn wsX7_hasCounter (wsV RX7 121 RX7 yX7_isTree wsX7_isTree) := goodIn_app (goodIn_of _ (by decide +kernel)) ggX7_hasCounter_X7_isTree
theorem dX7_hasCounter_0 : decode cX7_hasCounter 0 = .ok (.aload_n 0, 1) := by decide +kernel
theorem dX7_hasCounter_1 : decode cX7_hasCounter 1 = .ok (.iload_n 1, 1) := by decide +kernel
theorem dX7_hasCounter_2 : decode cX7_hasCounter 2 = .ok (.invokevirtual 115, 3) := by decide +kernel
theorem dX7_hasCounter_5 : decode cX7_hasCounter 5 = .ok (.ifCond .ne 8, 3) := by decide +kernel
theorem dX7_hasCounter_8 : decode cX7_hasCounter 8 = .ok (.bipush (-101), 2) := by decide +kernel
theorem dX7_hasCounter_10 : decode cX7_hasCounter 10 = .ok (.goto 16, 3) := by decide +kernel
theorem dX7_hasCounter_13 : decode cX7_hasCounter 13 = .ok (.aload_n 0, 1) := by decide +kernel
theorem dX7_hasCounter_14 : decode cX7_hasCounter 14 = .ok (.iload_n 1, 1) := by decide +kernel
theorem dX7_hasCounter_15 : decode cX7_hasCounter 15 = .ok (.invokevirtual 121, 3) := by decide +kernel
theorem dX7_hasCounter_18 : decode cX7_hasCounter 18 = .ok (.ifCond .eq 7, 3) := by decide +kernel
theorem dX7_hasCounter_21 : decode cX7_hasCounter 21 = .ok (.iconst 0, 1) := by decide +kernel
theorem dX7_hasCounter_22 : decode cX7_hasCounter 22 = .ok (.goto 4, 3) := by decide +kernel
theorem dX7_hasCounter_25 : decode cX7_hasCounter 25 = .ok (.iconst 1, 1) := by decide +kernel
theorem dX7_hasCounter_26 : decode cX7_hasCounter 26 = .ok (.ireturn, 1) := by decide +kernel
set_option maxRecDepth 20000 in
theorem ggX7_counterCount_X7_isTree : GoodIn wsX7_counterCount wsX7_isTree := goodIn_r _ [6, 7, 8, 9, 10, 11, 12, 13, 14, 15, 16, 17, 18, 19, 20, 21, 22, 23, 24, 25, 26] (by decide +kernel) (by decide +kernel)
set_option maxRecDepth 20000 in
theorem gX7_counterCount_X7_isTree : GoodIn wsX7_counterCount (wsV RX7 121 RX7 yX7_isTree wsX7_isTree) := goodIn_app (goodIn_of _ (by decide +kernel)) ggX7_counterCount_X7_isTree
theorem dX7_counterCount_0 : decode cX7_counterCount 0 = .ok (.iconst 0, 1) := by decide +kernel
theorem dX7_counterCount_1 : decode cX7_counterCount 1 = .ok (.istore_n 1, 1) := by decide +kernel
theorem dX7_counterCount_2 : decode cX7_counterCount 2 = .ok (.iconst 0, 1) := by decide +kernel
theorem dX7_counterCount_3 : decode cX7_counterCount 3 = .ok (.istore_n 2, 1) := by decide +kernel
theorem dX7_counterCount_4 : decode cX7_counterCount 4 = .ok (.iload_n 2, 1) := by decide +kernel
theorem dX7_counterCount_5 : decode cX7_counterCount 5 = .ok (.aload_n 0, 1) := by decide +kernel
theorem dX7_counterCount_6 : decode cX7_counterCount 6 = .ok (.getfield 95, 3) := by decide +kernel
theorem dX7_counterCount_9 : decode cX7_counterCount 9 = .ok (.if_icmp .ge 25, 3) := by decide +kernel
theorem dX7_counterCount_12 : decode cX7_counterCount 12 = .ok (.iload_n 1, 1) := by decide +kernel
theorem dX7_counterCount_13 : decode cX7_counterCount 13 = .ok (.aload_n 0, 1) := by decide +kernel
theorem dX7_counterCount_14 : decode cX7_counterCount 14 = .ok (.iload_n 2, 1) := by decide +kernel
theorem dX7_counterCount_15 : decode cX7_counterCount 15 = .ok (.invokevirtual 121, 3) := by decide +kernel
theorem dX7_counterCount_18 : decode cX7_counterCount 18 = .ok (.ifCond .eq 7, 3) := by decide +kernel
theorem dX7_counterCount_21 : decode cX7_counterCount 21 = .ok (.iconst 0, 1) := by decide +kernel
theorem dX7_counterCount_22 : decode cX7_counterCount 22 = .ok (.goto 4, 3) := by decide +kernel
theorem dX7_counterCount_25 : decode cX7_counterCount 25 = .ok (.iconst 1, 1) := by decide +kernel
theorem dX7_counterCount_26 : decode cX7_counterCount 26 = .ok (.iadd, 1) := by decide +kernel
theorem dX7_counterCount_27 : decode cX7_counterCount 27 = .ok (.istore_n 1, 1) := by decide +kernel
theorem dX7_counterCount_28 : decode cX7_counterCount 28 = .ok (.iinc 2 1, 3) := by decide +kernel
theorem dX7_counterCount_31 : decode cX7_counterCount 31 = .ok (.goto (-27), 3) := by decide +kernel
theorem dX7_counterCount_34 : decode cX7_counterCount 34 = .ok (.iload_n 1, 1) := by decide +kernel
theorem dX7_counterCount_35 : decode cX7_counterCount 35 = .ok (.ireturn, 1) := by decide +kernel
set_option maxRecDepth 20000 in
theorem ggX7_weightSum_X7_isTree : GoodIn wsX7_weightSum wsX7_isTree := goodIn_r _ [7, 2, 8, 9, 10, 11, 12, 13, 14, 15, 16, 17, 18, 19, 20, 21, 22, 23, 24, 25, 26] (by decide +kernel) (by decide +kernel)
set_option maxRecDepth 20000 in
theorem gX7_weightSum_X7_isTree : GoodIn wsX7_weightSum (wsV RX7 121 RX7 yX7_isTree wsX7_isTree) := goodIn_app (goodIn_of _ (by decide +kernel)) ggX7_weightSum_X7_isTree
end
section
theorem dX7_weightSum_0 : decode cX7_weightSum 0 = .ok (.iconst 0, 1) := by decide +kernel
theorem dX7_weightSum_1 : decode cX7_weightSum 1 = .ok (.istore_n 2, 1) := by decide +kernel
theorem dX7_weightSum_2 : decode cX7_weightSum 2 = .ok (.iconst 0, 1) := by decide +kernel
theorem dX7_weightSum_3 : decode cX7_weightSum 3 = .ok (.istore_n 3, 1) := by decide +kernel
theorem dX7_weightSum_4 : decode cX7_weightSum 4 = .ok (.iload_n 3, 1) := by decide +kernel
theorem dX7_weightSum_5 : decode cX7_weightSum 5 = .ok (.aload_n 0, 1) := by decide +kernel
theorem dX7_weightSum_6 : decode cX7_weightSum 6 = .ok (.getfield 95, 3) := by decide +kernel
theorem dX7_weightSum_9 : decode cX7_weightSum 9 = .ok (.if_icmp .ge 36, 3) := by decide +kernel
theorem dX7_weightSum_12 : decode cX7_weightSum 12 = .ok (.iload_n 2, 1) := by decide +kernel
theorem dX7_weightSum_13 : decode cX7_weightSum 13 = .ok (.iload_n 1, 1) := by decide +kernel
theorem dX7_weightSum_14 : decode cX7_weightSum 14 = .ok (.ifCond .ne 11, 3) := by decide +kernel
theorem dX7_weightSum_17 : decode cX7_weightSum 17 = .ok (.aload_n 0, 1) := by decide +kernel
theorem dX7_weightSum_18 : decode cX7_weightSum 18 = .ok (.iload_n 3, 1) := by decide +kernel
theorem dX7_weightSum_19 : decode cX7_weightSum 19 = .ok (.invokevirtual 121, 3) := by decide +kernel
theorem dX7_weightSum_22 : decode cX7_weightSum 22 = .ok (.ifCond .ne 14, 3) := by decide +kernel
theorem dX7_weightSum_25 : decode cX7_weightSum 25 = .ok (.aload_n 0, 1) := by decide +kernel
theorem dX7_weightSum_26 : decode cX7_weightSum 26 = .ok (.getfield 19, 3) := by decide +kernel
theorem dX7_weightSum_29 : decode cX7_weightSum 29 = .ok (.iconst 0, 1) := by decide +kernel
theorem dX7_weightSum_30 : decode cX7_weightSum 30 = .ok (.iload_n 3, 1) := by decide +kernel
theorem dX7_weightSum_31 : decode cX7_weightSum 31 = .ok (.iadd, 1) := by decide +kernel
theorem dX7_weightSum_32 : decode cX7_weightSum 32 = .ok (.iaload, 1) := by decide +kernel
theorem dX7_weightSum_33 : decode cX7_weightSum 33 = .ok (.goto 4, 3) := by decide +kernel
theorem dX7_weightSum_36 : decode cX7_weightSum 36 = .ok (.iconst 0, 1) := by decide +kernel
theorem dX7_weightSum_37 : decode cX7_weightSum 37 = .ok (.iadd, 1) := by decide +kernel
theorem dX7_weightSum_38 : decode cX7_weightSum 38 = .ok (.istore_n 2, 1) := by decide +kernel
theorem dX7_weightSum_39 : decode cX7_weightSum 39 = .ok (.iinc 3 1, 3) := by decide +kernel
theorem dX7_weightSum_42 : decode cX7_weightSum 42 = .ok (.goto (-38), 3) := by decide +kernel
theorem dX7_weightSum_45 : decode cX7_weightSum 45 = .ok (.iload_n 2, 1) := by decide +kernel
theorem dX7_weightSum_46 : decode cX7_weightSum 46 = .ok (.ireturn, 1) := by decide +kernel
set_option maxRecDepth 20000 in
theorem ggX7_placementCost_X7_weightSum : GoodIn wsX7_placementCost wsX7_weightSum := goodIn_r _ [5, 6, 7, 8, 9, 10, 4, 11, 12, 13, 14, 15, 16, 17, 18, 19, 20, 21, 22, 23, 24, 25, 26, 27, 28, 29, 30] (by decide +kernel) (by decide +kernel)
set_option maxRecDepth 20000 in
theorem gX7_placementCost_X7_weightSum : GoodIn wsX7_placementCost (wsV RX7 157 RX7 yX7_weightSum wsX7_weightSum) := goodIn_app (goodIn_of _ (by decide +kernel)) ggX7_placementCost_X7_weightSum
theorem dX7_placementCost_0 : decode cX7_placementCost 0 = .ok (.aload_n 0, 1) := by decide +kernel
theorem dX7_placementCost_1 : decode cX7_placementCost 1 = .ok (.iconst 0, 1) := by decide +kernel
theorem dX7_placementCost_2 : decode cX7_placementCost 2 = .ok (.invokevirtual 157, 3) := by decide +kernel
theorem dX7_placementCost_5 : decode cX7_placementCost 5 = .ok (.ireturn, 1) := by decide +kernel
set_option maxRecDepth 20000 in
theorem ggX7_costShareBits_X7_weightSum : GoodIn wsX7_costShareBits wsX7_weightSum := goodIn_r _ [5, 6, 7, 8, 9, 10, 4, 11, 24, 25, 26, 27, 28, 29, 30, 31, 32, 33, 34, 35, 36, 37, 38, 39, 40, 41, 42] (by decide +kernel) (by decide +kernel)
set_option maxRecDepth 20000 in
theorem gX7_costShareBits_X7_weightSum : GoodIn wsX7_costShareBits (wsV RX7 157 RX7 yX7_weightSum wsX7_weightSum) := goodIn_app (goodIn_of _ (by decide +kernel)) ggX7_costShareBits_X7_weightSum
set_option maxRecDepth 20000 in
theorem ggX7_costShareBits_Jxf58ca_floatToIntBits_5c35a : GoodIn wsX7_costShareBits wsJxf58ca_floatToIntBits_5c35a := goodIn_r _ [15, 16, 17, 18, 19, 20, 21, 22, 14, 23] (by decide +kernel) (by decide +kernel)
set_option maxRecDepth 20000 in
theorem gX7_costShareBits_Jxf58ca_floatToIntBits_5c35a : GoodIn wsX7_costShareBits (va_wsS RX7 161 yJxf58ca_floatToIntBits_5c35a wsJxf58ca_floatToIntBits_5c35a) := goodIn_app (goodIn_of _ (by decide +kernel)) ggX7_costShareBits_Jxf58ca_floatToIntBits_5c35a
theorem dX7_costShareBits_0 : decode cX7_costShareBits 0 = .ok (.aload_n 0, 1) := by decide +kernel
theorem dX7_costShareBits_1 : decode cX7_costShareBits 1 = .ok (.iconst 1, 1) := by decide +kernel
theorem dX7_costShareBits_2 : decode cX7_costShareBits 2 = .ok (.invokevirtual 157, 3) := by decide +kernel
theorem dX7_costShareBits_5 : decode cX7_costShareBits 5 = .ok (.istore_n 1, 1) := by decide +kernel
theorem dX7_costShareBits_6 : decode cX7_costShareBits 6 = .ok (.iload_n 1, 1) := by decide +kernel
theorem dX7_costShareBits_7 : decode cX7_costShareBits 7 = .ok (.ifCond .ne 8, 3) := by decide +kernel
theorem dX7_costShareBits_10 : decode cX7_costShareBits 10 = .ok (.bipush (-104), 2) := by decide +kernel
theorem dX7_costShareBits_12 : decode cX7_costShareBits 12 = .ok (.goto 15, 3) := by decide +kernel
theorem dX7_costShareBits_15 : decode cX7_costShareBits 15 = .ok (.aload_n 0, 1) := by decide +kernel
theorem dX7_costShareBits_16 : decode cX7_costShareBits 16 = .ok (.iconst 0, 1) := by decide +kernel
theorem dX7_costShareBits_17 : decode cX7_costShareBits 17 = .ok (.invokevirtual 157, 3) := by decide +kernel
theorem dX7_costShareBits_20 : decode cX7_costShareBits 20 = .ok (.i2f, 1) := by decide +kernel
theorem dX7_costShareBits_21 : decode cX7_costShareBits 21 = .ok (.iload_n 1, 1) := by decide +kernel
theorem dX7_costShareBits_22 : decode cX7_costShareBits 22 = .ok (.i2f, 1) := by decide +kernel
theorem dX7_costShareBits_23 : decode cX7_costShareBits 23 = .ok (.fdiv, 1) := by decide +kernel
theorem dX7_costShareBits_24 : decode cX7_costShareBits 24 = .ok (.invokestatic 161, 3) := by decide +kernel
theorem dX7_costShareBits_27 : decode cX7_costShareBits 27 = .ok (.ireturn, 1) := by decide +kernel
set_option maxRecDepth 20000 in
theorem ggX7_counter_X7_isEdge : GoodIn wsX7_counter wsX7_isEdge := goodIn_r _ [6, 7, 8, 9, 5, 10, 15, 16, 17, 18, 19, 20, 21, 22, 23, 24, 25, 26, 27, 28, 29, 30, 31, 32, 33] (by decide +kernel) (by decide +kernel)
set_option maxRecDepth 20000 in
theorem gX7_counter_X7_isEdge : GoodIn wsX7_counter (wsV RX7 115 RX7 yX7_isEdge wsX7_isEdge) := goodIn_app (goodIn_of _ (by decide +kernel)) ggX7_counter_X7_isEdge
set_option maxRecDepth 20000 in
theorem ggX7_counter_X7_isTree : GoodIn wsX7_counter wsX7_isTree := goodIn_r _ [14, 1, 15, 16, 17, 18, 19, 20, 21, 22, 23, 24, 25, 26, 27, 28, 29, 30, 31, 32, 33] (by decide +kernel) (by decide +kernel)
set_option maxRecDepth 20000 in
theorem gX7_counter_X7_isTree : GoodIn wsX7_counter (wsV RX7 121 RX7 yX7_isTree wsX7_isTree) := goodIn_app (goodIn_of _ (by decide +kernel)) ggX7_counter_X7_isTree
theorem dX7_counter_0 : decode cX7_counter 0 = .ok (.aload_n 0, 1) := by decide +kernel
theorem dX7_counter_1 : decode cX7_counter 1 = .ok (.iload_n 1, 1) := by decide +kernel
theorem dX7_counter_2 : decode cX7_counter 2 = .ok (.invokevirtual 115, 3) := by decide +kernel
theorem dX7_counter_5 : decode cX7_counter 5 = .ok (.ifCond .ne 8, 3) := by decide +kernel
theorem dX7_counter_8 : decode cX7_counter 8 = .ok (.bipush (-101), 2) := by decide +kernel
theorem dX7_counter_10 : decode cX7_counter 10 = .ok (.goto 25, 3) := by decide +kernel
theorem dX7_counter_13 : decode cX7_counter 13 = .ok (.aload_n 0, 1) := by decide +kernel
theorem dX7_counter_14 : decode cX7_counter 14 = .ok (.iload_n 1, 1) := by decide +kernel
theorem dX7_counter_15 : decode cX7_counter 15 = .ok (.invokevirtual 121, 3) := by decide +kernel
theorem dX7_counter_18 : decode cX7_counter 18 = .ok (.ifCond .eq 8, 3) := by decide +kernel
theorem dX7_counter_21 : decode cX7_counter 21 = .ok (.bipush (-104), 2) := by decide +kernel
theorem dX7_counter_23 : decode cX7_counter 23 = .ok (.goto 12, 3) := by decide +kernel
theorem dX7_counter_26 : decode cX7_counter 26 = .ok (.aload_n 0, 1) := by decide +kernel
theorem dX7_counter_27 : decode cX7_counter 27 = .ok (.getfield 19, 3) := by decide +kernel
theorem dX7_counter_30 : decode cX7_counter 30 = .ok (.bipush 40, 2) := by decide +kernel
theorem dX7_counter_32 : decode cX7_counter 32 = .ok (.iload_n 1, 1) := by decide +kernel
theorem dX7_counter_33 : decode cX7_counter 33 = .ok (.iadd, 1) := by decide +kernel
theorem dX7_counter_34 : decode cX7_counter 34 = .ok (.iaload, 1) := by decide +kernel
theorem dX7_counter_35 : decode cX7_counter 35 = .ok (.ireturn, 1) := by decide +kernel
set_option maxRecDepth 20000 in
theorem ggX7_trueCount_X7_isEdge : GoodIn wsX7_trueCount wsX7_isEdge := goodIn_r _ [6, 7, 8, 9, 5, 10, 11, 12, 13, 14, 15, 16, 17, 18, 19, 20, 21, 22, 23, 24, 25, 26, 27, 28, 29] (by decide +kernel) (by decide +kernel)
set_option maxRecDepth 20000 in
theorem gX7_trueCount_X7_isEdge : GoodIn wsX7_trueCount (wsV RX7 115 RX7 yX7_isEdge wsX7_isEdge) := goodIn_app (goodIn_of _ (by decide +kernel)) ggX7_trueCount_X7_isEdge
theorem dX7_trueCount_0 : decode cX7_trueCount 0 = .ok (.aload_n 0, 1) := by decide +kernel
theorem dX7_trueCount_1 : decode cX7_trueCount 1 = .ok (.iload_n 1, 1) := by decide +kernel
theorem dX7_trueCount_2 : decode cX7_trueCount 2 = .ok (.invokevirtual 115, 3) := by decide +kernel
theorem dX7_trueCount_5 : decode cX7_trueCount 5 = .ok (.ifCond .eq 15, 3) := by decide +kernel
theorem dX7_trueCount_8 : decode cX7_trueCount 8 = .ok (.aload_n 0, 1) := by decide +kernel
theorem dX7_trueCount_9 : decode cX7_trueCount 9 = .ok (.getfield 19, 3) := by decide +kernel
theorem dX7_trueCount_12 : decode cX7_trueCount 12 = .ok (.bipush 60, 2) := by decide +kernel
theorem dX7_trueCount_14 : decode cX7_trueCount 14 = .ok (.iload_n 1, 1) := by decide +kernel
theorem dX7_trueCount_15 : decode cX7_trueCount 15 = .ok (.iadd, 1) := by decide +kernel
theorem dX7_trueCount_16 : decode cX7_trueCount 16 = .ok (.iaload, 1) := by decide +kernel
theorem dX7_trueCount_17 : decode cX7_trueCount 17 = .ok (.goto 5, 3) := by decide +kernel
theorem dX7_trueCount_20 : decode cX7_trueCount 20 = .ok (.bipush (-101), 2) := by decide +kernel
theorem dX7_trueCount_22 : decode cX7_trueCount 22 = .ok (.ireturn, 1) := by decide +kernel
set_option maxRecDepth 20000 in
theorem ggX7_reconstruct_X7_isEdge : GoodIn wsX7_reconstruct wsX7_isEdge := goodIn_r _ [5, 6, 7, 8, 4, 9, 41, 42, 43, 44, 45, 46, 47, 48, 49, 50, 51, 52, 53, 54, 55, 56, 57, 58, 59] (by decide +kernel) (by decide +kernel)
set_option maxRecDepth 20000 in
theorem gX7_reconstruct_X7_isEdge : GoodIn wsX7_reconstruct (wsV RX7 115 RX7 yX7_isEdge wsX7_isEdge) := goodIn_app (goodIn_of _ (by decide +kernel)) ggX7_reconstruct_X7_isEdge
set_option maxRecDepth 20000 in
theorem ggX7_reconstruct_X7_isUncertain : GoodIn wsX7_reconstruct wsX7_isUncertain := goodIn_r _ [13, 6, 14, 15, 16, 4, 17, 18, 19, 20, 21, 22, 23, 24, 25, 26, 27, 28, 29, 30, 31, 32, 33, 34, 35, 36, 41, 42, 43, 44, 45, 46, 47, 48, 49, 50, 51, 52, 53, 54, 55, 56, 57, 58, 59] (by decide +kernel) (by decide +kernel)
set_option maxRecDepth 20000 in
theorem gX7_reconstruct_X7_isUncertain : GoodIn wsX7_reconstruct (wsV RX7 141 RX7 yX7_isUncertain wsX7_isUncertain) := goodIn_app (goodIn_of _ (by decide +kernel)) ggX7_reconstruct_X7_isUncertain
set_option maxRecDepth 20000 in
theorem ggX7_reconstruct_X7_countOf : GoodIn wsX7_reconstruct wsX7_countOf := goodIn_r _ [40, 18, 27, 33, 6, 28, 14, 15, 16, 4, 17, 29, 30, 31, 32, 34, 35, 36, 41, 42, 43, 44, 45, 46, 47, 48, 49, 50, 51, 52, 53, 54, 55, 56, 57, 58, 59] (by decide +kernel) (by decide +kernel)
set_option maxRecDepth 20000 in
theorem gX7_reconstruct_X7_countOf : GoodIn wsX7_reconstruct (wsV RX7 144 RX7 yX7_countOf wsX7_countOf) := goodIn_app (goodIn_of _ (by decide +kernel)) ggX7_reconstruct_X7_countOf
theorem dX7_reconstruct_0 : decode cX7_reconstruct 0 = .ok (.aload_n 0, 1) := by decide +kernel
theorem dX7_reconstruct_1 : decode cX7_reconstruct 1 = .ok (.iload_n 1, 1) := by decide +kernel
theorem dX7_reconstruct_2 : decode cX7_reconstruct 2 = .ok (.invokevirtual 115, 3) := by decide +kernel
theorem dX7_reconstruct_5 : decode cX7_reconstruct 5 = .ok (.ifCond .ne 8, 3) := by decide +kernel
theorem dX7_reconstruct_8 : decode cX7_reconstruct 8 = .ok (.bipush (-101), 2) := by decide +kernel
theorem dX7_reconstruct_10 : decode cX7_reconstruct 10 = .ok (.goto 21, 3) := by decide +kernel
theorem dX7_reconstruct_13 : decode cX7_reconstruct 13 = .ok (.aload_n 0, 1) := by decide +kernel
theorem dX7_reconstruct_14 : decode cX7_reconstruct 14 = .ok (.iload_n 1, 1) := by decide +kernel
theorem dX7_reconstruct_15 : decode cX7_reconstruct 15 = .ok (.invokevirtual 141, 3) := by decide +kernel
theorem dX7_reconstruct_18 : decode cX7_reconstruct 18 = .ok (.ifCond .eq 8, 3) := by decide +kernel
theorem dX7_reconstruct_21 : decode cX7_reconstruct 21 = .ok (.bipush (-105), 2) := by decide +kernel
theorem dX7_reconstruct_23 : decode cX7_reconstruct 23 = .ok (.goto 8, 3) := by decide +kernel
theorem dX7_reconstruct_26 : decode cX7_reconstruct 26 = .ok (.aload_n 0, 1) := by decide +kernel
theorem dX7_reconstruct_27 : decode cX7_reconstruct 27 = .ok (.iload_n 1, 1) := by decide +kernel
theorem dX7_reconstruct_28 : decode cX7_reconstruct 28 = .ok (.invokevirtual 144, 3) := by decide +kernel
theorem dX7_reconstruct_31 : decode cX7_reconstruct 31 = .ok (.ireturn, 1) := by decide +kernel
set_option maxRecDepth 20000 in
theorem ggX7_coefficient_X7_isEdge : GoodIn wsX7_coefficient wsX7_isEdge := goodIn_r _ [5, 6, 7, 8, 4, 9, 29, 30, 31, 32, 33, 34, 35, 36, 37, 38, 39, 40, 41, 42, 43, 44, 45, 46, 47] (by decide +kernel) (by decide +kernel)
set_option maxRecDepth 20000 in
theorem gX7_coefficient_X7_isEdge : GoodIn wsX7_coefficient (wsV RX7 115 RX7 yX7_isEdge wsX7_isEdge) := goodIn_app (goodIn_of _ (by decide +kernel)) ggX7_coefficient_X7_isEdge
set_option maxRecDepth 20000 in
theorem ggX7_coefficient_X7_isTree : GoodIn wsX7_coefficient wsX7_isTree := goodIn_r _ [13, 14, 29, 30, 31, 32, 33, 34, 35, 36, 37, 38, 39, 40, 41, 42, 43, 44, 45, 46, 47] (by decide +kernel) (by decide +kernel)
set_option maxRecDepth 20000 in
theorem gX7_coefficient_X7_isTree : GoodIn wsX7_coefficient (wsV RX7 121 RX7 yX7_isTree wsX7_isTree) := goodIn_app (goodIn_of _ (by decide +kernel)) ggX7_coefficient_X7_isTree
set_option maxRecDepth 20000 in
theorem ggX7_coefficient_X7_factorOf : GoodIn wsX7_coefficient wsX7_factorOf := goodIn_r _ [18, 19, 20, 21, 22, 23, 4, 24, 25, 6, 14, 26, 27, 28, 29, 30, 31, 32, 33, 34, 35, 36, 37, 38, 39, 40, 41, 42, 43, 44, 45, 46, 47] (by decide +kernel) (by decide +kernel)
set_option maxRecDepth 20000 in
theorem gX7_coefficient_X7_factorOf : GoodIn wsX7_coefficient (wsV RX7 154 RX7 yX7_factorOf wsX7_factorOf) := goodIn_app (goodIn_of _ (by decide +kernel)) ggX7_coefficient_X7_factorOf
theorem dX7_coefficient_0 : decode cX7_coefficient 0 = .ok (.aload_n 0, 1) := by decide +kernel
theorem dX7_coefficient_1 : decode cX7_coefficient 1 = .ok (.iload_n 1, 1) := by decide +kernel
theorem dX7_coefficient_2 : decode cX7_coefficient 2 = .ok (.invokevirtual 115, 3) := by decide +kernel
theorem dX7_coefficient_5 : decode cX7_coefficient 5 = .ok (.ifCond .eq 11, 3) := by decide +kernel
theorem dX7_coefficient_8 : decode cX7_coefficient 8 = .ok (.aload_n 0, 1) := by decide +kernel
theorem dX7_coefficient_9 : decode cX7_coefficient 9 = .ok (.iload_n 2, 1) := by decide +kernel
theorem dX7_coefficient_10 : decode cX7_coefficient 10 = .ok (.invokevirtual 115, 3) := by decide +kernel
theorem dX7_coefficient_13 : decode cX7_coefficient 13 = .ok (.ifCond .ne 6, 3) := by decide +kernel
theorem dX7_coefficient_16 : decode cX7_coefficient 16 = .ok (.bipush (-101), 2) := by decide +kernel
theorem dX7_coefficient_18 : decode cX7_coefficient 18 = .ok (.ireturn, 1) := by decide +kernel
theorem dX7_coefficient_19 : decode cX7_coefficient 19 = .ok (.aload_n 0, 1) := by decide +kernel
theorem dX7_coefficient_20 : decode cX7_coefficient 20 = .ok (.iload_n 1, 1) := by decide +kernel
theorem dX7_coefficient_21 : decode cX7_coefficient 21 = .ok (.invokevirtual 121, 3) := by decide +kernel
theorem dX7_coefficient_24 : decode cX7_coefficient 24 = .ok (.ifCond .eq 11, 3) := by decide +kernel
theorem dX7_coefficient_27 : decode cX7_coefficient 27 = .ok (.aload_n 0, 1) := by decide +kernel
theorem dX7_coefficient_28 : decode cX7_coefficient 28 = .ok (.iload_n 2, 1) := by decide +kernel
theorem dX7_coefficient_29 : decode cX7_coefficient 29 = .ok (.invokevirtual 121, 3) := by decide +kernel
theorem dX7_coefficient_32 : decode cX7_coefficient 32 = .ok (.ifCond .eq 8, 3) := by decide +kernel
theorem dX7_coefficient_35 : decode cX7_coefficient 35 = .ok (.bipush (-104), 2) := by decide +kernel
theorem dX7_coefficient_37 : decode cX7_coefficient 37 = .ok (.goto 9, 3) := by decide +kernel
theorem dX7_coefficient_40 : decode cX7_coefficient 40 = .ok (.aload_n 0, 1) := by decide +kernel
theorem dX7_coefficient_41 : decode cX7_coefficient 41 = .ok (.iload_n 1, 1) := by decide +kernel
theorem dX7_coefficient_42 : decode cX7_coefficient 42 = .ok (.iload_n 2, 1) := by decide +kernel
theorem dX7_coefficient_43 : decode cX7_coefficient 43 = .ok (.invokevirtual 154, 3) := by decide +kernel
theorem dX7_coefficient_46 : decode cX7_coefficient 46 = .ok (.ireturn, 1) := by decide +kernel
set_option maxRecDepth 20000 in
theorem ggX7_executions_X7_in : GoodIn wsX7_executions wsX7_in := goodIn_r _ [8] (by decide +kernel) (by decide +kernel)
set_option maxRecDepth 20000 in
theorem gX7_executions_X7_in : GoodIn wsX7_executions (va_wsS RX7 60 yX7_in wsX7_in) := goodIn_app (goodIn_of _ (by decide +kernel)) ggX7_executions_X7_in
set_option maxRecDepth 20000 in
theorem ggX7_executions_X7_isUncertain : GoodIn wsX7_executions wsX7_isUncertain := goodIn_r _ [12, 3, 13, 14, 15, 7, 16, 2, 17, 18, 19, 20, 21, 22, 23, 24, 4, 25, 26, 27, 28, 29, 1, 30, 31, 32, 37, 38, 39, 40, 41, 42, 43, 44, 45, 46, 47, 48, 49, 50, 51, 52, 53, 54, 55] (by decide +kernel) (by decide +kernel)
set_option maxRecDepth 20000 in
theorem gX7_executions_X7_isUncertain : GoodIn wsX7_executions (wsV RX7 141 RX7 yX7_isUncertain wsX7_isUncertain) := goodIn_app (goodIn_of _ (by decide +kernel)) ggX7_executions_X7_isUncertain
set_option maxRecDepth 20000 in
theorem ggX7_executions_X7_countOf : GoodIn wsX7_executions wsX7_countOf := goodIn_r _ [36, 2, 4, 1, 3, 25, 13, 14, 15, 7, 16, 26, 27, 28, 29, 30, 31, 32, 37, 38, 39, 40, 41, 42, 43, 44, 45, 46, 47, 48, 49, 50, 51, 52, 53, 54, 55] (by decide +kernel) (by decide +kernel)
set_option maxRecDepth 20000 in
theorem gX7_executions_X7_countOf : GoodIn wsX7_executions (wsV RX7 144 RX7 yX7_countOf wsX7_countOf) := goodIn_app (goodIn_of _ (by decide +kernel)) ggX7_executions_X7_countOf
theorem dX7_executions_0 : decode cX7_executions 0 = .ok (.iload_n 1, 1) := by decide +kernel
theorem dX7_executions_1 : decode cX7_executions 1 = .ok (.iconst 0, 1) := by decide +kernel
theorem dX7_executions_2 : decode cX7_executions 2 = .ok (.aload_n 0, 1) := by decide +kernel
theorem dX7_executions_3 : decode cX7_executions 3 = .ok (.getfield 92, 3) := by decide +kernel
theorem dX7_executions_6 : decode cX7_executions 6 = .ok (.iconst 1, 1) := by decide +kernel
theorem dX7_executions_7 : decode cX7_executions 7 = .ok (.isub, 1) := by decide +kernel
theorem dX7_executions_8 : decode cX7_executions 8 = .ok (.invokestatic 60, 3) := by decide +kernel
theorem dX7_executions_11 : decode cX7_executions 11 = .ok (.ifCond .ne 6, 3) := by decide +kernel
theorem dX7_executions_14 : decode cX7_executions 14 = .ok (.bipush (-101), 2) := by decide +kernel
theorem dX7_executions_16 : decode cX7_executions 16 = .ok (.ireturn, 1) := by decide +kernel
theorem dX7_executions_17 : decode cX7_executions 17 = .ok (.iload_n 1, 1) := by decide +kernel
theorem dX7_executions_18 : decode cX7_executions 18 = .ok (.ifCond .ne 27, 3) := by decide +kernel
theorem dX7_executions_21 : decode cX7_executions 21 = .ok (.aload_n 0, 1) := by decide +kernel
theorem dX7_executions_22 : decode cX7_executions 22 = .ok (.getfield 19, 3) := by decide +kernel
theorem dX7_executions_25 : decode cX7_executions 25 = .ok (.bipush 81, 2) := by decide +kernel
theorem dX7_executions_27 : decode cX7_executions 27 = .ok (.iaload, 1) := by decide +kernel
theorem dX7_executions_28 : decode cX7_executions 28 = .ok (.aload_n 0, 1) := by decide +kernel
theorem dX7_executions_29 : decode cX7_executions 29 = .ok (.getfield 19, 3) := by decide +kernel
theorem dX7_executions_32 : decode cX7_executions 32 = .ok (.bipush 82, 2) := by decide +kernel
theorem dX7_executions_34 : decode cX7_executions 34 = .ok (.iaload, 1) := by decide +kernel
theorem dX7_executions_35 : decode cX7_executions 35 = .ok (.ifCond .ne 7, 3) := by decide +kernel
theorem dX7_executions_38 : decode cX7_executions 38 = .ok (.iconst 0, 1) := by decide +kernel
theorem dX7_executions_39 : decode cX7_executions 39 = .ok (.goto 4, 3) := by decide +kernel
theorem dX7_executions_42 : decode cX7_executions 42 = .ok (.iconst 1, 1) := by decide +kernel
theorem dX7_executions_43 : decode cX7_executions 43 = .ok (.iadd, 1) := by decide +kernel
theorem dX7_executions_44 : decode cX7_executions 44 = .ok (.ireturn, 1) := by decide +kernel
theorem dX7_executions_45 : decode cX7_executions 45 = .ok (.iconst 0, 1) := by decide +kernel
theorem dX7_executions_46 : decode cX7_executions 46 = .ok (.istore_n 2, 1) := by decide +kernel
theorem dX7_executions_47 : decode cX7_executions 47 = .ok (.iconst 0, 1) := by decide +kernel
theorem dX7_executions_48 : decode cX7_executions 48 = .ok (.istore_n 3, 1) := by decide +kernel
theorem dX7_executions_49 : decode cX7_executions 49 = .ok (.iconst 0, 1) := by decide +kernel
theorem dX7_executions_50 : decode cX7_executions 50 = .ok (.istore 4, 2) := by decide +kernel
theorem dX7_executions_52 : decode cX7_executions 52 = .ok (.iload 4, 2) := by decide +kernel
theorem dX7_executions_54 : decode cX7_executions 54 = .ok (.aload_n 0, 1) := by decide +kernel
theorem dX7_executions_55 : decode cX7_executions 55 = .ok (.getfield 95, 3) := by decide +kernel
theorem dX7_executions_58 : decode cX7_executions 58 = .ok (.if_icmp .ge 48, 3) := by decide +kernel
theorem dX7_executions_61 : decode cX7_executions 61 = .ok (.aload_n 0, 1) := by decide +kernel
theorem dX7_executions_62 : decode cX7_executions 62 = .ok (.getfield 16, 3) := by decide +kernel
theorem dX7_executions_65 : decode cX7_executions 65 = .ok (.iload 4, 2) := by decide +kernel
theorem dX7_executions_67 : decode cX7_executions 67 = .ok (.iaload, 1) := by decide +kernel
theorem dX7_executions_68 : decode cX7_executions 68 = .ok (.iload_n 1, 1) := by decide +kernel
theorem dX7_executions_69 : decode cX7_executions 69 = .ok (.if_icmp .ne 31, 3) := by decide +kernel
theorem dX7_executions_72 : decode cX7_executions 72 = .ok (.iload_n 3, 1) := by decide +kernel
theorem dX7_executions_73 : decode cX7_executions 73 = .ok (.ifCond .ne 12, 3) := by decide +kernel
theorem dX7_executions_76 : decode cX7_executions 76 = .ok (.aload_n 0, 1) := by decide +kernel
theorem dX7_executions_77 : decode cX7_executions 77 = .ok (.iload 4, 2) := by decide +kernel
theorem dX7_executions_79 : decode cX7_executions 79 = .ok (.invokevirtual 141, 3) := by decide +kernel
theorem dX7_executions_82 : decode cX7_executions 82 = .ok (.ifCond .eq 7, 3) := by decide +kernel
theorem dX7_executions_85 : decode cX7_executions 85 = .ok (.iconst 1, 1) := by decide +kernel
theorem dX7_executions_86 : decode cX7_executions 86 = .ok (.goto 4, 3) := by decide +kernel
theorem dX7_executions_89 : decode cX7_executions 89 = .ok (.iconst 0, 1) := by decide +kernel
theorem dX7_executions_90 : decode cX7_executions 90 = .ok (.istore_n 3, 1) := by decide +kernel
theorem dX7_executions_91 : decode cX7_executions 91 = .ok (.iload_n 2, 1) := by decide +kernel
theorem dX7_executions_92 : decode cX7_executions 92 = .ok (.aload_n 0, 1) := by decide +kernel
theorem dX7_executions_93 : decode cX7_executions 93 = .ok (.iload 4, 2) := by decide +kernel
theorem dX7_executions_95 : decode cX7_executions 95 = .ok (.invokevirtual 144, 3) := by decide +kernel
theorem dX7_executions_98 : decode cX7_executions 98 = .ok (.iadd, 1) := by decide +kernel
theorem dX7_executions_99 : decode cX7_executions 99 = .ok (.istore_n 2, 1) := by decide +kernel
theorem dX7_executions_100 : decode cX7_executions 100 = .ok (.iinc 4 1, 3) := by decide +kernel
theorem dX7_executions_103 : decode cX7_executions 103 = .ok (.goto (-51), 3) := by decide +kernel
theorem dX7_executions_106 : decode cX7_executions 106 = .ok (.iload_n 3, 1) := by decide +kernel
theorem dX7_executions_107 : decode cX7_executions 107 = .ok (.ifCond .eq 8, 3) := by decide +kernel
theorem dX7_executions_110 : decode cX7_executions 110 = .ok (.bipush (-105), 2) := by decide +kernel
theorem dX7_executions_112 : decode cX7_executions 112 = .ok (.goto 4, 3) := by decide +kernel
theorem dX7_executions_115 : decode cX7_executions 115 = .ok (.iload_n 2, 1) := by decide +kernel
theorem dX7_executions_116 : decode cX7_executions 116 = .ok (.ireturn, 1) := by decide +kernel
set_option maxRecDepth 20000 in
theorem ggX7_dependents_X7_isEdge : GoodIn wsX7_dependents wsX7_isEdge := goodIn_r _ [6, 1, 7, 8, 5, 9, 29, 30, 31, 32, 33, 34, 35, 36, 37, 38, 39, 40, 41, 42, 43, 44, 45, 46, 47] (by decide +kernel) (by decide +kernel)
set_option maxRecDepth 20000 in
theorem gX7_dependents_X7_isEdge : GoodIn wsX7_dependents (wsV RX7 115 RX7 yX7_isEdge wsX7_isEdge) := goodIn_app (goodIn_of _ (by decide +kernel)) ggX7_dependents_X7_isEdge
set_option maxRecDepth 20000 in
theorem ggX7_dependents_X7_isTree : GoodIn wsX7_dependents wsX7_isTree := goodIn_r _ [13, 14, 29, 30, 31, 32, 33, 34, 35, 36, 37, 38, 39, 40, 41, 42, 43, 44, 45, 46, 47] (by decide +kernel) (by decide +kernel)
set_option maxRecDepth 20000 in
theorem gX7_dependents_X7_isTree : GoodIn wsX7_dependents (wsV RX7 121 RX7 yX7_isTree wsX7_isTree) := goodIn_app (goodIn_of _ (by decide +kernel)) ggX7_dependents_X7_isTree
set_option maxRecDepth 20000 in
theorem ggX7_dependents_X7_factorOf : GoodIn wsX7_dependents wsX7_factorOf := goodIn_r _ [18, 19, 20, 21, 22, 23, 5, 24, 25, 1, 14, 26, 27, 28, 29, 30, 31, 32, 33, 34, 35, 36, 37, 38, 39, 40, 41, 42, 43, 44, 45, 46, 47] (by decide +kernel) (by decide +kernel)
set_option maxRecDepth 20000 in
theorem gX7_dependents_X7_factorOf : GoodIn wsX7_dependents (wsV RX7 154 RX7 yX7_factorOf wsX7_factorOf) := goodIn_app (goodIn_of _ (by decide +kernel)) ggX7_dependents_X7_factorOf
theorem dX7_dependents_0 : decode cX7_dependents 0 = .ok (.aload_n 0, 1) := by decide +kernel
theorem dX7_dependents_1 : decode cX7_dependents 1 = .ok (.iload_n 1, 1) := by decide +kernel
theorem dX7_dependents_2 : decode cX7_dependents 2 = .ok (.invokevirtual 115, 3) := by decide +kernel
theorem dX7_dependents_5 : decode cX7_dependents 5 = .ok (.ifCond .ne 6, 3) := by decide +kernel
theorem dX7_dependents_8 : decode cX7_dependents 8 = .ok (.bipush (-101), 2) := by decide +kernel
theorem dX7_dependents_10 : decode cX7_dependents 10 = .ok (.ireturn, 1) := by decide +kernel
theorem dX7_dependents_11 : decode cX7_dependents 11 = .ok (.aload_n 0, 1) := by decide +kernel
theorem dX7_dependents_12 : decode cX7_dependents 12 = .ok (.iload_n 1, 1) := by decide +kernel
theorem dX7_dependents_13 : decode cX7_dependents 13 = .ok (.invokevirtual 121, 3) := by decide +kernel
theorem dX7_dependents_16 : decode cX7_dependents 16 = .ok (.ifCond .eq 6, 3) := by decide +kernel
theorem dX7_dependents_19 : decode cX7_dependents 19 = .ok (.bipush (-104), 2) := by decide +kernel
theorem dX7_dependents_21 : decode cX7_dependents 21 = .ok (.ireturn, 1) := by decide +kernel
theorem dX7_dependents_22 : decode cX7_dependents 22 = .ok (.iconst 1, 1) := by decide +kernel
theorem dX7_dependents_23 : decode cX7_dependents 23 = .ok (.istore_n 2, 1) := by decide +kernel
theorem dX7_dependents_24 : decode cX7_dependents 24 = .ok (.iconst 0, 1) := by decide +kernel
theorem dX7_dependents_25 : decode cX7_dependents 25 = .ok (.istore_n 3, 1) := by decide +kernel
theorem dX7_dependents_26 : decode cX7_dependents 26 = .ok (.iload_n 3, 1) := by decide +kernel
theorem dX7_dependents_27 : decode cX7_dependents 27 = .ok (.aload_n 0, 1) := by decide +kernel
theorem dX7_dependents_28 : decode cX7_dependents 28 = .ok (.getfield 95, 3) := by decide +kernel
theorem dX7_dependents_31 : decode cX7_dependents 31 = .ok (.if_icmp .ge 34, 3) := by decide +kernel
theorem dX7_dependents_34 : decode cX7_dependents 34 = .ok (.iload_n 2, 1) := by decide +kernel
theorem dX7_dependents_35 : decode cX7_dependents 35 = .ok (.aload_n 0, 1) := by decide +kernel
theorem dX7_dependents_36 : decode cX7_dependents 36 = .ok (.iload_n 3, 1) := by decide +kernel
theorem dX7_dependents_37 : decode cX7_dependents 37 = .ok (.invokevirtual 121, 3) := by decide +kernel
theorem dX7_dependents_40 : decode cX7_dependents 40 = .ok (.ifCond .eq 16, 3) := by decide +kernel
theorem dX7_dependents_43 : decode cX7_dependents 43 = .ok (.aload_n 0, 1) := by decide +kernel
theorem dX7_dependents_44 : decode cX7_dependents 44 = .ok (.iload_n 3, 1) := by decide +kernel
theorem dX7_dependents_45 : decode cX7_dependents 45 = .ok (.iload_n 1, 1) := by decide +kernel
theorem dX7_dependents_46 : decode cX7_dependents 46 = .ok (.invokevirtual 154, 3) := by decide +kernel
theorem dX7_dependents_49 : decode cX7_dependents 49 = .ok (.ifCond .eq 7, 3) := by decide +kernel
theorem dX7_dependents_52 : decode cX7_dependents 52 = .ok (.iconst 1, 1) := by decide +kernel
theorem dX7_dependents_53 : decode cX7_dependents 53 = .ok (.goto 4, 3) := by decide +kernel
theorem dX7_dependents_56 : decode cX7_dependents 56 = .ok (.iconst 0, 1) := by decide +kernel
theorem dX7_dependents_57 : decode cX7_dependents 57 = .ok (.iadd, 1) := by decide +kernel
theorem dX7_dependents_58 : decode cX7_dependents 58 = .ok (.istore_n 2, 1) := by decide +kernel
theorem dX7_dependents_59 : decode cX7_dependents 59 = .ok (.iinc 3 1, 3) := by decide +kernel
theorem dX7_dependents_62 : decode cX7_dependents 62 = .ok (.goto (-36), 3) := by decide +kernel
theorem dX7_dependents_65 : decode cX7_dependents 65 = .ok (.iload_n 2, 1) := by decide +kernel
theorem dX7_dependents_66 : decode cX7_dependents 66 = .ok (.ireturn, 1) := by decide +kernel
set_option maxRecDepth 20000 in
theorem ggX7_saturatedCount_X7_isSaturated : GoodIn wsX7_saturatedCount wsX7_isSaturated := goodIn_r _ [6, 7, 8, 9, 10, 5, 11, 12, 13, 14, 15, 16, 17, 18, 19, 20, 21, 22, 23, 24, 25, 26, 27, 28, 29, 30] (by decide +kernel) (by decide +kernel)
set_option maxRecDepth 20000 in
theorem gX7_saturatedCount_X7_isSaturated : GoodIn wsX7_saturatedCount (wsV RX7 151 RX7 yX7_isSaturated wsX7_isSaturated) := goodIn_app (goodIn_of _ (by decide +kernel)) ggX7_saturatedCount_X7_isSaturated
theorem dX7_saturatedCount_0 : decode cX7_saturatedCount 0 = .ok (.iconst 0, 1) := by decide +kernel
theorem dX7_saturatedCount_1 : decode cX7_saturatedCount 1 = .ok (.istore_n 1, 1) := by decide +kernel
theorem dX7_saturatedCount_2 : decode cX7_saturatedCount 2 = .ok (.iconst 0, 1) := by decide +kernel
theorem dX7_saturatedCount_3 : decode cX7_saturatedCount 3 = .ok (.istore_n 2, 1) := by decide +kernel
theorem dX7_saturatedCount_4 : decode cX7_saturatedCount 4 = .ok (.iload_n 2, 1) := by decide +kernel
theorem dX7_saturatedCount_5 : decode cX7_saturatedCount 5 = .ok (.aload_n 0, 1) := by decide +kernel
theorem dX7_saturatedCount_6 : decode cX7_saturatedCount 6 = .ok (.getfield 95, 3) := by decide +kernel
theorem dX7_saturatedCount_9 : decode cX7_saturatedCount 9 = .ok (.if_icmp .ge 25, 3) := by decide +kernel
theorem dX7_saturatedCount_12 : decode cX7_saturatedCount 12 = .ok (.iload_n 1, 1) := by decide +kernel
theorem dX7_saturatedCount_13 : decode cX7_saturatedCount 13 = .ok (.aload_n 0, 1) := by decide +kernel
theorem dX7_saturatedCount_14 : decode cX7_saturatedCount 14 = .ok (.iload_n 2, 1) := by decide +kernel
theorem dX7_saturatedCount_15 : decode cX7_saturatedCount 15 = .ok (.invokevirtual 151, 3) := by decide +kernel
theorem dX7_saturatedCount_18 : decode cX7_saturatedCount 18 = .ok (.ifCond .eq 7, 3) := by decide +kernel
theorem dX7_saturatedCount_21 : decode cX7_saturatedCount 21 = .ok (.iconst 1, 1) := by decide +kernel
theorem dX7_saturatedCount_22 : decode cX7_saturatedCount 22 = .ok (.goto 4, 3) := by decide +kernel
theorem dX7_saturatedCount_25 : decode cX7_saturatedCount 25 = .ok (.iconst 0, 1) := by decide +kernel
theorem dX7_saturatedCount_26 : decode cX7_saturatedCount 26 = .ok (.iadd, 1) := by decide +kernel
theorem dX7_saturatedCount_27 : decode cX7_saturatedCount 27 = .ok (.istore_n 1, 1) := by decide +kernel
theorem dX7_saturatedCount_28 : decode cX7_saturatedCount 28 = .ok (.iinc 2 1, 3) := by decide +kernel
theorem dX7_saturatedCount_31 : decode cX7_saturatedCount 31 = .ok (.goto (-27), 3) := by decide +kernel
theorem dX7_saturatedCount_34 : decode cX7_saturatedCount 34 = .ok (.iload_n 1, 1) := by decide +kernel
theorem dX7_saturatedCount_35 : decode cX7_saturatedCount 35 = .ok (.ireturn, 1) := by decide +kernel
theorem dX7_presentBlock_0 : decode cX7_presentBlock 0 = .ok (.aload_n 0, 1) := by decide +kernel
theorem dX7_presentBlock_1 : decode cX7_presentBlock 1 = .ok (.getfield 19, 3) := by decide +kernel
theorem dX7_presentBlock_4 : decode cX7_presentBlock 4 = .ok (.bipush 82, 2) := by decide +kernel
theorem dX7_presentBlock_6 : decode cX7_presentBlock 6 = .ok (.iaload, 1) := by decide +kernel
theorem dX7_presentBlock_7 : decode cX7_presentBlock 7 = .ok (.ireturn, 1) := by decide +kernel
theorem dX7_finishedRuns_0 : decode cX7_finishedRuns 0 = .ok (.aload_n 0, 1) := by decide +kernel
theorem dX7_finishedRuns_1 : decode cX7_finishedRuns 1 = .ok (.getfield 19, 3) := by decide +kernel
theorem dX7_finishedRuns_4 : decode cX7_finishedRuns 4 = .ok (.bipush 81, 2) := by decide +kernel
theorem dX7_finishedRuns_6 : decode cX7_finishedRuns 6 = .ok (.iaload, 1) := by decide +kernel
theorem dX7_finishedRuns_7 : decode cX7_finishedRuns 7 = .ok (.ireturn, 1) := by decide +kernel
theorem dJxf58ca_isNaN_12338_0 : decode cJxf58ca_isNaN_12338 0 = .ok (.fload_n 0, 1) := by decide +kernel
theorem dJxf58ca_isNaN_12338_1 : decode cJxf58ca_isNaN_12338 1 = .ok (.fload_n 0, 1) := by decide +kernel
theorem dJxf58ca_isNaN_12338_2 : decode cJxf58ca_isNaN_12338 2 = .ok (.fcmp .l, 1) := by decide +kernel
theorem dJxf58ca_isNaN_12338_3 : decode cJxf58ca_isNaN_12338 3 = .ok (.ifCond .eq 7, 3) := by decide +kernel
theorem dJxf58ca_isNaN_12338_6 : decode cJxf58ca_isNaN_12338 6 = .ok (.iconst 1, 1) := by decide +kernel
theorem dJxf58ca_isNaN_12338_7 : decode cJxf58ca_isNaN_12338 7 = .ok (.goto 4, 3) := by decide +kernel
theorem dJxf58ca_isNaN_12338_10 : decode cJxf58ca_isNaN_12338 10 = .ok (.iconst 0, 1) := by decide +kernel
theorem dJxf58ca_isNaN_12338_11 : decode cJxf58ca_isNaN_12338 11 = .ok (.ireturn, 1) := by decide +kernel
set_option maxRecDepth 20000 in
theorem ggJxf58ca_floatToIntBits_5c35a_Jxf58ca_isNaN_12338 : GoodIn wsJxf58ca_floatToIntBits_5c35a wsJxf58ca_isNaN_12338 := goodIn_r _ [9] (by decide +kernel) (by decide +kernel)
set_option maxRecDepth 20000 in
theorem gJxf58ca_floatToIntBits_5c35a_Jxf58ca_isNaN_12338 : GoodIn wsJxf58ca_floatToIntBits_5c35a (va_wsS RJxf58ca 59 yJxf58ca_isNaN_12338 wsJxf58ca_isNaN_12338) := goodIn_app (goodIn_of _ (by decide +kernel)) ggJxf58ca_floatToIntBits_5c35a_Jxf58ca_isNaN_12338
theorem dJxf58ca_floatToIntBits_5c35a_0 : decode cJxf58ca_floatToIntBits_5c35a 0 = .ok (.fload_n 0, 1) := by decide +kernel
theorem dJxf58ca_floatToIntBits_5c35a_1 : decode cJxf58ca_floatToIntBits_5c35a 1 = .ok (.invokestatic 59, 3) := by decide +kernel
theorem dJxf58ca_floatToIntBits_5c35a_4 : decode cJxf58ca_floatToIntBits_5c35a 4 = .ok (.ifCond .ne 8, 3) := by decide +kernel
theorem dJxf58ca_floatToIntBits_5c35a_7 : decode cJxf58ca_floatToIntBits_5c35a 7 = .ok (.fload_n 0, 1) := by decide +kernel
theorem dJxf58ca_floatToIntBits_5c35a_8 : decode cJxf58ca_floatToIntBits_5c35a 8 = .ok (.invokestatic 74, 3) := by decide +kernel
theorem dJxf58ca_floatToIntBits_5c35a_11 : decode cJxf58ca_floatToIntBits_5c35a 11 = .ok (.ireturn, 1) := by decide +kernel
theorem dJxf58ca_floatToIntBits_5c35a_12 : decode cJxf58ca_floatToIntBits_5c35a 12 = .ok (.ldc 77, 2) := by decide +kernel
theorem dJxf58ca_floatToIntBits_5c35a_14 : decode cJxf58ca_floatToIntBits_5c35a 14 = .ok (.ireturn, 1) := by decide +kernel
theorem dJ9_min_7cf53_0 : decode cJ9_min_7cf53 0 = .ok (.iload_n 0, 1) := by decide +kernel
theorem dJ9_min_7cf53_1 : decode cJ9_min_7cf53 1 = .ok (.iload_n 1, 1) := by decide +kernel
theorem dJ9_min_7cf53_2 : decode cJ9_min_7cf53 2 = .ok (.if_icmp .gt 7, 3) := by decide +kernel
theorem dJ9_min_7cf53_5 : decode cJ9_min_7cf53 5 = .ok (.iload_n 0, 1) := by decide +kernel
theorem dJ9_min_7cf53_6 : decode cJ9_min_7cf53 6 = .ok (.goto 4, 3) := by decide +kernel
theorem dJ9_min_7cf53_9 : decode cJ9_min_7cf53 9 = .ok (.iload_n 1, 1) := by decide +kernel
theorem dJ9_min_7cf53_10 : decode cJ9_min_7cf53 10 = .ok (.ireturn, 1) := by decide +kernel
set_option maxRecDepth 20000 in
theorem ggJ0_length_8abf5_J0_coder_7d493 : GoodIn wsJ0_length_8abf5 wsJ0_coder_7d493 := goodIn_r _ [6, 7, 8] (by decide +kernel) (by decide +kernel)
set_option maxRecDepth 20000 in
theorem gJ0_length_8abf5_J0_coder_7d493 : GoodIn wsJ0_length_8abf5 (wsV RJ0 335 RJ0 yJ0_coder_7d493 wsJ0_coder_7d493) := goodIn_app (goodIn_of _ (by decide +kernel)) ggJ0_length_8abf5_J0_coder_7d493
theorem dJ0_length_8abf5_0 : decode cJ0_length_8abf5 0 = .ok (.aload_n 0, 1) := by decide +kernel
theorem dJ0_length_8abf5_1 : decode cJ0_length_8abf5 1 = .ok (.getfield 9, 3) := by decide +kernel
theorem dJ0_length_8abf5_4 : decode cJ0_length_8abf5 4 = .ok (.arraylength, 1) := by decide +kernel
theorem dJ0_length_8abf5_5 : decode cJ0_length_8abf5 5 = .ok (.aload_n 0, 1) := by decide +kernel
theorem dJ0_length_8abf5_6 : decode cJ0_length_8abf5 6 = .ok (.invokevirtual 335, 3) := by decide +kernel
theorem dJ0_length_8abf5_9 : decode cJ0_length_8abf5 9 = .ok (.ishr, 1) := by decide +kernel
theorem dJ0_length_8abf5_10 : decode cJ0_length_8abf5 10 = .ok (.ireturn, 1) := by decide +kernel
set_option maxRecDepth 20000 in
theorem ggJ0_charAt_5068e_J0_isLatin1_aae02 : GoodIn wsJ0_charAt_5068e wsJ0_isLatin1_aae02 := goodIn_r _ [6, 7, 8] (by decide +kernel) (by decide +kernel)
set_option maxRecDepth 20000 in
theorem gJ0_charAt_5068e_J0_isLatin1_aae02 : GoodIn wsJ0_charAt_5068e (wsV RJ0 492 RJ0 yJ0_isLatin1_aae02 wsJ0_isLatin1_aae02) := goodIn_app (goodIn_of _ (by decide +kernel)) ggJ0_charAt_5068e_J0_isLatin1_aae02
set_option maxRecDepth 20000 in
theorem ggJ0_charAt_5068e_J1_charAt_3b067 : GoodIn wsJ0_charAt_5068e wsJ1_charAt_3b067 := goodIn_r _ [12, 13, 14, 5, 15, 16, 17, 18, 19, 20] (by decide +kernel) (by decide +kernel)
set_option maxRecDepth 20000 in
theorem gJ0_charAt_5068e_J1_charAt_3b067 : GoodIn wsJ0_charAt_5068e (va_wsS RJ0 495 yJ1_charAt_3b067 wsJ1_charAt_3b067) := goodIn_app (goodIn_of _ (by decide +kernel)) ggJ0_charAt_5068e_J1_charAt_3b067
set_option maxRecDepth 20000 in
theorem ggJ0_charAt_5068e_J2_charAt_3b067 : GoodIn wsJ0_charAt_5068e wsJ2_charAt_3b067 := goodIn_r _ [24, 25, 26, 23, 27, 28, 29, 30, 31, 14, 5, 15, 16, 17, 18, 19, 20, 32, 33, 34, 35, 36, 37] (by decide +kernel) (by decide +kernel)
set_option maxRecDepth 20000 in
theorem gJ0_charAt_5068e_J2_charAt_3b067 : GoodIn wsJ0_charAt_5068e (va_wsS RJ0 498 yJ2_charAt_3b067 wsJ2_charAt_3b067) := goodIn_app (goodIn_of _ (by decide +kernel)) ggJ0_charAt_5068e_J2_charAt_3b067
theorem dJ0_charAt_5068e_0 : decode cJ0_charAt_5068e 0 = .ok (.aload_n 0, 1) := by decide +kernel
theorem dJ0_charAt_5068e_1 : decode cJ0_charAt_5068e 1 = .ok (.invokevirtual 492, 3) := by decide +kernel
theorem dJ0_charAt_5068e_4 : decode cJ0_charAt_5068e 4 = .ok (.ifCond .eq 12, 3) := by decide +kernel
theorem dJ0_charAt_5068e_7 : decode cJ0_charAt_5068e 7 = .ok (.aload_n 0, 1) := by decide +kernel
theorem dJ0_charAt_5068e_8 : decode cJ0_charAt_5068e 8 = .ok (.getfield 9, 3) := by decide +kernel
theorem dJ0_charAt_5068e_11 : decode cJ0_charAt_5068e 11 = .ok (.iload_n 1, 1) := by decide +kernel
theorem dJ0_charAt_5068e_12 : decode cJ0_charAt_5068e 12 = .ok (.invokestatic 495, 3) := by decide +kernel
theorem dJ0_charAt_5068e_15 : decode cJ0_charAt_5068e 15 = .ok (.ireturn, 1) := by decide +kernel
theorem dJ0_charAt_5068e_16 : decode cJ0_charAt_5068e 16 = .ok (.aload_n 0, 1) := by decide +kernel
theorem dJ0_charAt_5068e_17 : decode cJ0_charAt_5068e 17 = .ok (.getfield 9, 3) := by decide +kernel
theorem dJ0_charAt_5068e_20 : decode cJ0_charAt_5068e 20 = .ok (.iload_n 1, 1) := by decide +kernel
theorem dJ0_charAt_5068e_21 : decode cJ0_charAt_5068e 21 = .ok (.invokestatic 498, 3) := by decide +kernel
theorem dJ0_charAt_5068e_24 : decode cJ0_charAt_5068e 24 = .ok (.ireturn, 1) := by decide +kernel
theorem dJ0_coder_7d493_0 : decode cJ0_coder_7d493 0 = .ok (.getstatic 38, 3) := by decide +kernel
theorem dJ0_coder_7d493_3 : decode cJ0_coder_7d493 3 = .ok (.ifCond .eq 10, 3) := by decide +kernel
theorem dJ0_coder_7d493_6 : decode cJ0_coder_7d493 6 = .ok (.aload_n 0, 1) := by decide +kernel
theorem dJ0_coder_7d493_7 : decode cJ0_coder_7d493 7 = .ok (.getfield 15, 3) := by decide +kernel
theorem dJ0_coder_7d493_10 : decode cJ0_coder_7d493 10 = .ok (.goto 4, 3) := by decide +kernel
theorem dJ0_coder_7d493_13 : decode cJ0_coder_7d493 13 = .ok (.iconst 1, 1) := by decide +kernel
theorem dJ0_coder_7d493_14 : decode cJ0_coder_7d493 14 = .ok (.ireturn, 1) := by decide +kernel
theorem dJ0_isLatin1_aae02_0 : decode cJ0_isLatin1_aae02 0 = .ok (.getstatic 38, 3) := by decide +kernel
theorem dJ0_isLatin1_aae02_3 : decode cJ0_isLatin1_aae02 3 = .ok (.ifCond .eq 14, 3) := by decide +kernel
theorem dJ0_isLatin1_aae02_6 : decode cJ0_isLatin1_aae02 6 = .ok (.aload_n 0, 1) := by decide +kernel
theorem dJ0_isLatin1_aae02_7 : decode cJ0_isLatin1_aae02 7 = .ok (.getfield 15, 3) := by decide +kernel
theorem dJ0_isLatin1_aae02_10 : decode cJ0_isLatin1_aae02 10 = .ok (.ifCond .ne 7, 3) := by decide +kernel
theorem dJ0_isLatin1_aae02_13 : decode cJ0_isLatin1_aae02 13 = .ok (.iconst 1, 1) := by decide +kernel
theorem dJ0_isLatin1_aae02_14 : decode cJ0_isLatin1_aae02 14 = .ok (.goto 4, 3) := by decide +kernel
theorem dJ0_isLatin1_aae02_17 : decode cJ0_isLatin1_aae02 17 = .ok (.iconst 0, 1) := by decide +kernel
theorem dJ0_isLatin1_aae02_18 : decode cJ0_isLatin1_aae02 18 = .ok (.ireturn, 1) := by decide +kernel
set_option maxRecDepth 20000 in
theorem ggJ0_checkIndex_df160_J3_checkIndex_8e157 : GoodIn wsJ0_checkIndex_df160 wsJ3_checkIndex_8e157 := goodIn_r _ [5] (by decide +kernel) (by decide +kernel)
set_option maxRecDepth 20000 in
theorem gJ0_checkIndex_df160_J3_checkIndex_8e157 : GoodIn wsJ0_checkIndex_df160 (va_wsS RJ0 1059 yJ3_checkIndex_8e157 wsJ3_checkIndex_8e157) := goodIn_app (goodIn_of _ (by decide +kernel)) ggJ0_checkIndex_df160_J3_checkIndex_8e157
theorem dJ0_checkIndex_df160_0 : decode cJ0_checkIndex_df160 0 = .ok (.iload_n 0, 1) := by decide +kernel
theorem dJ0_checkIndex_df160_1 : decode cJ0_checkIndex_df160 1 = .ok (.iload_n 1, 1) := by decide +kernel
theorem dJ0_checkIndex_df160_2 : decode cJ0_checkIndex_df160 2 = .ok (.getstatic 1053, 3) := by decide +kernel
theorem dJ0_checkIndex_df160_5 : decode cJ0_checkIndex_df160 5 = .ok (.invokestatic 1059, 3) := by decide +kernel
theorem dJ0_checkIndex_df160_8 : decode cJ0_checkIndex_df160 8 = .ok (.pop, 1) := by decide +kernel
theorem dJ0_checkIndex_df160_9 : decode cJ0_checkIndex_df160 9 = .ok (.return_, 1) := by decide +kernel
set_option maxRecDepth 20000 in
theorem ggJ1_charAt_3b067_J0_checkIndex_df160 : GoodIn wsJ1_charAt_3b067 wsJ0_checkIndex_df160 := goodIn_r _ [4, 5, 6, 7, 8, 9] (by decide +kernel) (by decide +kernel)
set_option maxRecDepth 20000 in
theorem gJ1_charAt_3b067_J0_checkIndex_df160 : GoodIn wsJ1_charAt_3b067 (va_wsS RJ1 9 yJ0_checkIndex_df160 wsJ0_checkIndex_df160) := goodIn_app (goodIn_of _ (by decide +kernel)) ggJ1_charAt_3b067_J0_checkIndex_df160
theorem dJ1_charAt_3b067_0 : decode cJ1_charAt_3b067 0 = .ok (.iload_n 1, 1) := by decide +kernel
theorem dJ1_charAt_3b067_1 : decode cJ1_charAt_3b067 1 = .ok (.aload_n 0, 1) := by decide +kernel
theorem dJ1_charAt_3b067_2 : decode cJ1_charAt_3b067 2 = .ok (.arraylength, 1) := by decide +kernel
theorem dJ1_charAt_3b067_3 : decode cJ1_charAt_3b067 3 = .ok (.invokestatic 9, 3) := by decide +kernel
theorem dJ1_charAt_3b067_6 : decode cJ1_charAt_3b067 6 = .ok (.aload_n 0, 1) := by decide +kernel
theorem dJ1_charAt_3b067_7 : decode cJ1_charAt_3b067 7 = .ok (.iload_n 1, 1) := by decide +kernel
theorem dJ1_charAt_3b067_8 : decode cJ1_charAt_3b067 8 = .ok (.baload, 1) := by decide +kernel
theorem dJ1_charAt_3b067_9 : decode cJ1_charAt_3b067 9 = .ok (.sipush 255, 3) := by decide +kernel
theorem dJ1_charAt_3b067_12 : decode cJ1_charAt_3b067 12 = .ok (.iand, 1) := by decide +kernel
theorem dJ1_charAt_3b067_13 : decode cJ1_charAt_3b067 13 = .ok (.i2c, 1) := by decide +kernel
theorem dJ1_charAt_3b067_14 : decode cJ1_charAt_3b067 14 = .ok (.ireturn, 1) := by decide +kernel
set_option maxRecDepth 20000 in
theorem ggJ2_getChar_3b067_J2_length_9d52b : GoodIn wsJ2_getChar_3b067 wsJ2_length_9d52b := goodIn_r _ [7] (by decide +kernel) (by decide +kernel)
set_option maxRecDepth 20000 in
theorem gJ2_getChar_3b067_J2_length_9d52b : GoodIn wsJ2_getChar_3b067 (va_wsS RJ2 48 yJ2_length_9d52b wsJ2_length_9d52b) := goodIn_app (goodIn_of _ (by decide +kernel)) ggJ2_getChar_3b067_J2_length_9d52b
theorem dJ2_getChar_3b067_0 : decode cJ2_getChar_3b067 0 = .ok (.getstatic 44, 3) := by decide +kernel
theorem dJ2_getChar_3b067_3 : decode cJ2_getChar_3b067 3 = .ok (.ifCond .ne 25, 3) := by decide +kernel
theorem dJ2_getChar_3b067_6 : decode cJ2_getChar_3b067 6 = .ok (.iload_n 1, 1) := by decide +kernel
theorem dJ2_getChar_3b067_7 : decode cJ2_getChar_3b067 7 = .ok (.ifCond .lt 11, 3) := by decide +kernel
theorem dJ2_getChar_3b067_10 : decode cJ2_getChar_3b067 10 = .ok (.iload_n 1, 1) := by decide +kernel
theorem dJ2_getChar_3b067_11 : decode cJ2_getChar_3b067 11 = .ok (.aload_n 0, 1) := by decide +kernel
theorem dJ2_getChar_3b067_12 : decode cJ2_getChar_3b067 12 = .ok (.invokestatic 48, 3) := by decide +kernel
theorem dJ2_getChar_3b067_15 : decode cJ2_getChar_3b067 15 = .ok (.if_icmp .lt 13, 3) := by decide +kernel
theorem dJ2_getChar_3b067_18 : decode cJ2_getChar_3b067 18 = .ok (.new 52, 3) := by decide +kernel
theorem dJ2_getChar_3b067_21 : decode cJ2_getChar_3b067 21 = .ok (.dup, 1) := by decide +kernel
theorem dJ2_getChar_3b067_22 : decode cJ2_getChar_3b067 22 = .ok (.ldc 54, 2) := by decide +kernel
theorem dJ2_getChar_3b067_24 : decode cJ2_getChar_3b067 24 = .ok (.invokespecial 56, 3) := by decide +kernel
theorem dJ2_getChar_3b067_27 : decode cJ2_getChar_3b067 27 = .ok (.athrow, 1) := by decide +kernel
theorem dJ2_getChar_3b067_28 : decode cJ2_getChar_3b067 28 = .ok (.iload_n 1, 1) := by decide +kernel
theorem dJ2_getChar_3b067_29 : decode cJ2_getChar_3b067 29 = .ok (.iconst 1, 1) := by decide +kernel
theorem dJ2_getChar_3b067_30 : decode cJ2_getChar_3b067 30 = .ok (.ishl, 1) := by decide +kernel
theorem dJ2_getChar_3b067_31 : decode cJ2_getChar_3b067 31 = .ok (.istore_n 1, 1) := by decide +kernel
theorem dJ2_getChar_3b067_32 : decode cJ2_getChar_3b067 32 = .ok (.aload_n 0, 1) := by decide +kernel
theorem dJ2_getChar_3b067_33 : decode cJ2_getChar_3b067 33 = .ok (.iload_n 1, 1) := by decide +kernel
theorem dJ2_getChar_3b067_34 : decode cJ2_getChar_3b067 34 = .ok (.iinc 1 1, 3) := by decide +kernel
theorem dJ2_getChar_3b067_37 : decode cJ2_getChar_3b067 37 = .ok (.baload, 1) := by decide +kernel
theorem dJ2_getChar_3b067_38 : decode cJ2_getChar_3b067 38 = .ok (.sipush 255, 3) := by decide +kernel
theorem dJ2_getChar_3b067_41 : decode cJ2_getChar_3b067 41 = .ok (.iand, 1) := by decide +kernel
theorem dJ2_getChar_3b067_42 : decode cJ2_getChar_3b067 42 = .ok (.getstatic 59, 3) := by decide +kernel
theorem dJ2_getChar_3b067_45 : decode cJ2_getChar_3b067 45 = .ok (.ishl, 1) := by decide +kernel
theorem dJ2_getChar_3b067_46 : decode cJ2_getChar_3b067 46 = .ok (.aload_n 0, 1) := by decide +kernel
theorem dJ2_getChar_3b067_47 : decode cJ2_getChar_3b067 47 = .ok (.iload_n 1, 1) := by decide +kernel
theorem dJ2_getChar_3b067_48 : decode cJ2_getChar_3b067 48 = .ok (.baload, 1) := by decide +kernel
theorem dJ2_getChar_3b067_49 : decode cJ2_getChar_3b067 49 = .ok (.sipush 255, 3) := by decide +kernel
theorem dJ2_getChar_3b067_52 : decode cJ2_getChar_3b067 52 = .ok (.iand, 1) := by decide +kernel
theorem dJ2_getChar_3b067_53 : decode cJ2_getChar_3b067 53 = .ok (.getstatic 63, 3) := by decide +kernel
theorem dJ2_getChar_3b067_56 : decode cJ2_getChar_3b067 56 = .ok (.ishl, 1) := by decide +kernel
theorem dJ2_getChar_3b067_57 : decode cJ2_getChar_3b067 57 = .ok (.ior, 1) := by decide +kernel
theorem dJ2_getChar_3b067_58 : decode cJ2_getChar_3b067 58 = .ok (.i2c, 1) := by decide +kernel
theorem dJ2_getChar_3b067_59 : decode cJ2_getChar_3b067 59 = .ok (.ireturn, 1) := by decide +kernel
theorem dJ2_length_9d52b_0 : decode cJ2_length_9d52b 0 = .ok (.aload_n 0, 1) := by decide +kernel
theorem dJ2_length_9d52b_1 : decode cJ2_length_9d52b 1 = .ok (.arraylength, 1) := by decide +kernel
theorem dJ2_length_9d52b_2 : decode cJ2_length_9d52b 2 = .ok (.iconst 1, 1) := by decide +kernel
theorem dJ2_length_9d52b_3 : decode cJ2_length_9d52b 3 = .ok (.ishr, 1) := by decide +kernel
theorem dJ2_length_9d52b_4 : decode cJ2_length_9d52b 4 = .ok (.ireturn, 1) := by decide +kernel
set_option maxRecDepth 20000 in
theorem ggJ2_charAt_3b067_J2_checkIndex_2214a : GoodIn wsJ2_charAt_3b067 wsJ2_checkIndex_2214a := goodIn_r _ [4, 5, 6, 3, 7, 8, 9, 10, 11, 12, 13, 14, 15, 16] (by decide +kernel) (by decide +kernel)
set_option maxRecDepth 20000 in
theorem gJ2_charAt_3b067_J2_checkIndex_2214a : GoodIn wsJ2_charAt_3b067 (va_wsS RJ2 67 yJ2_checkIndex_2214a wsJ2_checkIndex_2214a) := goodIn_app (goodIn_of _ (by decide +kernel)) ggJ2_charAt_3b067_J2_checkIndex_2214a
set_option maxRecDepth 20000 in
theorem ggJ2_charAt_3b067_J2_getChar_3b067 : GoodIn wsJ2_charAt_3b067 wsJ2_getChar_3b067 := goodIn_r _ [19, 20, 21, 22, 5, 6, 3, 7] (by decide +kernel) (by decide +kernel)
set_option maxRecDepth 20000 in
theorem gJ2_charAt_3b067_J2_getChar_3b067 : GoodIn wsJ2_charAt_3b067 (va_wsS RJ2 71 yJ2_getChar_3b067 wsJ2_getChar_3b067) := goodIn_app (goodIn_of _ (by decide +kernel)) ggJ2_charAt_3b067_J2_getChar_3b067
theorem dJ2_charAt_3b067_0 : decode cJ2_charAt_3b067 0 = .ok (.iload_n 1, 1) := by decide +kernel
theorem dJ2_charAt_3b067_1 : decode cJ2_charAt_3b067 1 = .ok (.aload_n 0, 1) := by decide +kernel
theorem dJ2_charAt_3b067_2 : decode cJ2_charAt_3b067 2 = .ok (.invokestatic 67, 3) := by decide +kernel
theorem dJ2_charAt_3b067_5 : decode cJ2_charAt_3b067 5 = .ok (.aload_n 0, 1) := by decide +kernel
theorem dJ2_charAt_3b067_6 : decode cJ2_charAt_3b067 6 = .ok (.iload_n 1, 1) := by decide +kernel
theorem dJ2_charAt_3b067_7 : decode cJ2_charAt_3b067 7 = .ok (.invokestatic 71, 3) := by decide +kernel
theorem dJ2_charAt_3b067_10 : decode cJ2_charAt_3b067 10 = .ok (.ireturn, 1) := by decide +kernel
set_option maxRecDepth 20000 in
theorem ggJ2_checkIndex_2214a_J2_length_9d52b : GoodIn wsJ2_checkIndex_2214a wsJ2_length_9d52b := goodIn_r _ [4] (by decide +kernel) (by decide +kernel)
set_option maxRecDepth 20000 in
theorem gJ2_checkIndex_2214a_J2_length_9d52b : GoodIn wsJ2_checkIndex_2214a (va_wsS RJ2 48 yJ2_length_9d52b wsJ2_length_9d52b) := goodIn_app (goodIn_of _ (by decide +kernel)) ggJ2_checkIndex_2214a_J2_length_9d52b
set_option maxRecDepth 20000 in
theorem ggJ2_checkIndex_2214a_J0_checkIndex_df160 : GoodIn wsJ2_checkIndex_2214a wsJ0_checkIndex_df160 := goodIn_r _ [8, 9, 10, 11, 12, 13] (by decide +kernel) (by decide +kernel)
set_option maxRecDepth 20000 in
theorem gJ2_checkIndex_2214a_J0_checkIndex_df160 : GoodIn wsJ2_checkIndex_2214a (va_wsS RJ2 414 yJ0_checkIndex_df160 wsJ0_checkIndex_df160) := goodIn_app (goodIn_of _ (by decide +kernel)) ggJ2_checkIndex_2214a_J0_checkIndex_df160
theorem dJ2_checkIndex_2214a_0 : decode cJ2_checkIndex_2214a 0 = .ok (.iload_n 0, 1) := by decide +kernel
theorem dJ2_checkIndex_2214a_1 : decode cJ2_checkIndex_2214a 1 = .ok (.aload_n 1, 1) := by decide +kernel
theorem dJ2_checkIndex_2214a_2 : decode cJ2_checkIndex_2214a 2 = .ok (.invokestatic 48, 3) := by decide +kernel
theorem dJ2_checkIndex_2214a_5 : decode cJ2_checkIndex_2214a 5 = .ok (.invokestatic 414, 3) := by decide +kernel
theorem dJ2_checkIndex_2214a_8 : decode cJ2_checkIndex_2214a 8 = .ok (.return_, 1) := by decide +kernel
theorem dJ3_checkIndex_8e157_0 : decode cJ3_checkIndex_8e157 0 = .ok (.iload_n 0, 1) := by decide +kernel
theorem dJ3_checkIndex_8e157_1 : decode cJ3_checkIndex_8e157 1 = .ok (.ifCond .lt 8, 3) := by decide +kernel
theorem dJ3_checkIndex_8e157_4 : decode cJ3_checkIndex_8e157 4 = .ok (.iload_n 0, 1) := by decide +kernel
theorem dJ3_checkIndex_8e157_5 : decode cJ3_checkIndex_8e157 5 = .ok (.iload_n 1, 1) := by decide +kernel
theorem dJ3_checkIndex_8e157_6 : decode cJ3_checkIndex_8e157 6 = .ok (.if_icmp .lt 10, 3) := by decide +kernel
theorem dJ3_checkIndex_8e157_9 : decode cJ3_checkIndex_8e157 9 = .ok (.aload_n 2, 1) := by decide +kernel
theorem dJ3_checkIndex_8e157_10 : decode cJ3_checkIndex_8e157 10 = .ok (.iload_n 0, 1) := by decide +kernel
theorem dJ3_checkIndex_8e157_11 : decode cJ3_checkIndex_8e157 11 = .ok (.iload_n 1, 1) := by decide +kernel
theorem dJ3_checkIndex_8e157_12 : decode cJ3_checkIndex_8e157 12 = .ok (.invokestatic 95, 3) := by decide +kernel
theorem dJ3_checkIndex_8e157_15 : decode cJ3_checkIndex_8e157 15 = .ok (.athrow, 1) := by decide +kernel
theorem dJ3_checkIndex_8e157_16 : decode cJ3_checkIndex_8e157 16 = .ok (.iload_n 0, 1) := by decide +kernel
theorem dJ3_checkIndex_8e157_17 : decode cJ3_checkIndex_8e157 17 = .ok (.ireturn, 1) := by decide +kernel
set_option maxRecDepth 20000 in
theorem ggL_law_X6_init : GoodIn wsL_law wsX6_init := goodIn_r _ [8, 9, 10, 11, 12, 13, 14, 15, 16, 17, 18, 19, 20, 21, 22, 23, 24, 25, 26, 27, 28, 29, 30, 31, 32, 33, 34, 35, 36, 37, 38, 39, 40, 41, 42, 43, 44, 45, 46, 47, 48, 49, 50, 51, 52, 53, 54, 55, 56, 57, 58, 59, 60, 61, 62, 63, 64, 65, 66, 67, 68, 69, 70, 71, 72, 73, 74, 75, 76, 77, 78, 79, 80, 81, 82, 83, 84, 85, 86, 87, 88, 89, 90, 91, 92, 93, 94, 95, 96, 97, 98, 99, 100, 101, 102, 103, 104, 105, 106, 107, 108, 109, 110, 111, 112, 113, 114, 115, 116, 117, 118, 119, 120, 121, 122, 123, 124, 125, 126, 127, 128, 129, 130, 131, 132, 133, 134, 2, 135, 136, 137, 138, 139, 140, 141, 142, 143, 144, 145, 146, 147, 148, 149, 150, 151, 152, 153, 154, 155, 156, 157, 158, 159, 160, 161, 162, 163, 164, 165, 166, 167, 168, 169, 170, 171, 172, 173, 174, 175, 176, 177, 178, 179, 180, 181, 182, 183, 184, 185, 186, 187, 188, 189, 190, 191, 192, 193, 194, 195, 196, 197, 198, 199, 200, 201, 202, 203, 204, 205, 206, 207, 208, 209, 210, 211, 212, 213, 214, 215, 216, 217, 218, 219, 220, 221, 222, 223, 224, 225, 226, 227, 228, 229, 230, 231, 232, 233, 234, 235, 236, 237, 238, 239, 240, 241, 242, 243, 244, 245, 246, 247, 248, 249, 250, 251, 252, 253, 254, 255, 256, 257, 258, 259, 260, 261, 262, 263, 264, 265, 266, 267, 268, 269, 270, 271, 272, 273, 274, 275, 276, 277, 278, 279, 280, 281, 282, 283, 284, 285, 286, 287, 288, 289, 290, 291, 292, 293, 294, 295, 296, 297, 818, 819, 792, 793, 794, 795, 796, 797, 798, 820, 821, 822, 823, 824, 825, 826, 827, 828, 829, 830, 831, 832, 833, 834, 835, 836, 837, 838, 839, 840, 841, 842, 843] (by decide +kernel) (by decide +kernel)
set_option maxRecDepth 20000 in
theorem gL_law_X6_init : GoodIn wsL_law (wsX6_init) := ggL_law_X6_init
set_option maxRecDepth 20000 in
theorem ggL_law_X7_init : GoodIn wsL_law wsX7_init := goodIn_r _ [300, 301, 10, 11, 45, 302, 303, 304, 305, 306, 307, 308, 309, 310, 311, 312, 313, 314, 315, 5, 316, 317, 318, 319, 320, 321, 322, 323, 324, 325, 326, 327, 328, 329, 330, 331, 332, 333, 334, 335, 336, 337, 338, 339, 340, 799, 800, 801, 802, 803, 804, 805, 806, 807, 808, 809, 810, 811, 812, 813, 814, 815, 816, 817] (by decide +kernel) (by decide +kernel)
set_option maxRecDepth 20000 in
theorem gL_law_X7_init : GoodIn wsL_law (wsX7_init) := ggL_law_X7_init
set_option maxRecDepth 20000 in
theorem ggL_law_X6_append : GoodIn wsL_law wsX6_append := goodIn_r _ [344, 15, 345, 129, 130, 14, 131, 127, 123, 124, 125, 126, 41, 128, 206, 151, 152, 153, 792, 793, 794, 795, 796, 797, 798, 818, 819] (by decide +kernel) (by decide +kernel)
set_option maxRecDepth 20000 in
theorem gL_law_X6_append : GoodIn wsL_law (wsV RL 13 RX6 yX6_append wsX6_append) := goodIn_app (goodIn_of _ (by decide +kernel)) ggL_law_X6_append
set_option maxRecDepth 20000 in
theorem ggL_law_X7_append : GoodIn wsL_law wsX7_append := goodIn_r _ [349, 350, 302, 351, 352, 5, 353, 799, 800, 801, 802, 803, 804, 805, 806, 807, 808, 809, 810, 811, 812, 813, 814, 815, 816, 817] (by decide +kernel) (by decide +kernel)
set_option maxRecDepth 20000 in
theorem gL_law_X7_append : GoodIn wsL_law (wsV RL 17 RX7 yX7_append wsX7_append) := goodIn_app (goodIn_of _ (by decide +kernel)) ggL_law_X7_append
set_option maxRecDepth 20000 in
theorem ggL_law_X6_clearText : GoodIn wsL_law wsX6_clearText := goodIn_r _ [357, 15, 206, 151, 152, 14, 153, 127, 294, 295, 296, 297, 792, 793, 794, 795, 796, 797, 798, 818, 819] (by decide +kernel) (by decide +kernel)
set_option maxRecDepth 20000 in
theorem gL_law_X6_clearText : GoodIn wsL_law (wsV RL 18 RX6 yX6_clearText wsX6_clearText) := goodIn_app (goodIn_of _ (by decide +kernel)) ggL_law_X6_clearText
set_option maxRecDepth 20000 in
theorem ggL_law_X7_clearText : GoodIn wsL_law wsX7_clearText := goodIn_r _ [361, 350, 799, 800, 801, 802, 803, 804, 805, 806, 807, 808, 809, 810, 811, 812, 813, 814, 815, 816, 817] (by decide +kernel) (by decide +kernel)
set_option maxRecDepth 20000 in
theorem gL_law_X7_clearText : GoodIn wsL_law (wsV RL 22 RX7 yX7_clearText wsX7_clearText) := goodIn_app (goodIn_of _ (by decide +kernel)) ggL_law_X7_clearText
set_option maxRecDepth 20000 in
theorem ggL_law_X6_firstError : GoodIn wsL_law wsX6_firstError := goodIn_r _ [365, 19, 15, 36, 136, 137, 138, 18, 139, 140, 141, 142, 143, 144, 145, 146, 34, 147, 148, 149, 73, 150, 151, 152, 14, 153, 127, 154, 155, 156, 157, 158, 159, 160, 161, 41, 162, 163, 164, 165, 46, 166, 167, 168, 169, 170, 171, 172, 173, 174, 175, 176, 177, 178, 179, 180, 181, 182, 183, 184, 185, 186, 187, 188, 189, 190, 191, 192, 193, 68, 69, 70, 72, 194, 195, 196, 197, 198, 199, 200, 2, 201, 202, 203, 204, 205, 366, 367, 368, 369, 792, 793, 794, 795, 796, 797, 798, 820, 821, 822, 823, 824, 837, 838, 839, 840, 841, 842, 843, 818, 819] (by decide +kernel) (by decide +kernel)
set_option maxRecDepth 20000 in
theorem gL_law_X6_firstError : GoodIn wsL_law (wsV RL 23 RX6 yX6_firstError wsX6_firstError) := goodIn_app (goodIn_of _ (by decide +kernel)) ggL_law_X6_firstError
set_option maxRecDepth 20000 in
theorem ggL_law_X7_firstError : GoodIn wsL_law wsX7_firstError := goodIn_r _ [373, 374, 375, 376, 5, 377, 312, 317, 378, 379, 380, 350, 381, 382, 383, 384, 302, 310, 385, 386, 387, 388, 389, 390, 391, 392, 351, 352, 353, 393, 394, 395, 396, 334, 335, 336, 313, 314, 315, 316, 307, 308, 309, 799, 800, 801, 802, 803, 804, 805, 806, 807, 808, 809, 810, 811, 812, 813, 814, 815, 816, 817] (by decide +kernel) (by decide +kernel)
set_option maxRecDepth 20000 in
theorem gL_law_X7_firstError : GoodIn wsL_law (wsV RL 26 RX7 yX7_firstError wsX7_firstError) := goodIn_app (goodIn_of _ (by decide +kernel)) ggL_law_X7_firstError
set_option maxRecDepth 20000 in
theorem ggL_law_X6_errorReason : GoodIn wsL_law wsX6_errorReason := goodIn_r _ [400, 19, 15, 36, 136, 137, 138, 18, 139, 140, 141, 142, 143, 144, 145, 146, 34, 147, 148, 149, 73, 150, 151, 152, 14, 153, 127, 154, 155, 156, 157, 158, 159, 160, 161, 41, 162, 163, 164, 165, 46, 166, 167, 168, 169, 170, 171, 172, 173, 174, 175, 176, 177, 178, 179, 180, 181, 182, 183, 184, 185, 186, 187, 188, 189, 190, 191, 192, 193, 68, 69, 70, 72, 194, 195, 196, 197, 198, 199, 200, 2, 201, 202, 203, 204, 205, 792, 793, 794, 795, 796, 797, 798, 820, 821, 822, 823, 824, 837, 838, 839, 840, 841, 842, 843, 818, 819] (by decide +kernel) (by decide +kernel)
set_option maxRecDepth 20000 in
theorem gL_law_X6_errorReason : GoodIn wsL_law (wsV RL 27 RX6 yX6_errorReason wsX6_errorReason) := goodIn_app (goodIn_of _ (by decide +kernel)) ggL_law_X6_errorReason
set_option maxRecDepth 20000 in
theorem ggL_law_X7_errorReason : GoodIn wsL_law wsX7_errorReason := goodIn_r _ [404, 379, 374, 375, 376, 5, 377, 312, 317, 378, 380, 350, 381, 382, 383, 384, 302, 310, 385, 386, 387, 388, 389, 390, 391, 392, 351, 352, 353, 393, 394, 395, 396, 334, 335, 336, 313, 314, 315, 316, 307, 308, 309, 799, 800, 801, 802, 803, 804, 805, 806, 807, 808, 809, 810, 811, 812, 813, 814, 815, 816, 817] (by decide +kernel) (by decide +kernel)
set_option maxRecDepth 20000 in
theorem gL_law_X7_errorReason : GoodIn wsL_law (wsV RL 30 RX7 yX7_errorReason wsX7_errorReason) := goodIn_app (goodIn_of _ (by decide +kernel)) ggL_law_X7_errorReason
set_option maxRecDepth 20000 in
theorem ggL_law_X6_configure : GoodIn wsL_law wsX6_configure := goodIn_r _ [135, 19, 15, 36, 23, 35, 27, 31, 136, 137, 138, 18, 139, 140, 141, 142, 143, 144, 145, 146, 34, 147, 148, 149, 73, 150, 151, 152, 14, 153, 127, 154, 155, 156, 157, 158, 159, 160, 161, 41, 162, 163, 164, 165, 46, 166, 167, 168, 169, 170, 171, 172, 173, 174, 175, 176, 177, 178, 179, 180, 181, 182, 183, 184, 185, 186, 187, 188, 189, 190, 191, 192, 193, 68, 69, 70, 72, 194, 195, 196, 197, 198, 199, 200, 2, 201, 202, 203, 204, 205, 206, 207, 208, 209, 210, 211, 212, 213, 214, 215, 216, 217, 218, 219, 220, 221, 222, 223, 224, 225, 226, 227, 228, 229, 230, 231, 232, 233, 234, 235, 236, 237, 238, 239, 240, 241, 242, 22, 243, 50, 244, 245, 246, 247, 248, 249, 250, 251, 252, 253, 254, 255, 256, 257, 258, 259, 260, 261, 262, 263, 264, 265, 266, 267, 268, 269, 270, 271, 51, 272, 273, 274, 275, 276, 277, 278, 26, 279, 280, 281, 282, 283, 284, 285, 55, 56, 286, 287, 288, 289, 290, 30, 291, 292, 293, 792, 793, 794, 795, 796, 797, 798, 820, 821, 822, 823, 824, 837, 838, 839, 840, 841, 842, 843, 818, 819, 825, 826, 827, 828, 829, 830, 831, 832, 833, 834, 835, 836] (by decide +kernel) (by decide +kernel)
set_option maxRecDepth 20000 in
theorem gL_law_X6_configure : GoodIn wsL_law (wsV RL 31 RX6 yX6_configure wsX6_configure) := goodIn_app (goodIn_of _ (by decide +kernel)) ggL_law_X6_configure
set_option maxRecDepth 20000 in
theorem ggL_law_X7_configure : GoodIn wsL_law wsX7_configure := goodIn_r _ [409, 350, 323, 374, 375, 376, 5, 377, 312, 317, 378, 379, 380, 381, 382, 383, 384, 302, 310, 385, 386, 387, 388, 389, 390, 391, 392, 351, 352, 353, 393, 394, 395, 396, 334, 335, 336, 313, 314, 315, 316, 307, 308, 309, 410, 411, 412, 413, 318, 319, 320, 321, 322, 303, 304, 305, 324, 325, 326, 327, 328, 329, 330, 331, 332, 333, 337, 338, 339, 340, 799, 800, 801, 802, 803, 804, 805, 806, 807, 808, 809, 810, 811, 812, 813, 814, 815, 816, 817] (by decide +kernel) (by decide +kernel)
set_option maxRecDepth 20000 in
theorem gL_law_X7_configure : GoodIn wsL_law (wsV RL 34 RX7 yX7_configure wsX7_configure) := goodIn_app (goodIn_of _ (by decide +kernel)) ggL_law_X7_configure
set_option maxRecDepth 20000 in
theorem ggL_law_X6_setWeight : GoodIn wsL_law wsX6_setWeight := goodIn_r _ [417, 35, 31, 23, 27, 418, 229, 230, 34, 231, 149, 419, 420, 421, 30, 422, 423, 62, 64, 292, 424, 425, 426, 427, 428, 429, 430, 22, 431, 50, 51, 252, 432, 433, 434, 26, 435, 55, 56, 281, 286, 287, 436, 262, 263, 264, 437, 438, 439, 440, 441, 249, 250, 251, 253, 254, 255, 256, 257, 258, 259, 260, 200, 2, 201, 261, 265, 225, 226, 227, 68, 228, 266, 217, 218, 219, 148, 211, 183, 184, 185, 220, 221, 222, 223, 224, 232, 233, 234, 235, 69, 267, 268, 269, 270, 271, 272, 273, 274, 275, 442, 283, 284, 285, 792, 793, 794, 795, 796, 797, 798, 837, 838, 839, 840, 841, 842, 843, 833, 834, 835, 836, 825, 826, 827, 828, 829, 830, 831, 832] (by decide +kernel) (by decide +kernel)
set_option maxRecDepth 20000 in
theorem gL_law_X6_setWeight : GoodIn wsL_law (wsV RL 35 RX6 yX6_setWeight wsX6_setWeight) := goodIn_app (goodIn_of _ (by decide +kernel)) ggL_law_X6_setWeight
set_option maxRecDepth 20000 in
theorem ggL_law_X7_setWeight : GoodIn wsL_law wsX7_setWeight := goodIn_r _ [446, 305, 447, 448, 449, 5, 450, 323, 351, 352, 353, 451, 452, 453, 454, 325, 306, 326, 327, 328, 329, 303, 304, 330, 331, 332, 333, 322, 334, 335, 336, 337, 338, 339, 340, 799, 800, 801, 802, 803, 804, 805, 806, 807, 808, 809, 810, 811, 812, 813, 814, 815, 816, 817] (by decide +kernel) (by decide +kernel)
set_option maxRecDepth 20000 in
theorem gL_law_X7_setWeight : GoodIn wsL_law (wsV RL 39 RX7 yX7_setWeight wsX7_setWeight) := goodIn_app (goodIn_of _ (by decide +kernel)) ggL_law_X7_setWeight
set_option maxRecDepth 20000 in
theorem ggL_law_X6_setCounterLimit : GoodIn wsL_law wsX6_setCounterLimit := goodIn_r _ [458, 459, 31, 23, 27, 419, 420, 421, 30, 422, 423, 62, 64, 292, 424, 425, 426, 427, 428, 429, 430, 22, 431, 50, 51, 252, 432, 433, 434, 26, 435, 55, 56, 281, 286, 287, 460, 461, 462, 463, 464, 465, 466, 467, 442, 283, 284, 285, 792, 793, 794, 795, 796, 797, 798, 833, 834, 835, 836, 825, 826, 827, 828, 829, 830, 831, 832] (by decide +kernel) (by decide +kernel)
set_option maxRecDepth 20000 in
theorem gL_law_X6_setCounterLimit : GoodIn wsL_law (wsV RL 40 RX6 yX6_setCounterLimit wsX6_setCounterLimit) := goodIn_app (goodIn_of _ (by decide +kernel)) ggL_law_X6_setCounterLimit
set_option maxRecDepth 20000 in
theorem ggL_law_X7_setCounterLimit : GoodIn wsL_law wsX7_setCounterLimit := goodIn_r _ [471, 324, 305, 351, 352, 5, 353, 451, 452, 453, 454, 325, 306, 337, 338, 339, 340, 799, 800, 801, 802, 803, 804, 805, 806, 807, 808, 809, 810, 811, 812, 813, 814, 815, 816, 817] (by decide +kernel) (by decide +kernel)
set_option maxRecDepth 20000 in
theorem gL_law_X7_setCounterLimit : GoodIn wsL_law (wsV RL 43 RX7 yX7_setCounterLimit wsX7_setCounterLimit) := goodIn_app (goodIn_of _ (by decide +kernel)) ggL_law_X7_setCounterLimit
set_option maxRecDepth 20000 in
theorem ggL_law_X6_follow : GoodIn wsL_law wsX6_follow := goodIn_r _ [475, 35, 27, 31, 23, 418, 229, 230, 34, 231, 149, 476, 225, 226, 227, 68, 228, 477, 478, 479, 26, 480, 286, 419, 420, 421, 30, 422, 423, 62, 64, 292, 424, 425, 426, 427, 428, 429, 430, 22, 431, 50, 51, 252, 432, 433, 434, 435, 55, 56, 281, 287, 481, 482, 483, 484, 485, 486, 273, 274, 275, 200, 2, 201, 487, 488, 489, 490, 491, 492, 493, 494, 495, 233, 234, 235, 69, 496, 183, 184, 185, 148, 792, 793, 794, 795, 796, 797, 798, 837, 838, 839, 840, 841, 842, 843, 828, 829, 830, 831, 832, 833, 834, 835, 836, 825, 826, 827] (by decide +kernel) (by decide +kernel)
set_option maxRecDepth 20000 in
theorem gL_law_X6_follow : GoodIn wsL_law (wsV RL 44 RX6 yX6_follow wsX6_follow) := goodIn_app (goodIn_of _ (by decide +kernel)) ggL_law_X6_follow
set_option maxRecDepth 20000 in
theorem ggL_law_X7_follow : GoodIn wsL_law wsX7_follow := goodIn_r _ [500, 303, 305, 447, 448, 449, 5, 450, 323, 351, 352, 353, 451, 452, 453, 454, 325, 306, 501, 502, 503, 504, 304, 322, 505, 506, 507, 508, 799, 800, 801, 802, 803, 804, 805, 806, 807, 808, 809, 810, 811, 812, 813, 814, 815, 816, 817] (by decide +kernel) (by decide +kernel)
set_option maxRecDepth 20000 in
theorem gL_law_X7_follow : GoodIn wsL_law (wsV RL 47 RX7 yX7_follow wsX7_follow) := goodIn_app (goodIn_of _ (by decide +kernel)) ggL_law_X7_follow
set_option maxRecDepth 20000 in
theorem ggL_law_X6_drive : GoodIn wsL_law wsX6_drive := goodIn_r _ [512, 31, 23, 27, 35, 419, 420, 421, 30, 422, 423, 62, 64, 292, 424, 425, 426, 427, 428, 429, 430, 22, 431, 50, 51, 252, 432, 433, 434, 26, 435, 55, 56, 281, 286, 287, 513, 514, 515, 516, 517, 518, 519, 2, 520, 521, 522, 523, 477, 478, 479, 480, 524, 213, 214, 34, 215, 73, 195, 179, 180, 181, 148, 525, 526, 527, 528, 72, 212, 481, 482, 483, 484, 485, 229, 230, 231, 149, 486, 273, 274, 275, 200, 201, 487, 488, 489, 490, 491, 492, 493, 494, 495, 233, 234, 235, 69, 228, 496, 183, 184, 185, 792, 793, 794, 795, 796, 797, 798, 833, 834, 835, 836, 825, 826, 827, 828, 829, 830, 831, 832, 837, 838, 839, 840, 841, 842, 843] (by decide +kernel) (by decide +kernel)
set_option maxRecDepth 20000 in
theorem gL_law_X6_drive : GoodIn wsL_law (wsV RL 48 RX6 yX6_drive wsX6_drive) := goodIn_app (goodIn_of _ (by decide +kernel)) ggL_law_X6_drive
set_option maxRecDepth 20000 in
theorem ggL_law_X7_drive : GoodIn wsL_law wsX7_drive := goodIn_r _ [532, 305, 533, 534, 535, 351, 352, 5, 353, 451, 452, 453, 454, 325, 306, 536, 537, 538, 539, 323, 303, 540, 541, 542, 543, 501, 502, 503, 504, 304, 322, 505, 506, 507, 508, 799, 800, 801, 802, 803, 804, 805, 806, 807, 808, 809, 810, 811, 812, 813, 814, 815, 816, 817] (by decide +kernel) (by decide +kernel)
set_option maxRecDepth 20000 in
theorem gL_law_X7_drive : GoodIn wsL_law (wsV RL 51 RX7 yX7_drive wsX7_drive) := goodIn_app (goodIn_of _ (by decide +kernel)) ggL_law_X7_drive
set_option maxRecDepth 20000 in
theorem ggL_law_X6_adoptCounts : GoodIn wsL_law wsX6_adoptCounts := goodIn_r _ [547, 31, 23, 27, 35, 548, 425, 426, 427, 549, 550, 551, 2, 552, 293, 254, 255, 34, 256, 149, 553, 554, 555, 556, 557, 273, 274, 22, 275, 252, 200, 201, 558, 559, 560, 561, 562, 488, 489, 26, 490, 281, 491, 492, 493, 494, 55, 563, 564, 565, 566, 476, 225, 226, 227, 68, 228, 229, 230, 231, 567, 233, 234, 235, 69, 568, 569, 570, 571, 51, 419, 420, 421, 30, 422, 423, 62, 64, 292, 424, 428, 429, 430, 431, 50, 432, 433, 434, 435, 56, 286, 287, 572, 573, 574, 575, 576, 577, 578, 579, 580, 477, 478, 479, 480, 581, 183, 184, 185, 148, 436, 262, 263, 264, 437, 438, 439, 440, 441, 249, 250, 251, 253, 257, 258, 259, 260, 261, 265, 266, 217, 218, 219, 211, 220, 221, 222, 223, 224, 232, 267, 268, 269, 270, 271, 272, 442, 283, 284, 285, 792, 793, 794, 795, 796, 797, 798, 837, 838, 839, 840, 841, 842, 843, 825, 826, 827, 828, 829, 830, 831, 832, 833, 834, 835, 836] (by decide +kernel) (by decide +kernel)
set_option maxRecDepth 20000 in
theorem gL_law_X6_adoptCounts : GoodIn wsL_law (wsV RL 52 RX6 yX6_adoptCounts wsX6_adoptCounts) := goodIn_app (goodIn_of _ (by decide +kernel)) ggL_law_X6_adoptCounts
set_option maxRecDepth 20000 in
theorem ggL_law_X7_adoptCounts : GoodIn wsL_law wsX7_adoptCounts := goodIn_r _ [585, 323, 311, 305, 586, 587, 588, 5, 589, 505, 506, 507, 508, 590, 591, 592, 593, 594, 595, 596, 597, 304, 303, 330, 331, 332, 333, 322, 598, 599, 600, 451, 452, 453, 454, 325, 306, 601, 602, 603, 604, 326, 327, 328, 329, 334, 335, 336, 337, 338, 339, 340, 799, 800, 801, 802, 803, 804, 805, 806, 807, 808, 809, 810, 811, 812, 813, 814, 815, 816, 817] (by decide +kernel) (by decide +kernel)
set_option maxRecDepth 20000 in
theorem gL_law_X7_adoptCounts : GoodIn wsL_law (wsV RL 55 RX7 yX7_adoptCounts wsX7_adoptCounts) := goodIn_app (goodIn_of _ (by decide +kernel)) ggL_law_X7_adoptCounts
set_option maxRecDepth 20000 in
theorem ggL_law_X6_undo : GoodIn wsL_law wsX6_undo := goodIn_r _ [608, 31, 23, 27, 609, 610, 611, 30, 612, 292, 613, 614, 615, 616, 62, 423, 64, 617, 428, 429, 430, 22, 431, 50, 51, 252, 432, 433, 434, 26, 435, 55, 56, 281, 286, 287, 618, 619, 620, 621, 792, 793, 794, 795, 796, 797, 798, 833, 834, 835, 836, 825, 826, 827, 828, 829, 830, 831, 832] (by decide +kernel) (by decide +kernel)
set_option maxRecDepth 20000 in
theorem gL_law_X6_undo : GoodIn wsL_law (wsV RL 56 RX6 yX6_undo wsX6_undo) := goodIn_app (goodIn_of _ (by decide +kernel)) ggL_law_X6_undo
set_option maxRecDepth 20000 in
theorem ggL_law_X7_undo : GoodIn wsL_law wsX7_undo := goodIn_r _ [625, 325, 305, 306, 799, 800, 801, 802, 803, 804, 805, 806, 807, 808, 809, 810, 811, 812, 813, 814, 815, 816, 817] (by decide +kernel) (by decide +kernel)
set_option maxRecDepth 20000 in
theorem gL_law_X7_undo : GoodIn wsL_law (wsV RL 59 RX7 yX7_undo wsX7_undo) := goodIn_app (goodIn_of _ (by decide +kernel)) ggL_law_X7_undo
set_option maxRecDepth 20000 in
theorem ggL_law_X6_blockCount : GoodIn wsL_law wsX6_blockCount := goodIn_r _ [629, 35, 630, 631, 632, 34, 633, 148, 792, 793, 794, 795, 796, 797, 798, 837, 838, 839, 840, 841, 842, 843] (by decide +kernel) (by decide +kernel)
set_option maxRecDepth 20000 in
theorem gL_law_X6_blockCount : GoodIn wsL_law (wsV RL 60 RX6 yX6_blockCount wsX6_blockCount) := goodIn_app (goodIn_of _ (by decide +kernel)) ggL_law_X6_blockCount
set_option maxRecDepth 20000 in
theorem ggL_law_X7_blockCount : GoodIn wsL_law wsX7_blockCount := goodIn_r _ [637, 322, 799, 800, 801, 802, 803, 804, 805, 806, 807, 808, 809, 810, 811, 812, 813, 814, 815, 816, 817] (by decide +kernel) (by decide +kernel)
set_option maxRecDepth 20000 in
theorem gL_law_X7_blockCount : GoodIn wsL_law (wsV RL 63 RX7 yX7_blockCount wsX7_blockCount) := goodIn_app (goodIn_of _ (by decide +kernel)) ggL_law_X7_blockCount
set_option maxRecDepth 20000 in
theorem ggL_law_X6_sourceOf : GoodIn wsL_law wsX6_sourceOf := goodIn_r _ [641, 35, 418, 229, 230, 34, 231, 149, 476, 225, 226, 227, 68, 228, 792, 793, 794, 795, 796, 797, 798, 837, 838, 839, 840, 841, 842, 843] (by decide +kernel) (by decide +kernel)
set_option maxRecDepth 20000 in
theorem gL_law_X6_sourceOf : GoodIn wsL_law (wsV RL 64 RX6 yX6_sourceOf wsX6_sourceOf) := goodIn_app (goodIn_of _ (by decide +kernel)) ggL_law_X6_sourceOf
set_option maxRecDepth 20000 in
theorem ggL_law_X7_sourceOf : GoodIn wsL_law wsX7_sourceOf := goodIn_r _ [645, 303, 447, 448, 449, 5, 450, 323, 351, 352, 353, 799, 800, 801, 802, 803, 804, 805, 806, 807, 808, 809, 810, 811, 812, 813, 814, 815, 816, 817] (by decide +kernel) (by decide +kernel)
set_option maxRecDepth 20000 in
theorem gL_law_X7_sourceOf : GoodIn wsL_law (wsV RL 67 RX7 yX7_sourceOf wsX7_sourceOf) := goodIn_app (goodIn_of _ (by decide +kernel)) ggL_law_X7_sourceOf
set_option maxRecDepth 20000 in
theorem ggL_law_X6_targetOf : GoodIn wsL_law wsX6_targetOf := goodIn_r _ [649, 35, 418, 229, 230, 34, 231, 149, 567, 233, 234, 235, 69, 228, 792, 793, 794, 795, 796, 797, 798, 837, 838, 839, 840, 841, 842, 843] (by decide +kernel) (by decide +kernel)
set_option maxRecDepth 20000 in
theorem gL_law_X6_targetOf : GoodIn wsL_law (wsV RL 68 RX6 yX6_targetOf wsX6_targetOf) := goodIn_app (goodIn_of _ (by decide +kernel)) ggL_law_X6_targetOf
set_option maxRecDepth 20000 in
theorem ggL_law_X7_targetOf : GoodIn wsL_law wsX7_targetOf := goodIn_r _ [653, 304, 447, 448, 449, 5, 450, 323, 351, 352, 353, 799, 800, 801, 802, 803, 804, 805, 806, 807, 808, 809, 810, 811, 812, 813, 814, 815, 816, 817] (by decide +kernel) (by decide +kernel)
set_option maxRecDepth 20000 in
theorem gL_law_X7_targetOf : GoodIn wsL_law (wsV RL 71 RX7 yX7_targetOf wsX7_targetOf) := goodIn_app (goodIn_of _ (by decide +kernel)) ggL_law_X7_targetOf
set_option maxRecDepth 20000 in
theorem ggL_law_X6_weightOf : GoodIn wsL_law wsX6_weightOf := goodIn_r _ [657, 35, 23, 418, 229, 230, 34, 231, 149, 436, 262, 263, 22, 264, 50, 792, 793, 794, 795, 796, 797, 798, 837, 838, 839, 840, 841, 842, 843, 825, 826, 827] (by decide +kernel) (by decide +kernel)
set_option maxRecDepth 20000 in
theorem gL_law_X6_weightOf : GoodIn wsL_law (wsV RL 72 RX6 yX6_weightOf wsX6_weightOf) := goodIn_app (goodIn_of _ (by decide +kernel)) ggL_law_X6_weightOf
set_option maxRecDepth 20000 in
theorem ggL_law_X7_weightOf : GoodIn wsL_law wsX7_weightOf := goodIn_r _ [661, 305, 447, 448, 449, 5, 450, 323, 351, 352, 353, 799, 800, 801, 802, 803, 804, 805, 806, 807, 808, 809, 810, 811, 812, 813, 814, 815, 816, 817] (by decide +kernel) (by decide +kernel)
set_option maxRecDepth 20000 in
theorem gL_law_X7_weightOf : GoodIn wsL_law (wsV RL 75 RX7 yX7_weightOf wsX7_weightOf) := goodIn_app (goodIn_of _ (by decide +kernel)) ggL_law_X7_weightOf
set_option maxRecDepth 20000 in
theorem ggL_law_X6_hasCounter : GoodIn wsL_law wsX6_hasCounter := goodIn_r _ [665, 35, 23, 418, 229, 230, 34, 231, 149, 557, 273, 274, 22, 275, 252, 200, 2, 201, 792, 793, 794, 795, 796, 797, 798, 837, 838, 839, 840, 841, 842, 843, 825, 826, 827] (by decide +kernel) (by decide +kernel)
set_option maxRecDepth 20000 in
theorem gL_law_X6_hasCounter : GoodIn wsL_law (wsV RL 76 RX6 yX6_hasCounter wsX6_hasCounter) := goodIn_app (goodIn_of _ (by decide +kernel)) ggL_law_X6_hasCounter
set_option maxRecDepth 20000 in
theorem ggL_law_X7_hasCounter : GoodIn wsL_law wsX7_hasCounter := goodIn_r _ [669, 447, 448, 449, 5, 450, 323, 351, 352, 353, 505, 506, 507, 508, 305, 799, 800, 801, 802, 803, 804, 805, 806, 807, 808, 809, 810, 811, 812, 813, 814, 815, 816, 817] (by decide +kernel) (by decide +kernel)
set_option maxRecDepth 20000 in
theorem gL_law_X7_hasCounter : GoodIn wsL_law (wsV RL 79 RX7 yX7_hasCounter wsX7_hasCounter) := goodIn_app (goodIn_of _ (by decide +kernel)) ggL_law_X7_hasCounter
set_option maxRecDepth 20000 in
theorem ggL_law_X6_counterCount : GoodIn wsL_law wsX6_counterCount := goodIn_r _ [673, 35, 23, 293, 254, 255, 34, 256, 149, 557, 273, 274, 22, 275, 252, 200, 2, 201, 792, 793, 794, 795, 796, 797, 798, 837, 838, 839, 840, 841, 842, 843, 825, 826, 827] (by decide +kernel) (by decide +kernel)
set_option maxRecDepth 20000 in
theorem gL_law_X6_counterCount : GoodIn wsL_law (wsV RL 80 RX6 yX6_counterCount wsX6_counterCount) := goodIn_app (goodIn_of _ (by decide +kernel)) ggL_law_X6_counterCount
set_option maxRecDepth 20000 in
theorem ggL_law_X7_counterCount : GoodIn wsL_law wsX7_counterCount := goodIn_r _ [677, 323, 505, 506, 507, 5, 508, 305, 799, 800, 801, 802, 803, 804, 805, 806, 807, 808, 809, 810, 811, 812, 813, 814, 815, 816, 817] (by decide +kernel) (by decide +kernel)
set_option maxRecDepth 20000 in
theorem gL_law_X7_counterCount : GoodIn wsL_law (wsV RL 83 RX7 yX7_counterCount wsX7_counterCount) := goodIn_app (goodIn_of _ (by decide +kernel)) ggL_law_X7_counterCount
set_option maxRecDepth 20000 in
theorem ggL_law_X6_placementCost : GoodIn wsL_law wsX6_placementCost := goodIn_r _ [681, 35, 23, 293, 254, 255, 34, 256, 149, 557, 273, 274, 22, 275, 252, 200, 2, 201, 436, 262, 263, 264, 50, 792, 793, 794, 795, 796, 797, 798, 837, 838, 839, 840, 841, 842, 843, 825, 826, 827] (by decide +kernel) (by decide +kernel)
set_option maxRecDepth 20000 in
theorem gL_law_X6_placementCost : GoodIn wsL_law (wsV RL 84 RX6 yX6_placementCost wsX6_placementCost) := goodIn_app (goodIn_of _ (by decide +kernel)) ggL_law_X6_placementCost
set_option maxRecDepth 20000 in
theorem ggL_law_X7_placementCost : GoodIn wsL_law wsX7_placementCost := goodIn_r _ [685, 686, 687, 688, 5, 689, 323, 305, 505, 506, 507, 508, 799, 800, 801, 802, 803, 804, 805, 806, 807, 808, 809, 810, 811, 812, 813, 814, 815, 816, 817] (by decide +kernel) (by decide +kernel)
set_option maxRecDepth 20000 in
theorem gL_law_X7_placementCost : GoodIn wsL_law (wsV RL 87 RX7 yX7_placementCost wsX7_placementCost) := goodIn_app (goodIn_of _ (by decide +kernel)) ggL_law_X7_placementCost
set_option maxRecDepth 20000 in
theorem ggL_law_X6_costShareBits : GoodIn wsL_law wsX6_costShareBits := goodIn_r _ [693, 35, 23, 293, 254, 255, 34, 256, 149, 436, 262, 263, 22, 264, 50, 694, 679, 680, 2, 681, 557, 273, 274, 275, 252, 200, 201, 695, 696, 697, 698, 792, 793, 794, 795, 796, 797, 798, 837, 838, 839, 840, 841, 842, 843, 825, 826, 827] (by decide +kernel) (by decide +kernel)
set_option maxRecDepth 20000 in
theorem gL_law_X6_costShareBits : GoodIn wsL_law (wsV RL 88 RX6 yX6_costShareBits wsX6_costShareBits) := goodIn_app (goodIn_of _ (by decide +kernel)) ggL_law_X6_costShareBits
set_option maxRecDepth 20000 in
theorem ggL_law_X7_costShareBits : GoodIn wsL_law wsX7_costShareBits := goodIn_r _ [702, 686, 687, 688, 5, 689, 323, 305, 505, 506, 507, 508, 703, 704, 705, 706, 707, 708, 709, 710, 711, 712, 713, 714, 799, 800, 801, 802, 803, 804, 805, 806, 807, 808, 809, 810, 811, 812, 813, 814, 815, 816, 817] (by decide +kernel) (by decide +kernel)
set_option maxRecDepth 20000 in
theorem gL_law_X7_costShareBits : GoodIn wsL_law (wsV RL 91 RX7 yX7_costShareBits wsX7_costShareBits) := goodIn_app (goodIn_of _ (by decide +kernel)) ggL_law_X7_costShareBits
set_option maxRecDepth 20000 in
theorem ggL_law_X6_counter : GoodIn wsL_law wsX6_counter := goodIn_r _ [718, 35, 23, 27, 418, 229, 230, 34, 231, 149, 557, 273, 274, 22, 275, 252, 200, 2, 201, 576, 492, 493, 26, 494, 55, 792, 793, 794, 795, 796, 797, 798, 837, 838, 839, 840, 841, 842, 843, 825, 826, 827, 828, 829, 830, 831, 832] (by decide +kernel) (by decide +kernel)
set_option maxRecDepth 20000 in
theorem gL_law_X6_counter : GoodIn wsL_law (wsV RL 92 RX6 yX6_counter wsX6_counter) := goodIn_app (goodIn_of _ (by decide +kernel)) ggL_law_X6_counter
set_option maxRecDepth 20000 in
theorem ggL_law_X7_counter : GoodIn wsL_law wsX7_counter := goodIn_r _ [722, 305, 447, 448, 449, 5, 450, 323, 351, 352, 353, 505, 506, 507, 508, 799, 800, 801, 802, 803, 804, 805, 806, 807, 808, 809, 810, 811, 812, 813, 814, 815, 816, 817] (by decide +kernel) (by decide +kernel)
set_option maxRecDepth 20000 in
theorem gL_law_X7_counter : GoodIn wsL_law (wsV RL 95 RX7 yX7_counter wsX7_counter) := goodIn_app (goodIn_of _ (by decide +kernel)) ggL_law_X7_counter
set_option maxRecDepth 20000 in
theorem ggL_law_X6_trueCount : GoodIn wsL_law wsX6_trueCount := goodIn_r _ [726, 35, 27, 418, 229, 230, 34, 231, 149, 727, 728, 729, 26, 730, 56, 792, 793, 794, 795, 796, 797, 798, 837, 838, 839, 840, 841, 842, 843, 828, 829, 830, 831, 832] (by decide +kernel) (by decide +kernel)
set_option maxRecDepth 20000 in
theorem gL_law_X6_trueCount : GoodIn wsL_law (wsV RL 96 RX6 yX6_trueCount wsX6_trueCount) := goodIn_app (goodIn_of _ (by decide +kernel)) ggL_law_X6_trueCount
set_option maxRecDepth 20000 in
theorem ggL_law_X7_trueCount : GoodIn wsL_law wsX7_trueCount := goodIn_r _ [734, 305, 447, 448, 449, 5, 450, 323, 351, 352, 353, 799, 800, 801, 802, 803, 804, 805, 806, 807, 808, 809, 810, 811, 812, 813, 814, 815, 816, 817] (by decide +kernel) (by decide +kernel)
set_option maxRecDepth 20000 in
theorem gL_law_X7_trueCount : GoodIn wsL_law (wsV RL 99 RX7 yX7_trueCount wsX7_trueCount) := goodIn_app (goodIn_of _ (by decide +kernel)) ggL_law_X7_trueCount
set_option maxRecDepth 20000 in
theorem ggL_law_X6_reconstruct : GoodIn wsL_law wsX6_reconstruct := goodIn_r _ [738, 35, 418, 229, 230, 34, 231, 149, 553, 554, 555, 2, 556, 23, 557, 273, 274, 22, 275, 252, 200, 201, 558, 559, 560, 561, 27, 562, 488, 489, 26, 490, 281, 491, 492, 493, 494, 55, 293, 254, 255, 256, 563, 564, 565, 566, 476, 225, 226, 227, 68, 228, 567, 233, 234, 235, 69, 568, 569, 570, 571, 51, 572, 573, 574, 575, 576, 577, 578, 579, 580, 477, 478, 479, 480, 286, 581, 183, 184, 185, 148, 792, 793, 794, 795, 796, 797, 798, 837, 838, 839, 840, 841, 842, 843, 825, 826, 827, 828, 829, 830, 831, 832] (by decide +kernel) (by decide +kernel)
set_option maxRecDepth 20000 in
theorem gL_law_X6_reconstruct : GoodIn wsL_law (wsV RL 100 RX6 yX6_reconstruct wsX6_reconstruct) := goodIn_app (goodIn_of _ (by decide +kernel)) ggL_law_X6_reconstruct
set_option maxRecDepth 20000 in
theorem ggL_law_X7_reconstruct : GoodIn wsL_law wsX7_reconstruct := goodIn_r _ [742, 447, 448, 449, 5, 450, 323, 351, 352, 353, 586, 587, 588, 589, 505, 506, 507, 508, 305, 590, 591, 592, 593, 594, 595, 596, 597, 304, 303, 330, 331, 332, 333, 322, 598, 599, 600, 601, 602, 603, 604, 799, 800, 801, 802, 803, 804, 805, 806, 807, 808, 809, 810, 811, 812, 813, 814, 815, 816, 817] (by decide +kernel) (by decide +kernel)
set_option maxRecDepth 20000 in
theorem gL_law_X7_reconstruct : GoodIn wsL_law (wsV RL 103 RX7 yX7_reconstruct wsX7_reconstruct) := goodIn_app (goodIn_of _ (by decide +kernel)) ggL_law_X7_reconstruct
set_option maxRecDepth 20000 in
theorem ggL_law_X6_coefficient : GoodIn wsL_law wsX6_coefficient := goodIn_r _ [746, 35, 23, 418, 229, 230, 34, 231, 149, 557, 273, 274, 22, 275, 252, 200, 2, 201, 563, 564, 565, 566, 476, 225, 226, 227, 68, 228, 567, 233, 234, 235, 69, 568, 569, 570, 571, 51, 792, 793, 794, 795, 796, 797, 798, 837, 838, 839, 840, 841, 842, 843, 825, 826, 827] (by decide +kernel) (by decide +kernel)
set_option maxRecDepth 20000 in
theorem gL_law_X6_coefficient : GoodIn wsL_law (wsV RL 104 RX6 yX6_coefficient wsX6_coefficient) := goodIn_app (goodIn_of _ (by decide +kernel)) ggL_law_X6_coefficient
set_option maxRecDepth 20000 in
theorem ggL_law_X7_coefficient : GoodIn wsL_law wsX7_coefficient := goodIn_r _ [750, 447, 448, 449, 5, 450, 323, 351, 352, 353, 505, 506, 507, 508, 305, 594, 595, 596, 597, 304, 303, 330, 331, 332, 333, 322, 598, 599, 600, 799, 800, 801, 802, 803, 804, 805, 806, 807, 808, 809, 810, 811, 812, 813, 814, 815, 816, 817] (by decide +kernel) (by decide +kernel)
set_option maxRecDepth 20000 in
theorem gL_law_X7_coefficient : GoodIn wsL_law (wsV RL 107 RX7 yX7_coefficient wsX7_coefficient) := goodIn_app (goodIn_of _ (by decide +kernel)) ggL_law_X7_coefficient
set_option maxRecDepth 20000 in
theorem ggL_law_X6_executions : GoodIn wsL_law wsX6_executions := goodIn_r _ [754, 35, 27, 755, 179, 180, 34, 181, 148, 513, 514, 515, 26, 516, 287, 477, 478, 479, 480, 286, 293, 254, 255, 256, 149, 567, 233, 234, 235, 69, 228, 229, 230, 231, 553, 554, 555, 2, 556, 23, 557, 273, 274, 22, 275, 252, 200, 201, 558, 559, 560, 561, 562, 488, 489, 490, 281, 491, 492, 493, 494, 55, 563, 564, 565, 566, 476, 225, 226, 227, 68, 568, 569, 570, 571, 51, 572, 573, 574, 575, 576, 577, 578, 579, 580, 581, 183, 184, 185, 792, 793, 794, 795, 796, 797, 798, 837, 838, 839, 840, 841, 842, 843, 828, 829, 830, 831, 832, 825, 826, 827] (by decide +kernel) (by decide +kernel)
set_option maxRecDepth 20000 in
theorem gL_law_X6_executions : GoodIn wsL_law (wsV RL 108 RX6 yX6_executions wsX6_executions) := goodIn_app (goodIn_of _ (by decide +kernel)) ggL_law_X6_executions
set_option maxRecDepth 20000 in
theorem ggL_law_X7_executions : GoodIn wsL_law wsX7_executions := goodIn_r _ [759, 322, 305, 323, 304, 351, 352, 5, 353, 586, 587, 588, 589, 505, 506, 507, 508, 590, 591, 592, 593, 594, 595, 596, 597, 303, 330, 331, 332, 333, 598, 599, 600, 601, 602, 603, 604, 799, 800, 801, 802, 803, 804, 805, 806, 807, 808, 809, 810, 811, 812, 813, 814, 815, 816, 817] (by decide +kernel) (by decide +kernel)
set_option maxRecDepth 20000 in
theorem gL_law_X7_executions : GoodIn wsL_law (wsV RL 111 RX7 yX7_executions wsX7_executions) := goodIn_app (goodIn_of _ (by decide +kernel)) ggL_law_X7_executions
set_option maxRecDepth 20000 in
theorem ggL_law_X6_dependents : GoodIn wsL_law wsX6_dependents := goodIn_r _ [763, 35, 23, 418, 229, 230, 34, 231, 149, 557, 273, 274, 22, 275, 252, 200, 2, 201, 293, 254, 255, 256, 563, 564, 565, 566, 476, 225, 226, 227, 68, 228, 567, 233, 234, 235, 69, 568, 569, 570, 571, 51, 792, 793, 794, 795, 796, 797, 798, 837, 838, 839, 840, 841, 842, 843, 825, 826, 827] (by decide +kernel) (by decide +kernel)
set_option maxRecDepth 20000 in
theorem gL_law_X6_dependents : GoodIn wsL_law (wsV RL 112 RX6 yX6_dependents wsX6_dependents) := goodIn_app (goodIn_of _ (by decide +kernel)) ggL_law_X6_dependents
set_option maxRecDepth 20000 in
theorem ggL_law_X7_dependents : GoodIn wsL_law wsX7_dependents := goodIn_r _ [767, 323, 447, 448, 449, 5, 450, 351, 352, 353, 505, 506, 507, 508, 305, 594, 595, 596, 597, 304, 303, 330, 331, 332, 333, 322, 598, 599, 600, 799, 800, 801, 802, 803, 804, 805, 806, 807, 808, 809, 810, 811, 812, 813, 814, 815, 816, 817] (by decide +kernel) (by decide +kernel)
set_option maxRecDepth 20000 in
theorem gL_law_X7_dependents : GoodIn wsL_law (wsV RL 115 RX7 yX7_dependents wsX7_dependents) := goodIn_app (goodIn_of _ (by decide +kernel)) ggL_law_X7_dependents
set_option maxRecDepth 20000 in
theorem ggL_law_X6_saturatedCount : GoodIn wsL_law wsX6_saturatedCount := goodIn_r _ [771, 35, 293, 254, 255, 34, 256, 149, 558, 559, 560, 2, 561, 23, 27, 557, 273, 274, 22, 275, 252, 200, 201, 562, 488, 489, 26, 490, 281, 491, 492, 493, 494, 55, 792, 793, 794, 795, 796, 797, 798, 837, 838, 839, 840, 841, 842, 843, 825, 826, 827, 828, 829, 830, 831, 832] (by decide +kernel) (by decide +kernel)
set_option maxRecDepth 20000 in
theorem gL_law_X6_saturatedCount : GoodIn wsL_law (wsV RL 116 RX6 yX6_saturatedCount wsX6_saturatedCount) := goodIn_app (goodIn_of _ (by decide +kernel)) ggL_law_X6_saturatedCount
set_option maxRecDepth 20000 in
theorem ggL_law_X7_saturatedCount : GoodIn wsL_law wsX7_saturatedCount := goodIn_r _ [775, 323, 590, 591, 592, 5, 593, 305, 505, 506, 507, 508, 799, 800, 801, 802, 803, 804, 805, 806, 807, 808, 809, 810, 811, 812, 813, 814, 815, 816, 817] (by decide +kernel) (by decide +kernel)
set_option maxRecDepth 20000 in
theorem gL_law_X7_saturatedCount : GoodIn wsL_law (wsV RL 119 RX7 yX7_saturatedCount wsX7_saturatedCount) := goodIn_app (goodIn_of _ (by decide +kernel)) ggL_law_X7_saturatedCount
set_option maxRecDepth 20000 in
theorem ggL_law_X6_presentBlock : GoodIn wsL_law wsX6_presentBlock := goodIn_r _ [779, 27, 477, 478, 479, 26, 480, 286, 792, 793, 794, 795, 796, 797, 798, 828, 829, 830, 831, 832] (by decide +kernel) (by decide +kernel)
set_option maxRecDepth 20000 in
theorem gL_law_X6_presentBlock : GoodIn wsL_law (wsV RL 120 RX6 yX6_presentBlock wsX6_presentBlock) := goodIn_app (goodIn_of _ (by decide +kernel)) ggL_law_X6_presentBlock
set_option maxRecDepth 20000 in
theorem ggL_law_X7_presentBlock : GoodIn wsL_law wsX7_presentBlock := goodIn_r _ [783, 305, 799, 800, 801, 802, 803, 804, 805, 806, 807, 808, 809, 810, 811, 812, 813, 814, 815, 816, 817] (by decide +kernel) (by decide +kernel)
set_option maxRecDepth 20000 in
theorem gL_law_X7_presentBlock : GoodIn wsL_law (wsV RL 123 RX7 yX7_presentBlock wsX7_presentBlock) := goodIn_app (goodIn_of _ (by decide +kernel)) ggL_law_X7_presentBlock
set_option maxRecDepth 20000 in
theorem ggL_law_X6_finishedRuns : GoodIn wsL_law wsX6_finishedRuns := goodIn_r _ [787, 27, 513, 514, 515, 26, 516, 287, 792, 793, 794, 795, 796, 797, 798, 828, 829, 830, 831, 832] (by decide +kernel) (by decide +kernel)
set_option maxRecDepth 20000 in
theorem gL_law_X6_finishedRuns : GoodIn wsL_law (wsV RL 124 RX6 yX6_finishedRuns wsX6_finishedRuns) := goodIn_app (goodIn_of _ (by decide +kernel)) ggL_law_X6_finishedRuns
set_option maxRecDepth 20000 in
theorem ggL_law_X7_finishedRuns : GoodIn wsL_law wsX7_finishedRuns := goodIn_r _ [791, 305, 799, 800, 801, 802, 803, 804, 805, 806, 807, 808, 809, 810, 811, 812, 813, 814, 815, 816, 817] (by decide +kernel) (by decide +kernel)
set_option maxRecDepth 20000 in
theorem gL_law_X7_finishedRuns : GoodIn wsL_law (wsV RL 127 RX7 yX7_finishedRuns wsX7_finishedRuns) := goodIn_app (goodIn_of _ (by decide +kernel)) ggL_law_X7_finishedRuns
end
section
theorem dL_law_0 : decode cL_law 0 = .ok (.new 7, 3) := by decide +kernel
theorem dL_law_3 : decode cL_law 3 = .ok (.dup, 1) := by decide +kernel
theorem dL_law_4 : decode cL_law 4 = .ok (.invokespecial 9, 3) := by decide +kernel
theorem dL_law_7 : decode cL_law 7 = .ok (.astore_n 1, 1) := by decide +kernel
theorem dL_law_8 : decode cL_law 8 = .ok (.new 10, 3) := by decide +kernel
theorem dL_law_11 : decode cL_law 11 = .ok (.dup, 1) := by decide +kernel
theorem dL_law_12 : decode cL_law 12 = .ok (.invokespecial 12, 3) := by decide +kernel
theorem dL_law_15 : decode cL_law 15 = .ok (.astore_n 2, 1) := by decide +kernel
theorem dL_law_16 : decode cL_law 16 = .ok (.iconst 0, 1) := by decide +kernel
theorem dL_law_17 : decode cL_law 17 = .ok (.istore_n 3, 1) := by decide +kernel
theorem dL_law_18 : decode cL_law 18 = .ok (.iload_n 3, 1) := by decide +kernel
theorem dL_law_19 : decode cL_law 19 = .ok (.aload_n 0, 1) := by decide +kernel
theorem dL_law_20 : decode cL_law 20 = .ok (.arraylength, 1) := by decide +kernel
theorem dL_law_21 : decode cL_law 21 = .ok (.iconst 3, 1) := by decide +kernel
theorem dL_law_22 : decode cL_law 22 = .ok (.isub, 1) := by decide +kernel
theorem dL_law_23 : decode cL_law 23 = .ok (.if_icmp .gt 687, 3) := by decide +kernel
theorem dL_law_26 : decode cL_law 26 = .ok (.aload_n 0, 1) := by decide +kernel
theorem dL_law_27 : decode cL_law 27 = .ok (.iload_n 3, 1) := by decide +kernel
theorem dL_law_28 : decode cL_law 28 = .ok (.iaload, 1) := by decide +kernel
theorem dL_law_29 : decode cL_law 29 = .ok (.bipush 31, 2) := by decide +kernel
theorem dL_law_31 : decode cL_law 31 = .ok (.iand, 1) := by decide +kernel
theorem dL_law_32 : decode cL_law 32 = .ok (.tableswitch 672 0 27 #[128, 151, 164, 177, 190, 203, 236, 259, 282, 315, 328, 341, 354, 377, 400, 423, 446, 459, 472, 485, 508, 531, 554, 587, 610, 633, 646, 659], 128) := by decide +kernel
theorem dL_law_160 : decode cL_law 160 = .ok (.aload_n 1, 1) := by decide +kernel
theorem dL_law_161 : decode cL_law 161 = .ok (.aload_n 0, 1) := by decide +kernel
theorem dL_law_162 : decode cL_law 162 = .ok (.iload_n 3, 1) := by decide +kernel
theorem dL_law_163 : decode cL_law 163 = .ok (.iconst 1, 1) := by decide +kernel
theorem dL_law_164 : decode cL_law 164 = .ok (.iadd, 1) := by decide +kernel
theorem dL_law_165 : decode cL_law 165 = .ok (.iaload, 1) := by decide +kernel
theorem dL_law_166 : decode cL_law 166 = .ok (.invokevirtual 13, 3) := by decide +kernel
theorem dL_law_169 : decode cL_law 169 = .ok (.aload_n 2, 1) := by decide +kernel
theorem dL_law_170 : decode cL_law 170 = .ok (.aload_n 0, 1) := by decide +kernel
theorem dL_law_171 : decode cL_law 171 = .ok (.iload_n 3, 1) := by decide +kernel
theorem dL_law_172 : decode cL_law 172 = .ok (.iconst 1, 1) := by decide +kernel
theorem dL_law_173 : decode cL_law 173 = .ok (.iadd, 1) := by decide +kernel
theorem dL_law_174 : decode cL_law 174 = .ok (.iaload, 1) := by decide +kernel
theorem dL_law_175 : decode cL_law 175 = .ok (.invokevirtual 17, 3) := by decide +kernel
theorem dL_law_178 : decode cL_law 178 = .ok (.if_icmp .eq 526, 3) := by decide +kernel
theorem dL_law_181 : decode cL_law 181 = .ok (.iconst 0, 1) := by decide +kernel
theorem dL_law_182 : decode cL_law 182 = .ok (.ireturn, 1) := by decide +kernel
theorem dL_law_183 : decode cL_law 183 = .ok (.aload_n 1, 1) := by decide +kernel
theorem dL_law_184 : decode cL_law 184 = .ok (.invokevirtual 18, 3) := by decide +kernel
theorem dL_law_187 : decode cL_law 187 = .ok (.aload_n 2, 1) := by decide +kernel
theorem dL_law_188 : decode cL_law 188 = .ok (.invokevirtual 22, 3) := by decide +kernel
theorem dL_law_191 : decode cL_law 191 = .ok (.if_icmp .eq 513, 3) := by decide +kernel
theorem dL_law_194 : decode cL_law 194 = .ok (.iconst 0, 1) := by decide +kernel
theorem dL_law_195 : decode cL_law 195 = .ok (.ireturn, 1) := by decide +kernel
theorem dL_law_196 : decode cL_law 196 = .ok (.aload_n 1, 1) := by decide +kernel
theorem dL_law_197 : decode cL_law 197 = .ok (.invokevirtual 23, 3) := by decide +kernel
theorem dL_law_200 : decode cL_law 200 = .ok (.aload_n 2, 1) := by decide +kernel
theorem dL_law_201 : decode cL_law 201 = .ok (.invokevirtual 26, 3) := by decide +kernel
theorem dL_law_204 : decode cL_law 204 = .ok (.if_icmp .eq 500, 3) := by decide +kernel
theorem dL_law_207 : decode cL_law 207 = .ok (.iconst 0, 1) := by decide +kernel
theorem dL_law_208 : decode cL_law 208 = .ok (.ireturn, 1) := by decide +kernel
theorem dL_law_209 : decode cL_law 209 = .ok (.aload_n 1, 1) := by decide +kernel
theorem dL_law_210 : decode cL_law 210 = .ok (.invokevirtual 27, 3) := by decide +kernel
theorem dL_law_213 : decode cL_law 213 = .ok (.aload_n 2, 1) := by decide +kernel
theorem dL_law_214 : decode cL_law 214 = .ok (.invokevirtual 30, 3) := by decide +kernel
theorem dL_law_217 : decode cL_law 217 = .ok (.if_icmp .eq 487, 3) := by decide +kernel
theorem dL_law_220 : decode cL_law 220 = .ok (.iconst 0, 1) := by decide +kernel
theorem dL_law_221 : decode cL_law 221 = .ok (.ireturn, 1) := by decide +kernel
theorem dL_law_222 : decode cL_law 222 = .ok (.aload_n 1, 1) := by decide +kernel
theorem dL_law_223 : decode cL_law 223 = .ok (.invokevirtual 31, 3) := by decide +kernel
theorem dL_law_226 : decode cL_law 226 = .ok (.aload_n 2, 1) := by decide +kernel
theorem dL_law_227 : decode cL_law 227 = .ok (.invokevirtual 34, 3) := by decide +kernel
theorem dL_law_230 : decode cL_law 230 = .ok (.if_icmp .eq 474, 3) := by decide +kernel
theorem dL_law_233 : decode cL_law 233 = .ok (.iconst 0, 1) := by decide +kernel
theorem dL_law_234 : decode cL_law 234 = .ok (.ireturn, 1) := by decide +kernel
theorem dL_law_235 : decode cL_law 235 = .ok (.aload_n 1, 1) := by decide +kernel
theorem dL_law_236 : decode cL_law 236 = .ok (.aload_n 0, 1) := by decide +kernel
theorem dL_law_237 : decode cL_law 237 = .ok (.iload_n 3, 1) := by decide +kernel
theorem dL_law_238 : decode cL_law 238 = .ok (.iconst 1, 1) := by decide +kernel
theorem dL_law_239 : decode cL_law 239 = .ok (.iadd, 1) := by decide +kernel
theorem dL_law_240 : decode cL_law 240 = .ok (.iaload, 1) := by decide +kernel
theorem dL_law_241 : decode cL_law 241 = .ok (.aload_n 0, 1) := by decide +kernel
theorem dL_law_242 : decode cL_law 242 = .ok (.iload_n 3, 1) := by decide +kernel
theorem dL_law_243 : decode cL_law 243 = .ok (.iconst 2, 1) := by decide +kernel
theorem dL_law_244 : decode cL_law 244 = .ok (.iadd, 1) := by decide +kernel
theorem dL_law_245 : decode cL_law 245 = .ok (.iaload, 1) := by decide +kernel
theorem dL_law_246 : decode cL_law 246 = .ok (.invokevirtual 35, 3) := by decide +kernel
theorem dL_law_249 : decode cL_law 249 = .ok (.aload_n 2, 1) := by decide +kernel
theorem dL_law_250 : decode cL_law 250 = .ok (.aload_n 0, 1) := by decide +kernel
theorem dL_law_251 : decode cL_law 251 = .ok (.iload_n 3, 1) := by decide +kernel
theorem dL_law_252 : decode cL_law 252 = .ok (.iconst 1, 1) := by decide +kernel
theorem dL_law_253 : decode cL_law 253 = .ok (.iadd, 1) := by decide +kernel
theorem dL_law_254 : decode cL_law 254 = .ok (.iaload, 1) := by decide +kernel
theorem dL_law_255 : decode cL_law 255 = .ok (.aload_n 0, 1) := by decide +kernel
theorem dL_law_256 : decode cL_law 256 = .ok (.iload_n 3, 1) := by decide +kernel
theorem dL_law_257 : decode cL_law 257 = .ok (.iconst 2, 1) := by decide +kernel
theorem dL_law_258 : decode cL_law 258 = .ok (.iadd, 1) := by decide +kernel
theorem dL_law_259 : decode cL_law 259 = .ok (.iaload, 1) := by decide +kernel
theorem dL_law_260 : decode cL_law 260 = .ok (.invokevirtual 39, 3) := by decide +kernel
theorem dL_law_263 : decode cL_law 263 = .ok (.if_icmp .eq 441, 3) := by decide +kernel
theorem dL_law_266 : decode cL_law 266 = .ok (.iconst 0, 1) := by decide +kernel
theorem dL_law_267 : decode cL_law 267 = .ok (.ireturn, 1) := by decide +kernel
theorem dL_law_268 : decode cL_law 268 = .ok (.aload_n 1, 1) := by decide +kernel
theorem dL_law_269 : decode cL_law 269 = .ok (.aload_n 0, 1) := by decide +kernel
theorem dL_law_270 : decode cL_law 270 = .ok (.iload_n 3, 1) := by decide +kernel
theorem dL_law_271 : decode cL_law 271 = .ok (.iconst 1, 1) := by decide +kernel
theorem dL_law_272 : decode cL_law 272 = .ok (.iadd, 1) := by decide +kernel
theorem dL_law_273 : decode cL_law 273 = .ok (.iaload, 1) := by decide +kernel
theorem dL_law_274 : decode cL_law 274 = .ok (.invokevirtual 40, 3) := by decide +kernel
theorem dL_law_277 : decode cL_law 277 = .ok (.aload_n 2, 1) := by decide +kernel
theorem dL_law_278 : decode cL_law 278 = .ok (.aload_n 0, 1) := by decide +kernel
theorem dL_law_279 : decode cL_law 279 = .ok (.iload_n 3, 1) := by decide +kernel
theorem dL_law_280 : decode cL_law 280 = .ok (.iconst 1, 1) := by decide +kernel
theorem dL_law_281 : decode cL_law 281 = .ok (.iadd, 1) := by decide +kernel
theorem dL_law_282 : decode cL_law 282 = .ok (.iaload, 1) := by decide +kernel
theorem dL_law_283 : decode cL_law 283 = .ok (.invokevirtual 43, 3) := by decide +kernel
theorem dL_law_286 : decode cL_law 286 = .ok (.if_icmp .eq 418, 3) := by decide +kernel
theorem dL_law_289 : decode cL_law 289 = .ok (.iconst 0, 1) := by decide +kernel
theorem dL_law_290 : decode cL_law 290 = .ok (.ireturn, 1) := by decide +kernel
theorem dL_law_291 : decode cL_law 291 = .ok (.aload_n 1, 1) := by decide +kernel
theorem dL_law_292 : decode cL_law 292 = .ok (.aload_n 0, 1) := by decide +kernel
theorem dL_law_293 : decode cL_law 293 = .ok (.iload_n 3, 1) := by decide +kernel
theorem dL_law_294 : decode cL_law 294 = .ok (.iconst 1, 1) := by decide +kernel
theorem dL_law_295 : decode cL_law 295 = .ok (.iadd, 1) := by decide +kernel
theorem dL_law_296 : decode cL_law 296 = .ok (.iaload, 1) := by decide +kernel
theorem dL_law_297 : decode cL_law 297 = .ok (.invokevirtual 44, 3) := by decide +kernel
theorem dL_law_300 : decode cL_law 300 = .ok (.aload_n 2, 1) := by decide +kernel
theorem dL_law_301 : decode cL_law 301 = .ok (.aload_n 0, 1) := by decide +kernel
theorem dL_law_302 : decode cL_law 302 = .ok (.iload_n 3, 1) := by decide +kernel
theorem dL_law_303 : decode cL_law 303 = .ok (.iconst 1, 1) := by decide +kernel
theorem dL_law_304 : decode cL_law 304 = .ok (.iadd, 1) := by decide +kernel
theorem dL_law_305 : decode cL_law 305 = .ok (.iaload, 1) := by decide +kernel
theorem dL_law_306 : decode cL_law 306 = .ok (.invokevirtual 47, 3) := by decide +kernel
theorem dL_law_309 : decode cL_law 309 = .ok (.if_icmp .eq 395, 3) := by decide +kernel
theorem dL_law_312 : decode cL_law 312 = .ok (.iconst 0, 1) := by decide +kernel
theorem dL_law_313 : decode cL_law 313 = .ok (.ireturn, 1) := by decide +kernel
theorem dL_law_314 : decode cL_law 314 = .ok (.aload_n 1, 1) := by decide +kernel
theorem dL_law_315 : decode cL_law 315 = .ok (.aload_n 0, 1) := by decide +kernel
theorem dL_law_316 : decode cL_law 316 = .ok (.iload_n 3, 1) := by decide +kernel
theorem dL_law_317 : decode cL_law 317 = .ok (.iconst 1, 1) := by decide +kernel
theorem dL_law_318 : decode cL_law 318 = .ok (.iadd, 1) := by decide +kernel
theorem dL_law_319 : decode cL_law 319 = .ok (.iaload, 1) := by decide +kernel
theorem dL_law_320 : decode cL_law 320 = .ok (.aload_n 0, 1) := by decide +kernel
theorem dL_law_321 : decode cL_law 321 = .ok (.iload_n 3, 1) := by decide +kernel
theorem dL_law_322 : decode cL_law 322 = .ok (.iconst 2, 1) := by decide +kernel
theorem dL_law_323 : decode cL_law 323 = .ok (.iadd, 1) := by decide +kernel
theorem dL_law_324 : decode cL_law 324 = .ok (.iaload, 1) := by decide +kernel
theorem dL_law_325 : decode cL_law 325 = .ok (.invokevirtual 48, 3) := by decide +kernel
theorem dL_law_328 : decode cL_law 328 = .ok (.aload_n 2, 1) := by decide +kernel
theorem dL_law_329 : decode cL_law 329 = .ok (.aload_n 0, 1) := by decide +kernel
theorem dL_law_330 : decode cL_law 330 = .ok (.iload_n 3, 1) := by decide +kernel
theorem dL_law_331 : decode cL_law 331 = .ok (.iconst 1, 1) := by decide +kernel
theorem dL_law_332 : decode cL_law 332 = .ok (.iadd, 1) := by decide +kernel
theorem dL_law_333 : decode cL_law 333 = .ok (.iaload, 1) := by decide +kernel
theorem dL_law_334 : decode cL_law 334 = .ok (.aload_n 0, 1) := by decide +kernel
theorem dL_law_335 : decode cL_law 335 = .ok (.iload_n 3, 1) := by decide +kernel
theorem dL_law_336 : decode cL_law 336 = .ok (.iconst 2, 1) := by decide +kernel
theorem dL_law_337 : decode cL_law 337 = .ok (.iadd, 1) := by decide +kernel
theorem dL_law_338 : decode cL_law 338 = .ok (.iaload, 1) := by decide +kernel
theorem dL_law_339 : decode cL_law 339 = .ok (.invokevirtual 51, 3) := by decide +kernel
theorem dL_law_342 : decode cL_law 342 = .ok (.if_icmp .eq 362, 3) := by decide +kernel
theorem dL_law_345 : decode cL_law 345 = .ok (.iconst 0, 1) := by decide +kernel
theorem dL_law_346 : decode cL_law 346 = .ok (.ireturn, 1) := by decide +kernel
theorem dL_law_347 : decode cL_law 347 = .ok (.aload_n 1, 1) := by decide +kernel
theorem dL_law_348 : decode cL_law 348 = .ok (.invokevirtual 52, 3) := by decide +kernel
theorem dL_law_351 : decode cL_law 351 = .ok (.aload_n 2, 1) := by decide +kernel
theorem dL_law_352 : decode cL_law 352 = .ok (.invokevirtual 55, 3) := by decide +kernel
theorem dL_law_355 : decode cL_law 355 = .ok (.if_icmp .eq 349, 3) := by decide +kernel
theorem dL_law_358 : decode cL_law 358 = .ok (.iconst 0, 1) := by decide +kernel
theorem dL_law_359 : decode cL_law 359 = .ok (.ireturn, 1) := by decide +kernel
theorem dL_law_360 : decode cL_law 360 = .ok (.aload_n 1, 1) := by decide +kernel
theorem dL_law_361 : decode cL_law 361 = .ok (.invokevirtual 56, 3) := by decide +kernel
theorem dL_law_364 : decode cL_law 364 = .ok (.aload_n 2, 1) := by decide +kernel
theorem dL_law_365 : decode cL_law 365 = .ok (.invokevirtual 59, 3) := by decide +kernel
theorem dL_law_368 : decode cL_law 368 = .ok (.if_icmp .eq 336, 3) := by decide +kernel
theorem dL_law_371 : decode cL_law 371 = .ok (.iconst 0, 1) := by decide +kernel
theorem dL_law_372 : decode cL_law 372 = .ok (.ireturn, 1) := by decide +kernel
theorem dL_law_373 : decode cL_law 373 = .ok (.aload_n 1, 1) := by decide +kernel
theorem dL_law_374 : decode cL_law 374 = .ok (.invokevirtual 60, 3) := by decide +kernel
theorem dL_law_377 : decode cL_law 377 = .ok (.aload_n 2, 1) := by decide +kernel
theorem dL_law_378 : decode cL_law 378 = .ok (.invokevirtual 63, 3) := by decide +kernel
theorem dL_law_381 : decode cL_law 381 = .ok (.if_icmp .eq 323, 3) := by decide +kernel
theorem dL_law_384 : decode cL_law 384 = .ok (.iconst 0, 1) := by decide +kernel
theorem dL_law_385 : decode cL_law 385 = .ok (.ireturn, 1) := by decide +kernel
theorem dL_law_386 : decode cL_law 386 = .ok (.aload_n 1, 1) := by decide +kernel
theorem dL_law_387 : decode cL_law 387 = .ok (.aload_n 0, 1) := by decide +kernel
theorem dL_law_388 : decode cL_law 388 = .ok (.iload_n 3, 1) := by decide +kernel
theorem dL_law_389 : decode cL_law 389 = .ok (.iconst 1, 1) := by decide +kernel
theorem dL_law_390 : decode cL_law 390 = .ok (.iadd, 1) := by decide +kernel
theorem dL_law_391 : decode cL_law 391 = .ok (.iaload, 1) := by decide +kernel
theorem dL_law_392 : decode cL_law 392 = .ok (.invokevirtual 64, 3) := by decide +kernel
theorem dL_law_395 : decode cL_law 395 = .ok (.aload_n 2, 1) := by decide +kernel
theorem dL_law_396 : decode cL_law 396 = .ok (.aload_n 0, 1) := by decide +kernel
theorem dL_law_397 : decode cL_law 397 = .ok (.iload_n 3, 1) := by decide +kernel
theorem dL_law_398 : decode cL_law 398 = .ok (.iconst 1, 1) := by decide +kernel
theorem dL_law_399 : decode cL_law 399 = .ok (.iadd, 1) := by decide +kernel
theorem dL_law_400 : decode cL_law 400 = .ok (.iaload, 1) := by decide +kernel
theorem dL_law_401 : decode cL_law 401 = .ok (.invokevirtual 67, 3) := by decide +kernel
theorem dL_law_404 : decode cL_law 404 = .ok (.if_icmp .eq 300, 3) := by decide +kernel
theorem dL_law_407 : decode cL_law 407 = .ok (.iconst 0, 1) := by decide +kernel
theorem dL_law_408 : decode cL_law 408 = .ok (.ireturn, 1) := by decide +kernel
theorem dL_law_409 : decode cL_law 409 = .ok (.aload_n 1, 1) := by decide +kernel
theorem dL_law_410 : decode cL_law 410 = .ok (.aload_n 0, 1) := by decide +kernel
theorem dL_law_411 : decode cL_law 411 = .ok (.iload_n 3, 1) := by decide +kernel
theorem dL_law_412 : decode cL_law 412 = .ok (.iconst 1, 1) := by decide +kernel
theorem dL_law_413 : decode cL_law 413 = .ok (.iadd, 1) := by decide +kernel
theorem dL_law_414 : decode cL_law 414 = .ok (.iaload, 1) := by decide +kernel
theorem dL_law_415 : decode cL_law 415 = .ok (.invokevirtual 68, 3) := by decide +kernel
theorem dL_law_418 : decode cL_law 418 = .ok (.aload_n 2, 1) := by decide +kernel
theorem dL_law_419 : decode cL_law 419 = .ok (.aload_n 0, 1) := by decide +kernel
theorem dL_law_420 : decode cL_law 420 = .ok (.iload_n 3, 1) := by decide +kernel
theorem dL_law_421 : decode cL_law 421 = .ok (.iconst 1, 1) := by decide +kernel
theorem dL_law_422 : decode cL_law 422 = .ok (.iadd, 1) := by decide +kernel
theorem dL_law_423 : decode cL_law 423 = .ok (.iaload, 1) := by decide +kernel
theorem dL_law_424 : decode cL_law 424 = .ok (.invokevirtual 71, 3) := by decide +kernel
theorem dL_law_427 : decode cL_law 427 = .ok (.if_icmp .eq 277, 3) := by decide +kernel
theorem dL_law_430 : decode cL_law 430 = .ok (.iconst 0, 1) := by decide +kernel
theorem dL_law_431 : decode cL_law 431 = .ok (.ireturn, 1) := by decide +kernel
theorem dL_law_432 : decode cL_law 432 = .ok (.aload_n 1, 1) := by decide +kernel
theorem dL_law_433 : decode cL_law 433 = .ok (.aload_n 0, 1) := by decide +kernel
theorem dL_law_434 : decode cL_law 434 = .ok (.iload_n 3, 1) := by decide +kernel
theorem dL_law_435 : decode cL_law 435 = .ok (.iconst 1, 1) := by decide +kernel
theorem dL_law_436 : decode cL_law 436 = .ok (.iadd, 1) := by decide +kernel
theorem dL_law_437 : decode cL_law 437 = .ok (.iaload, 1) := by decide +kernel
theorem dL_law_438 : decode cL_law 438 = .ok (.invokevirtual 72, 3) := by decide +kernel
theorem dL_law_441 : decode cL_law 441 = .ok (.aload_n 2, 1) := by decide +kernel
theorem dL_law_442 : decode cL_law 442 = .ok (.aload_n 0, 1) := by decide +kernel
theorem dL_law_443 : decode cL_law 443 = .ok (.iload_n 3, 1) := by decide +kernel
theorem dL_law_444 : decode cL_law 444 = .ok (.iconst 1, 1) := by decide +kernel
theorem dL_law_445 : decode cL_law 445 = .ok (.iadd, 1) := by decide +kernel
theorem dL_law_446 : decode cL_law 446 = .ok (.iaload, 1) := by decide +kernel
theorem dL_law_447 : decode cL_law 447 = .ok (.invokevirtual 75, 3) := by decide +kernel
theorem dL_law_450 : decode cL_law 450 = .ok (.if_icmp .eq 254, 3) := by decide +kernel
theorem dL_law_453 : decode cL_law 453 = .ok (.iconst 0, 1) := by decide +kernel
theorem dL_law_454 : decode cL_law 454 = .ok (.ireturn, 1) := by decide +kernel
theorem dL_law_455 : decode cL_law 455 = .ok (.aload_n 1, 1) := by decide +kernel
theorem dL_law_456 : decode cL_law 456 = .ok (.aload_n 0, 1) := by decide +kernel
theorem dL_law_457 : decode cL_law 457 = .ok (.iload_n 3, 1) := by decide +kernel
theorem dL_law_458 : decode cL_law 458 = .ok (.iconst 1, 1) := by decide +kernel
theorem dL_law_459 : decode cL_law 459 = .ok (.iadd, 1) := by decide +kernel
theorem dL_law_460 : decode cL_law 460 = .ok (.iaload, 1) := by decide +kernel
theorem dL_law_461 : decode cL_law 461 = .ok (.invokevirtual 76, 3) := by decide +kernel
theorem dL_law_464 : decode cL_law 464 = .ok (.aload_n 2, 1) := by decide +kernel
theorem dL_law_465 : decode cL_law 465 = .ok (.aload_n 0, 1) := by decide +kernel
theorem dL_law_466 : decode cL_law 466 = .ok (.iload_n 3, 1) := by decide +kernel
theorem dL_law_467 : decode cL_law 467 = .ok (.iconst 1, 1) := by decide +kernel
theorem dL_law_468 : decode cL_law 468 = .ok (.iadd, 1) := by decide +kernel
theorem dL_law_469 : decode cL_law 469 = .ok (.iaload, 1) := by decide +kernel
theorem dL_law_470 : decode cL_law 470 = .ok (.invokevirtual 79, 3) := by decide +kernel
theorem dL_law_473 : decode cL_law 473 = .ok (.if_icmp .eq 231, 3) := by decide +kernel
theorem dL_law_476 : decode cL_law 476 = .ok (.iconst 0, 1) := by decide +kernel
theorem dL_law_477 : decode cL_law 477 = .ok (.ireturn, 1) := by decide +kernel
theorem dL_law_478 : decode cL_law 478 = .ok (.aload_n 1, 1) := by decide +kernel
theorem dL_law_479 : decode cL_law 479 = .ok (.invokevirtual 80, 3) := by decide +kernel
theorem dL_law_482 : decode cL_law 482 = .ok (.aload_n 2, 1) := by decide +kernel
theorem dL_law_483 : decode cL_law 483 = .ok (.invokevirtual 83, 3) := by decide +kernel
theorem dL_law_486 : decode cL_law 486 = .ok (.if_icmp .eq 218, 3) := by decide +kernel
theorem dL_law_489 : decode cL_law 489 = .ok (.iconst 0, 1) := by decide +kernel
theorem dL_law_490 : decode cL_law 490 = .ok (.ireturn, 1) := by decide +kernel
theorem dL_law_491 : decode cL_law 491 = .ok (.aload_n 1, 1) := by decide +kernel
theorem dL_law_492 : decode cL_law 492 = .ok (.invokevirtual 84, 3) := by decide +kernel
theorem dL_law_495 : decode cL_law 495 = .ok (.aload_n 2, 1) := by decide +kernel
theorem dL_law_496 : decode cL_law 496 = .ok (.invokevirtual 87, 3) := by decide +kernel
theorem dL_law_499 : decode cL_law 499 = .ok (.if_icmp .eq 205, 3) := by decide +kernel
theorem dL_law_502 : decode cL_law 502 = .ok (.iconst 0, 1) := by decide +kernel
theorem dL_law_503 : decode cL_law 503 = .ok (.ireturn, 1) := by decide +kernel
theorem dL_law_504 : decode cL_law 504 = .ok (.aload_n 1, 1) := by decide +kernel
theorem dL_law_505 : decode cL_law 505 = .ok (.invokevirtual 88, 3) := by decide +kernel
theorem dL_law_508 : decode cL_law 508 = .ok (.aload_n 2, 1) := by decide +kernel
theorem dL_law_509 : decode cL_law 509 = .ok (.invokevirtual 91, 3) := by decide +kernel
theorem dL_law_512 : decode cL_law 512 = .ok (.if_icmp .eq 192, 3) := by decide +kernel
theorem dL_law_515 : decode cL_law 515 = .ok (.iconst 0, 1) := by decide +kernel
theorem dL_law_516 : decode cL_law 516 = .ok (.ireturn, 1) := by decide +kernel
theorem dL_law_517 : decode cL_law 517 = .ok (.aload_n 1, 1) := by decide +kernel
theorem dL_law_518 : decode cL_law 518 = .ok (.aload_n 0, 1) := by decide +kernel
theorem dL_law_519 : decode cL_law 519 = .ok (.iload_n 3, 1) := by decide +kernel
theorem dL_law_520 : decode cL_law 520 = .ok (.iconst 1, 1) := by decide +kernel
theorem dL_law_521 : decode cL_law 521 = .ok (.iadd, 1) := by decide +kernel
theorem dL_law_522 : decode cL_law 522 = .ok (.iaload, 1) := by decide +kernel
theorem dL_law_523 : decode cL_law 523 = .ok (.invokevirtual 92, 3) := by decide +kernel
theorem dL_law_526 : decode cL_law 526 = .ok (.aload_n 2, 1) := by decide +kernel
theorem dL_law_527 : decode cL_law 527 = .ok (.aload_n 0, 1) := by decide +kernel
theorem dL_law_528 : decode cL_law 528 = .ok (.iload_n 3, 1) := by decide +kernel
theorem dL_law_529 : decode cL_law 529 = .ok (.iconst 1, 1) := by decide +kernel
theorem dL_law_530 : decode cL_law 530 = .ok (.iadd, 1) := by decide +kernel
theorem dL_law_531 : decode cL_law 531 = .ok (.iaload, 1) := by decide +kernel
theorem dL_law_532 : decode cL_law 532 = .ok (.invokevirtual 95, 3) := by decide +kernel
theorem dL_law_535 : decode cL_law 535 = .ok (.if_icmp .eq 169, 3) := by decide +kernel
theorem dL_law_538 : decode cL_law 538 = .ok (.iconst 0, 1) := by decide +kernel
theorem dL_law_539 : decode cL_law 539 = .ok (.ireturn, 1) := by decide +kernel
theorem dL_law_540 : decode cL_law 540 = .ok (.aload_n 1, 1) := by decide +kernel
theorem dL_law_541 : decode cL_law 541 = .ok (.aload_n 0, 1) := by decide +kernel
theorem dL_law_542 : decode cL_law 542 = .ok (.iload_n 3, 1) := by decide +kernel
theorem dL_law_543 : decode cL_law 543 = .ok (.iconst 1, 1) := by decide +kernel
theorem dL_law_544 : decode cL_law 544 = .ok (.iadd, 1) := by decide +kernel
theorem dL_law_545 : decode cL_law 545 = .ok (.iaload, 1) := by decide +kernel
theorem dL_law_546 : decode cL_law 546 = .ok (.invokevirtual 96, 3) := by decide +kernel
theorem dL_law_549 : decode cL_law 549 = .ok (.aload_n 2, 1) := by decide +kernel
theorem dL_law_550 : decode cL_law 550 = .ok (.aload_n 0, 1) := by decide +kernel
theorem dL_law_551 : decode cL_law 551 = .ok (.iload_n 3, 1) := by decide +kernel
theorem dL_law_552 : decode cL_law 552 = .ok (.iconst 1, 1) := by decide +kernel
theorem dL_law_553 : decode cL_law 553 = .ok (.iadd, 1) := by decide +kernel
theorem dL_law_554 : decode cL_law 554 = .ok (.iaload, 1) := by decide +kernel
theorem dL_law_555 : decode cL_law 555 = .ok (.invokevirtual 99, 3) := by decide +kernel
theorem dL_law_558 : decode cL_law 558 = .ok (.if_icmp .eq 146, 3) := by decide +kernel
theorem dL_law_561 : decode cL_law 561 = .ok (.iconst 0, 1) := by decide +kernel
theorem dL_law_562 : decode cL_law 562 = .ok (.ireturn, 1) := by decide +kernel
theorem dL_law_563 : decode cL_law 563 = .ok (.aload_n 1, 1) := by decide +kernel
theorem dL_law_564 : decode cL_law 564 = .ok (.aload_n 0, 1) := by decide +kernel
theorem dL_law_565 : decode cL_law 565 = .ok (.iload_n 3, 1) := by decide +kernel
theorem dL_law_566 : decode cL_law 566 = .ok (.iconst 1, 1) := by decide +kernel
theorem dL_law_567 : decode cL_law 567 = .ok (.iadd, 1) := by decide +kernel
theorem dL_law_568 : decode cL_law 568 = .ok (.iaload, 1) := by decide +kernel
theorem dL_law_569 : decode cL_law 569 = .ok (.invokevirtual 100, 3) := by decide +kernel
theorem dL_law_572 : decode cL_law 572 = .ok (.aload_n 2, 1) := by decide +kernel
theorem dL_law_573 : decode cL_law 573 = .ok (.aload_n 0, 1) := by decide +kernel
theorem dL_law_574 : decode cL_law 574 = .ok (.iload_n 3, 1) := by decide +kernel
theorem dL_law_575 : decode cL_law 575 = .ok (.iconst 1, 1) := by decide +kernel
theorem dL_law_576 : decode cL_law 576 = .ok (.iadd, 1) := by decide +kernel
theorem dL_law_577 : decode cL_law 577 = .ok (.iaload, 1) := by decide +kernel
theorem dL_law_578 : decode cL_law 578 = .ok (.invokevirtual 103, 3) := by decide +kernel
theorem dL_law_581 : decode cL_law 581 = .ok (.if_icmp .eq 123, 3) := by decide +kernel
theorem dL_law_584 : decode cL_law 584 = .ok (.iconst 0, 1) := by decide +kernel
theorem dL_law_585 : decode cL_law 585 = .ok (.ireturn, 1) := by decide +kernel
theorem dL_law_586 : decode cL_law 586 = .ok (.aload_n 1, 1) := by decide +kernel
theorem dL_law_587 : decode cL_law 587 = .ok (.aload_n 0, 1) := by decide +kernel
theorem dL_law_588 : decode cL_law 588 = .ok (.iload_n 3, 1) := by decide +kernel
theorem dL_law_589 : decode cL_law 589 = .ok (.iconst 1, 1) := by decide +kernel
theorem dL_law_590 : decode cL_law 590 = .ok (.iadd, 1) := by decide +kernel
theorem dL_law_591 : decode cL_law 591 = .ok (.iaload, 1) := by decide +kernel
theorem dL_law_592 : decode cL_law 592 = .ok (.aload_n 0, 1) := by decide +kernel
theorem dL_law_593 : decode cL_law 593 = .ok (.iload_n 3, 1) := by decide +kernel
theorem dL_law_594 : decode cL_law 594 = .ok (.iconst 2, 1) := by decide +kernel
theorem dL_law_595 : decode cL_law 595 = .ok (.iadd, 1) := by decide +kernel
theorem dL_law_596 : decode cL_law 596 = .ok (.iaload, 1) := by decide +kernel
theorem dL_law_597 : decode cL_law 597 = .ok (.invokevirtual 104, 3) := by decide +kernel
theorem dL_law_600 : decode cL_law 600 = .ok (.aload_n 2, 1) := by decide +kernel
theorem dL_law_601 : decode cL_law 601 = .ok (.aload_n 0, 1) := by decide +kernel
theorem dL_law_602 : decode cL_law 602 = .ok (.iload_n 3, 1) := by decide +kernel
theorem dL_law_603 : decode cL_law 603 = .ok (.iconst 1, 1) := by decide +kernel
theorem dL_law_604 : decode cL_law 604 = .ok (.iadd, 1) := by decide +kernel
theorem dL_law_605 : decode cL_law 605 = .ok (.iaload, 1) := by decide +kernel
theorem dL_law_606 : decode cL_law 606 = .ok (.aload_n 0, 1) := by decide +kernel
theorem dL_law_607 : decode cL_law 607 = .ok (.iload_n 3, 1) := by decide +kernel
theorem dL_law_608 : decode cL_law 608 = .ok (.iconst 2, 1) := by decide +kernel
theorem dL_law_609 : decode cL_law 609 = .ok (.iadd, 1) := by decide +kernel
theorem dL_law_610 : decode cL_law 610 = .ok (.iaload, 1) := by decide +kernel
theorem dL_law_611 : decode cL_law 611 = .ok (.invokevirtual 107, 3) := by decide +kernel
theorem dL_law_614 : decode cL_law 614 = .ok (.if_icmp .eq 90, 3) := by decide +kernel
theorem dL_law_617 : decode cL_law 617 = .ok (.iconst 0, 1) := by decide +kernel
theorem dL_law_618 : decode cL_law 618 = .ok (.ireturn, 1) := by decide +kernel
theorem dL_law_619 : decode cL_law 619 = .ok (.aload_n 1, 1) := by decide +kernel
theorem dL_law_620 : decode cL_law 620 = .ok (.aload_n 0, 1) := by decide +kernel
theorem dL_law_621 : decode cL_law 621 = .ok (.iload_n 3, 1) := by decide +kernel
theorem dL_law_622 : decode cL_law 622 = .ok (.iconst 1, 1) := by decide +kernel
theorem dL_law_623 : decode cL_law 623 = .ok (.iadd, 1) := by decide +kernel
theorem dL_law_624 : decode cL_law 624 = .ok (.iaload, 1) := by decide +kernel
theorem dL_law_625 : decode cL_law 625 = .ok (.invokevirtual 108, 3) := by decide +kernel
theorem dL_law_628 : decode cL_law 628 = .ok (.aload_n 2, 1) := by decide +kernel
theorem dL_law_629 : decode cL_law 629 = .ok (.aload_n 0, 1) := by decide +kernel
theorem dL_law_630 : decode cL_law 630 = .ok (.iload_n 3, 1) := by decide +kernel
theorem dL_law_631 : decode cL_law 631 = .ok (.iconst 1, 1) := by decide +kernel
theorem dL_law_632 : decode cL_law 632 = .ok (.iadd, 1) := by decide +kernel
theorem dL_law_633 : decode cL_law 633 = .ok (.iaload, 1) := by decide +kernel
theorem dL_law_634 : decode cL_law 634 = .ok (.invokevirtual 111, 3) := by decide +kernel
theorem dL_law_637 : decode cL_law 637 = .ok (.if_icmp .eq 67, 3) := by decide +kernel
theorem dL_law_640 : decode cL_law 640 = .ok (.iconst 0, 1) := by decide +kernel
theorem dL_law_641 : decode cL_law 641 = .ok (.ireturn, 1) := by decide +kernel
theorem dL_law_642 : decode cL_law 642 = .ok (.aload_n 1, 1) := by decide +kernel
theorem dL_law_643 : decode cL_law 643 = .ok (.aload_n 0, 1) := by decide +kernel
theorem dL_law_644 : decode cL_law 644 = .ok (.iload_n 3, 1) := by decide +kernel
theorem dL_law_645 : decode cL_law 645 = .ok (.iconst 1, 1) := by decide +kernel
theorem dL_law_646 : decode cL_law 646 = .ok (.iadd, 1) := by decide +kernel
theorem dL_law_647 : decode cL_law 647 = .ok (.iaload, 1) := by decide +kernel
theorem dL_law_648 : decode cL_law 648 = .ok (.invokevirtual 112, 3) := by decide +kernel
theorem dL_law_651 : decode cL_law 651 = .ok (.aload_n 2, 1) := by decide +kernel
theorem dL_law_652 : decode cL_law 652 = .ok (.aload_n 0, 1) := by decide +kernel
theorem dL_law_653 : decode cL_law 653 = .ok (.iload_n 3, 1) := by decide +kernel
theorem dL_law_654 : decode cL_law 654 = .ok (.iconst 1, 1) := by decide +kernel
theorem dL_law_655 : decode cL_law 655 = .ok (.iadd, 1) := by decide +kernel
theorem dL_law_656 : decode cL_law 656 = .ok (.iaload, 1) := by decide +kernel
theorem dL_law_657 : decode cL_law 657 = .ok (.invokevirtual 115, 3) := by decide +kernel
theorem dL_law_660 : decode cL_law 660 = .ok (.if_icmp .eq 44, 3) := by decide +kernel
theorem dL_law_663 : decode cL_law 663 = .ok (.iconst 0, 1) := by decide +kernel
theorem dL_law_664 : decode cL_law 664 = .ok (.ireturn, 1) := by decide +kernel
theorem dL_law_665 : decode cL_law 665 = .ok (.aload_n 1, 1) := by decide +kernel
theorem dL_law_666 : decode cL_law 666 = .ok (.invokevirtual 116, 3) := by decide +kernel
theorem dL_law_669 : decode cL_law 669 = .ok (.aload_n 2, 1) := by decide +kernel
theorem dL_law_670 : decode cL_law 670 = .ok (.invokevirtual 119, 3) := by decide +kernel
theorem dL_law_673 : decode cL_law 673 = .ok (.if_icmp .eq 31, 3) := by decide +kernel
theorem dL_law_676 : decode cL_law 676 = .ok (.iconst 0, 1) := by decide +kernel
theorem dL_law_677 : decode cL_law 677 = .ok (.ireturn, 1) := by decide +kernel
theorem dL_law_678 : decode cL_law 678 = .ok (.aload_n 1, 1) := by decide +kernel
theorem dL_law_679 : decode cL_law 679 = .ok (.invokevirtual 120, 3) := by decide +kernel
theorem dL_law_682 : decode cL_law 682 = .ok (.aload_n 2, 1) := by decide +kernel
theorem dL_law_683 : decode cL_law 683 = .ok (.invokevirtual 123, 3) := by decide +kernel
theorem dL_law_686 : decode cL_law 686 = .ok (.if_icmp .eq 18, 3) := by decide +kernel
theorem dL_law_689 : decode cL_law 689 = .ok (.iconst 0, 1) := by decide +kernel
theorem dL_law_690 : decode cL_law 690 = .ok (.ireturn, 1) := by decide +kernel
theorem dL_law_691 : decode cL_law 691 = .ok (.aload_n 1, 1) := by decide +kernel
theorem dL_law_692 : decode cL_law 692 = .ok (.invokevirtual 124, 3) := by decide +kernel
theorem dL_law_695 : decode cL_law 695 = .ok (.aload_n 2, 1) := by decide +kernel
theorem dL_law_696 : decode cL_law 696 = .ok (.invokevirtual 127, 3) := by decide +kernel
theorem dL_law_699 : decode cL_law 699 = .ok (.if_icmp .eq 5, 3) := by decide +kernel
theorem dL_law_702 : decode cL_law 702 = .ok (.iconst 0, 1) := by decide +kernel
theorem dL_law_703 : decode cL_law 703 = .ok (.ireturn, 1) := by decide +kernel
theorem dL_law_704 : decode cL_law 704 = .ok (.iinc 3 3, 3) := by decide +kernel
theorem dL_law_707 : decode cL_law 707 = .ok (.goto (-689), 3) := by decide +kernel
theorem dL_law_710 : decode cL_law 710 = .ok (.iconst 1, 1) := by decide +kernel
theorem dL_law_711 : decode cL_law 711 = .ok (.ireturn, 1) := by decide +kernel
end
section
/-! OWN ROWS: contracts over this claim's worlds, in numbers (nI n), and rows that use them -/
abbrev GG : Type := va_G × (Nat → ClassId)
abbrev tyA (g : GG) : List (ClassId × FieldType) := [(g.2 0, .int), (g.2 1, .char), (g.2 2, .array .int), (g.2 3, .object "EdgeCounterPlacer$Placement"), (g.2 4, .object "EdgeCounterPlacer$Simulation")]
def nst : List Cond := [.methodLinkNest RX6 9 yX1_init RX6, .methodLinkNest RX6 18 yX5_init RX6, .methodLinkNest RX6 25 yX3_init RX6, .methodLinkNest RX6 32 yX4_init RX6, .methodLinkNest RX2 23 yX3_init RX6, .methodLinkNest RX2 24 yX4_init RX6, .methodLinkNest RX6 46 yX0_init RX6, .methodLinkNest RX5 81 yX6_holds RX6, .methodLinkNest RX0 61 yX6_holds RX6, .methodLinkNest RX3 32 yX6_holds RX6]
theorem nst_form : ∀ w ∈ nst, ∃ (a : String) (i : Nat) (x : MethodName) (h : String), w = .methodLinkNest a i x h := by
  intro w hw
  simp only [nst, List.mem_cons, List.not_mem_nil, or_false] at hw
  rcases hw with rfl | rfl | rfl | rfl | rfl | rfl | rfl | rfl | rfl | rfl <;> exact ⟨_, _, _, _, rfl⟩
/-- what every contract takes of the tables beside its words: the classes, the array kinds, the nest links -/
def SK (g : GG) (U : State) : Prop := va_K g.1 vwCl (tyA g) U ∧ ∀ w ∈ nst, va_Nw w U
theorem SK.warm {g : GG} {s U : State} (h : SK g s) (hW : s.WarmedH U.vm) : SK g U := ⟨va_K.moved hW.alike h.1, fun w hw => by
  have h2 := h.2 w hw
  obtain ⟨a, i, x, h, rfl⟩ := nst_form w hw
  exact va_Nw.warmM hW h2⟩
theorem SK.same {g : GG} {s U : State} (h : SK g s) (hv : s.vm = U.vm) : SK g U := ⟨va_K.moved (by rw [hv]; exact Vm.Alike.refl _) h.1, fun w hw => by
  have h2 := h.2 w hw
  obtain ⟨a, i, x, h, rfl⟩ := nst_form w hw
  exact va_Nw.same rfl hv h2⟩
theorem SK.at {g : GG} {s : State} (h : SK g s) (i : Nat) {w : Cond} (hw : nst[i]? = some w) : va_Nw w s := h.2 w (List.mem_of_getElem? hw)
/-- a method that changes nothing and answers the int r -/
def PuN (l : Launch) (g : GG) (y : MethodName) (ws : List Cond) (rm : Room) (av : List Value) (w : va_W) (r : Int32) : Prop :=
  Met l y ws rm (va_Pc av (fun U => va_P g.1 vwCl w U.heap ∧ SK g U)) (vp_Si (fun v => v = r)) 0 0 (fun _ => False)
/-- a method that changes nothing and answers whether P -/
def PuB (l : Launch) (g : GG) (y : MethodName) (ws : List Cond) (rm : Room) (av : List Value) (w : va_W) (P : Prop) : Prop :=
  Met l y ws rm (va_Pc av (fun U => va_P g.1 vwCl w U.heap ∧ SK g U)) (vp_Si (fun v => (v = 1 ∧ P) ∨ (v = 0 ∧ ¬ P))) 0 0 (fun _ => False)
/-- a method that makes w' of the cells w -/
def MuV (l : Launch) (g : GG) (y : MethodName) (ws : List Cond) (rm : Room) (av : List Value) (w w' : va_W) : Prop :=
  ∀ sz : Nat, Met l y ws rm (va_Pc av (fun U => U.heap.size = sz ∧ va_P g.1 vwCl w U.heap ∧ SK g U ∧ va_D (fun _ => True) w)) (va_Qv (fun _ : Unit => True) (fun _ t => va_P g.1 vwCl w' t.heap ∧ va_D (va_A w sz) w') (va_A w sz)) 0 0 (va_A w sz)
/-- a method that makes w' of the cells w and answers the int r -/
def MuN (l : Launch) (g : GG) (y : MethodName) (ws : List Cond) (rm : Room) (av : List Value) (w w' : va_W) (r : Int32) : Prop :=
  ∀ sz : Nat, Met l y ws rm (va_Pc av (fun U => U.heap.size = sz ∧ va_P g.1 vwCl w U.heap ∧ SK g U ∧ va_D (fun _ => True) w)) (va_Qi (fun (v : Int32) (_ : Unit) => v = r) (fun _ t => va_P g.1 vwCl w' t.heap ∧ va_D (va_A w sz) w') (va_A w sz)) 0 0 (va_A w sz)
section KMK
variable {l : Launch} {g : GG} {y : MethodName} {ws ws' : List Cond} {rm : Room} {av : List Value} {w w' : va_W} {cc : ByteArray} {maxL : Nat} {ret : Option FieldType} {lv0 : List (Nat × Value)}
theorem pre_blind {B : State → Prop} (h : ∀ (U : State) (gf : JFrame) (mk : MethodId) (a : Array Value), B U → B (U.calling gf mk a)) : FrameBlind (va_Pc av B) := fun a U gf mk q => ⟨q.1, h U gf mk a q.2⟩
theorem PuS.mk {post : Int32 → Prop} {ty : FieldType} (hy : plainName y.cls = true) (hw : ws = Cond.code y cc maxL (some ty) :: ws') (hn : (lg_sl av).length ≤ maxL) (hlv : lv_args 0 av = lv0) (hnar : ∀ v, post v → narrow ty (.int v) = .int v)
    (body : ∀ (p : Program) (e : Env) (s : State) (m : MethodId) (below : List Frame) (meth : Method) (c : Code) (ls : Array Slot) (Q : State → Prop), p.tables.exec = Jvm.exec → c.code = cc → (∀ x ∈ ws, x.before av.toArray s = true) → s.vm.findClass y.cls = some m.cls → c.maxLocals = maxL → SK g s → va_P g.1 vwCl w s.heap → lv_has ls maxL lv0 →
      (∀ (pc : Nat) (ls : Array Slot) (v : Int32), post v → decode cc pc = .ok (.ireturn, 1) → W p l e rm s m av.toArray below meth c s.heap [] 0 0 Q (F0 m pc ls [.int v])) → W p l e rm s m av.toArray below meth c s.heap [] 0 0 Q (F0 m 0 ls [])) :
    Met l y ws rm (va_Pc av (fun U => va_P g.1 vwCl w U.heap ∧ SK g U)) (vp_Si post) 0 0 (fun _ => False) := by
  refine Met.ofW (cc := cc) (maxL := maxL) (ret := some ty) hy hw ?_
  intro p e s m args below meth c s₁ B hml hv
  obtain ⟨rfl, hP, hN⟩ := hv
  have hl := lv_entry av (n := maxL) hn
  rw [lg_entry_eq]
  generalize (lg_sl av ++ List.replicate (maxL - (lg_sl av).length) Slot.unset).toArray = ls at hl ⊢
  rw [hlv] at hl
  refine body p e s m below meth c ls _ B.exec B.bytes (atoms_spec (ws := ws) B.pre) (findClass_of_methodNamed B.named) hml hN hP hl (fun pc ls v hp hdg => ?_)
  exact W.zret B.exec B.bytes B.returns (hnar v hp) (fun t ht _ => ⟨v, rfl, hp, ht⟩) (fun q hq => absurd hq List.not_mem_nil) hdg B.notSynchronized
theorem PuN.mk {ty : FieldType} {r : Int32} (hy : plainName y.cls = true) (hw : ws = Cond.code y cc maxL (some ty) :: ws') (hn : (lg_sl av).length ≤ maxL) (hlv : lv_args 0 av = lv0) (hnar : narrow ty (.int r) = .int r)
    (body : ∀ (p : Program) (e : Env) (s : State) (m : MethodId) (below : List Frame) (meth : Method) (c : Code) (ls : Array Slot) (Q : State → Prop), p.tables.exec = Jvm.exec → c.code = cc → (∀ x ∈ ws, x.before av.toArray s = true) → s.vm.findClass y.cls = some m.cls → c.maxLocals = maxL → SK g s → va_P g.1 vwCl w s.heap → lv_has ls maxL lv0 →
      (∀ (pc : Nat) (ls : Array Slot), decode cc pc = .ok (.ireturn, 1) → W p l e rm s m av.toArray below meth c s.heap [] 0 0 Q (F0 m pc ls [.int r])) → W p l e rm s m av.toArray below meth c s.heap [] 0 0 Q (F0 m 0 ls [])) :
    PuN l g y ws rm av w r :=
  PuS.mk hy hw hn hlv (fun v hv => by rw [hv]; exact hnar) (fun p e s m below meth c ls Q hx hb hts hown hml hN hP hl hret => body p e s m below meth c ls Q hx hb hts hown hml hN hP hl (fun pc ls hdg => hret pc ls r rfl hdg))
theorem PuB.mk {P : Prop} (hy : plainName y.cls = true) (hw : ws = Cond.code y cc maxL (some .boolean) :: ws') (hn : (lg_sl av).length ≤ maxL) (hlv : lv_args 0 av = lv0)
    (body : ∀ (p : Program) (e : Env) (s : State) (m : MethodId) (below : List Frame) (meth : Method) (c : Code) (ls : Array Slot) (Q : State → Prop), p.tables.exec = Jvm.exec → c.code = cc → (∀ x ∈ ws, x.before av.toArray s = true) → s.vm.findClass y.cls = some m.cls → c.maxLocals = maxL → SK g s → va_P g.1 vwCl w s.heap → lv_has ls maxL lv0 →
      (∀ (pc : Nat) (ls : Array Slot), P → decode cc pc = .ok (.ireturn, 1) → W p l e rm s m av.toArray below meth c s.heap [] 0 0 Q (F0 m pc ls [.int (nI 1)])) →
      (∀ (pc : Nat) (ls : Array Slot), ¬ P → decode cc pc = .ok (.ireturn, 1) → W p l e rm s m av.toArray below meth c s.heap [] 0 0 Q (F0 m pc ls [.int (nI 0)])) → W p l e rm s m av.toArray below meth c s.heap [] 0 0 Q (F0 m 0 ls [])) :
    PuB l g y ws rm av w P :=
  PuS.mk hy hw hn hlv (fun v hv => by rcases hv with ⟨rfl, -⟩ | ⟨rfl, -⟩ <;> rfl) (fun p e s m below meth c ls Q hx hb hts hown hml hN hP hl hret => body p e s m below meth c ls Q hx hb hts hown hml hN hP hl (fun pc ls h hdg => hret pc ls _ (Or.inl ⟨rfl, h⟩) hdg) (fun pc ls h hdg => hret pc ls _ (Or.inr ⟨rfl, h⟩) hdg))
theorem MuV.mk (hy : plainName y.cls = true) (hw : ws = Cond.code y cc maxL none :: ws') (hn : (lg_sl av).length ≤ maxL) (hlv : lv_args 0 av = lv0)
    (body : ∀ (p : Program) (e : Env) (s : State) (m : MethodId) (below : List Frame) (meth : Method) (c : Code) (ls : Array Slot) (Q : State → Prop) (A : Nat → Prop), p.tables.exec = Jvm.exec → c.code = cc → (∀ x ∈ ws, x.before av.toArray s = true) → s.vm.findClass y.cls = some m.cls → c.maxLocals = maxL → SK g s → va_P g.1 vwCl w s.heap → va_D A w → (∀ q : Nat, s.heap.size ≤ q → A q) → va_S A s.heap s.heap [] → lv_has ls maxL lv0 →
      (∀ (pc : Nat) (ls : Array Slot) (H : Heap) (locs : List Loc), va_P g.1 vwCl w' H → va_D A w' → va_S A s.heap H locs → decode cc pc = .ok (.return_, 1) → W p l e rm s m av.toArray below meth c H locs 0 0 Q (F0 m pc ls [])) → W p l e rm s m av.toArray below meth c s.heap [] 0 0 Q (F0 m 0 ls [])) :
    MuV l g y ws rm av w w' := by
  intro sz
  refine Met.ofW (cc := cc) (maxL := maxL) (ret := none) hy hw ?_
  intro p e s m args below meth c s₁ B hml hv
  obtain ⟨rfl, hsz, hP, hN, hD0⟩ := hv
  subst hsz
  have hl := lv_entry av (n := maxL) hn
  rw [lg_entry_eq]
  generalize (lg_sl av ++ List.replicate (maxL - (lg_sl av).length) Slot.unset).toArray = ls at hl ⊢
  rw [hlv] at hl
  refine body p e s m below meth c ls _ (va_A w s.heap.size) B.exec B.bytes (atoms_spec (ws := ws) B.pre) (findClass_of_methodNamed B.named) hml hN hP hD0.self (fun q h => Or.inr h) va_S.rf hl (fun pc ls H locs hP hD hS hdg => ?_)
  exact W.vret B.exec B.bytes B.returns (fun t ht _ => ⟨⟨(), rfl, trivial, by rw [ht]; exact hP, hD⟩, hS.F ht⟩) hS.2.2 hdg B.notSynchronized
theorem MuN.mk {ty : FieldType} {r : Int32} (hy : plainName y.cls = true) (hw : ws = Cond.code y cc maxL (some ty) :: ws') (hn : (lg_sl av).length ≤ maxL) (hlv : lv_args 0 av = lv0) (hnar : narrow ty (.int r) = .int r)
    (body : ∀ (p : Program) (e : Env) (s : State) (m : MethodId) (below : List Frame) (meth : Method) (c : Code) (ls : Array Slot) (Q : State → Prop) (A : Nat → Prop), p.tables.exec = Jvm.exec → c.code = cc → (∀ x ∈ ws, x.before av.toArray s = true) → s.vm.findClass y.cls = some m.cls → c.maxLocals = maxL → SK g s → va_P g.1 vwCl w s.heap → va_D A w → (∀ q : Nat, s.heap.size ≤ q → A q) → va_S A s.heap s.heap [] → lv_has ls maxL lv0 →
      (∀ (pc : Nat) (ls : Array Slot) (H : Heap) (locs : List Loc), va_P g.1 vwCl w' H → va_D A w' → va_S A s.heap H locs → decode cc pc = .ok (.ireturn, 1) → W p l e rm s m av.toArray below meth c H locs 0 0 Q (F0 m pc ls [.int r])) → W p l e rm s m av.toArray below meth c s.heap [] 0 0 Q (F0 m 0 ls [])) :
    MuN l g y ws rm av w w' r := by
  intro sz
  refine Met.ofW (cc := cc) (maxL := maxL) (ret := some ty) hy hw ?_
  intro p e s m args below meth c s₁ B hml hv
  obtain ⟨rfl, hsz, hP, hN, hD0⟩ := hv
  subst hsz
  have hl := lv_entry av (n := maxL) hn
  rw [lg_entry_eq]
  generalize (lg_sl av ++ List.replicate (maxL - (lg_sl av).length) Slot.unset).toArray = ls at hl ⊢
  rw [hlv] at hl
  refine body p e s m below meth c ls _ (va_A w s.heap.size) B.exec B.bytes (atoms_spec (ws := ws) B.pre) (findClass_of_methodNamed B.named) hml hN hP hD0.self (fun q h => Or.inr h) va_S.rf hl (fun pc ls H locs hP hD hS hdg => ?_)
  exact W.zret B.exec B.bytes B.returns hnar (fun t ht _ => ⟨⟨r, (), rfl, rfl, by rw [ht]; exact hP, hD⟩, hS.F ht⟩) hS.2.2 hdg B.notSynchronized
end KMK
section KCALL
variable {p : Program} {l : Launch} {e : Env} {R : Room} {s : State} {m : MethodId} {args : Array Value} {below : List Frame} {meth : Method} {c : Code} {H : Heap} {locs : List Loc} {cells slots : Nat} {Q : State → Prop}
variable {g : GG} {y : MethodName} {bytes cc : ByteArray} {maxL nL n index pc : Nat} {ret : Option FieldType} {ws : List Cond} {rm : Room} {Ts : List Cond} {own C host : String} {b : Addr} {As rest st0 : List Value} {ls : Array Slot} {w w' ws0 wr : va_W} {r : Int32} {P : Prop} {A0 : Nat → Prop} {H0 : Heap}
theorem pu_run {post : Int32 → Prop} {a : Array Value} (hr : va_Run p l e R s m args below meth c H locs cells slots 0 0 (F0 m pc ls st0) rest (vp_Si post a) (fun _ => False))
    (kk : ∀ r : Int32, post r → W p l e R s m args below meth c H locs cells slots Q (F0 m (pc + 3) ls (.int r :: rest))) : W p l e R s m args below meth c H locs cells slots Q (F0 m pc ls st0) := by
  intro T hT X
  obtain ⟨v, st₀, t, T', L, h0, X', hL, e1, -, ⟨r, hv, hp, hh⟩, st⟩ := hr T hT X
  cases hv
  obtain ⟨t2, a1, b1⟩ := kk r hp T' (by rw [e1, hh, h0]) (Stand.forget X' (fun q h => (hL q h).elim))
  exact ⟨t2, st t2 a1, b1⟩
theorem pu_blind {av : List Value} : FrameBlind (va_Pc av (fun U => va_P g.1 vwCl w U.heap ∧ SK g U)) := pre_blind (fun U gf mk a q => ⟨q.1, q.2.same (U := U.calling gf mk a) rfl⟩)
theorem mu_blind {av : List Value} {sz : Nat} : FrameBlind (va_Pc av (fun U => U.heap.size = sz ∧ va_P g.1 vwCl w U.heap ∧ SK g U ∧ va_D (fun _ => True) w)) := pre_blind (fun U gf mk a q => ⟨q.1, q.2.1, q.2.2.1.same (U := U.calling gf mk a) rfl, q.2.2.2⟩)
theorem rcv (hN : SK g s) (hP : va_P g.1 vwCl w H) (q0 ci : Nat) {fs : List Value} {q : vw_C} (he : w[q0]? = some (b, .inr (ci, fs))) (hc : vwCl[ci]? = some q) (hq : q.1 = C) : ∃ cellB : Cell, H[b]? = some cellB ∧ cellB.vm.isStatics = false ∧ s.vm.findClass C = some cellB.cls := by
  subst hq
  exact va_recv hN.1 hP hc he
theorem cV_N (S : CallFix p m c cc nL s args Ts own) (hM : PuN l g y ws rm (.ref b :: As) w r) (cw : CallW R s args own C index y bytes maxL ret ws rm 0 0 n) (hN : SK g s) (hP : va_P g.1 vwCl w H) (hv : ∃ cellB : Cell, H[b]? = some cellB ∧ cellB.vm.isStatics = false ∧ s.vm.findClass C = some cellB.cls)
    (hn : As.length = n) (hsize : ls.size = nL) (hst : st0 = As.reverse ++ .ref b :: rest) (hW : (rest.map fun v => v.category).sum ≤ 8) (hdg : decode cc pc = .ok (.invokevirtual index, 3)) (hcs : cells ≤ R.cells ∧ slots ≤ R.slots)
    (kk : W p l e R s m args below meth c H locs cells slots Q (F0 m (pc + 3) ls (.int r :: rest))) : W p l e R s m args below meth c H locs cells slots Q (F0 m pc ls st0) :=
  pu_run (va_runV S hM cw ⟨pu_blind, hv, fun U hU hW => ⟨rfl, by rw [hU]; exact hP, hN.warm hW⟩⟩ rfl hn hsize hst (lv_room hW) hdg hcs) (fun v hv => by rw [hv]; exact kk)
theorem cV_B (S : CallFix p m c cc nL s args Ts own) (hM : PuB l g y ws rm (.ref b :: As) w P) (cw : CallW R s args own C index y bytes maxL ret ws rm 0 0 n) (hN : SK g s) (hP : va_P g.1 vwCl w H) (hv : ∃ cellB : Cell, H[b]? = some cellB ∧ cellB.vm.isStatics = false ∧ s.vm.findClass C = some cellB.cls)
    (hn : As.length = n) (hsize : ls.size = nL) (hst : st0 = As.reverse ++ .ref b :: rest) (hW : (rest.map fun v => v.category).sum ≤ 8) (hdg : decode cc pc = .ok (.invokevirtual index, 3)) (hcs : cells ≤ R.cells ∧ slots ≤ R.slots)
    (kt : P → W p l e R s m args below meth c H locs cells slots Q (F0 m (pc + 3) ls (.int (nI 1) :: rest))) (kf : ¬ P → W p l e R s m args below meth c H locs cells slots Q (F0 m (pc + 3) ls (.int (nI 0) :: rest))) : W p l e R s m args below meth c H locs cells slots Q (F0 m pc ls st0) :=
  pu_run (va_runV S hM cw ⟨pu_blind, hv, fun U hU hW => ⟨rfl, by rw [hU]; exact hP, hN.warm hW⟩⟩ rfl hn hsize hst (lv_room hW) hdg hcs) (fun v hv => by rcases hv with ⟨rfl, h⟩ | ⟨rfl, h⟩; exacts [kt h, kf h])
theorem cS_N (S : CallFix p m c cc nL s args Ts own) (hM : PuN l g y ws rm As w r) (cw : CallB R s args own index y bytes maxL ret ws rm 0 0 n ∧ (Cond.static y).before args s = true) (hN : SK g s) (hP : va_P g.1 vwCl w H)
    (hn : As.length = n) (hsize : ls.size = nL) (hst : st0 = As.reverse ++ rest) (hW : (rest.map fun v => v.category).sum ≤ 8) (hdg : decode cc pc = .ok (.invokestatic index, 3)) (hcs : cells ≤ R.cells ∧ slots ≤ R.slots)
    (kk : W p l e R s m args below meth c H locs cells slots Q (F0 m (pc + 3) ls (.int r :: rest))) : W p l e R s m args below meth c H locs cells slots Q (F0 m pc ls st0) :=
  pu_run (va_runS S hM cw ⟨pu_blind, fun U hU hW => ⟨rfl, by rw [hU]; exact hP, hN.warm hW⟩⟩ rfl hn hsize hst (lv_room hW) hdg hcs) (fun v hv => by rw [hv]; exact kk)
theorem cS_B (S : CallFix p m c cc nL s args Ts own) (hM : PuB l g y ws rm As w P) (cw : CallB R s args own index y bytes maxL ret ws rm 0 0 n ∧ (Cond.static y).before args s = true) (hN : SK g s) (hP : va_P g.1 vwCl w H)
    (hn : As.length = n) (hsize : ls.size = nL) (hst : st0 = As.reverse ++ rest) (hW : (rest.map fun v => v.category).sum ≤ 8) (hdg : decode cc pc = .ok (.invokestatic index, 3)) (hcs : cells ≤ R.cells ∧ slots ≤ R.slots)
    (kt : P → W p l e R s m args below meth c H locs cells slots Q (F0 m (pc + 3) ls (.int (nI 1) :: rest))) (kf : ¬ P → W p l e R s m args below meth c H locs cells slots Q (F0 m (pc + 3) ls (.int (nI 0) :: rest))) : W p l e R s m args below meth c H locs cells slots Q (F0 m pc ls st0) :=
  pu_run (va_runS S hM cw ⟨pu_blind, fun U hU hW => ⟨rfl, by rw [hU]; exact hP, hN.warm hW⟩⟩ rfl hn hsize hst (lv_room hW) hdg hcs) (fun v hv => by rcases hv with ⟨rfl, h⟩ | ⟨rfl, h⟩; exacts [kt h, kf h])
theorem cSN_B (S : CallFix p m c cc nL s args Ts own) (hM : PuB l g y ws rm As w P) (cw : va_CN R s args own index y host bytes maxL ret ws rm 0 0 n ∧ (Cond.static y).before args s = true ∧ True) (hN : SK g s) (hP : va_P g.1 vwCl w H)
    (hn : As.length = n) (hsize : ls.size = nL) (hst : st0 = As.reverse ++ rest) (hW : (rest.map fun v => v.category).sum ≤ 8) (hdg : decode cc pc = .ok (.invokestatic index, 3)) (hcs : cells ≤ R.cells ∧ slots ≤ R.slots)
    (kt : P → W p l e R s m args below meth c H locs cells slots Q (F0 m (pc + 3) ls (.int (nI 1) :: rest))) (kf : ¬ P → W p l e R s m args below meth c H locs cells slots Q (F0 m (pc + 3) ls (.int (nI 0) :: rest))) : W p l e R s m args below meth c H locs cells slots Q (F0 m pc ls st0) :=
  pu_run (va_runSN S hM cw ⟨pu_blind, fun U hU hW => ⟨rfl, by rw [hU]; exact hP, hN.warm hW⟩⟩ rfl hn hsize hst (lv_room hW) hdg hcs) (fun v hv => by rcases hv with ⟨rfl, h⟩ | ⟨rfl, h⟩; exacts [kt h, kf h])
/-- a call that makes w' of the cells w, which are the places isC of the caller's; the rest (isR) stands ahead behind it -/
theorem cV_V (S : CallFix p m c cc nL s args Ts own) (hM : MuV l g y ws rm (.ref b :: As) w w') (cw : CallW R s args own C index y bytes maxL ret ws rm 0 0 n) (hN : SK g s) (hP : va_P g.1 vwCl ws0 H) (hD : va_D A0 ws0) (hS : va_S A0 H0 H locs) (hA : ∀ q : Nat, H0.size ≤ q → A0 q)
    (hv : ∃ cellB : Cell, H[b]? = some cellB ∧ cellB.vm.isStatics = false ∧ s.vm.findClass C = some cellB.cls)
    (isC isR : List Nat) (hC : isC.map (fun i => ws0[i]?) = w.map some) (hR : isR.map (fun i => ws0[i]?) = wr.map some) (hnC : va_nd isC = true) (hnR : va_nd isR = true) (hdis : ∀ i ∈ isR, i ∉ isC)
    (hn : As.length = n) (hsize : ls.size = nL) (hst : st0 = As.reverse ++ .ref b :: rest) (hW : (rest.map fun v => v.category).sum ≤ 8) (hdg : decode cc pc = .ok (.invokevirtual index, 3)) (hcs : cells ≤ R.cells ∧ slots ≤ R.slots)
    (kk : ∀ (H : Heap) (locs : List Loc), va_P g.1 vwCl (wr ++ w') H → va_D A0 (wr ++ w') → va_S A0 H0 H locs → W p l e R s m args below meth c H locs cells slots Q (F0 m (pc + 3) ls rest)) : W p l e R s m args below meth c H locs cells slots Q (F0 m pc ls st0) := by
  have hPc : va_P g.1 vwCl w H := fun k q hk => by
    have h1 : (isC.map (fun i => ws0[i]?))[k]? = some (some q) := by rw [hC, List.getElem?_map, hk]; rfl
    rw [List.getElem?_map] at h1
    obtain ⟨i, hi, h2⟩ := Option.map_eq_some_iff.mp h1
    exact hP i q h2
  have hDc : va_D (fun _ => True) w := (hD.sub isC hnC hC).weaken (fun _ _ _ _ => trivial)
  have hFc := va_free (wc := w) hD hS hA isC hC
  refine va_callv (va_runV S (hM H.size) cw ⟨mu_blind, hv, fun U hU hW => ⟨rfl, by rw [hU], by rw [hU]; exact hPc, hN.warm hW, hDc⟩⟩ rfl hn hsize hst (lv_room hW) hdg hcs) hS (fun q _ h => hFc q h) hFc (fun u t H1 locs ht hvm hw hB hz1 hk1 hS => ?_)
  obtain ⟨hP1, hD1⟩ := hB
  rw [ht] at hP1
  obtain ⟨hP, hD⟩ := va_join (wr := wr) (w1 := w') hP hD isC isR hC hR hnR hdis hk1 hFc hP1 hD1
  exact kk H1 locs hP hD hS
theorem cV_M (S : CallFix p m c cc nL s args Ts own) (hM : MuN l g y ws rm (.ref b :: As) w w' r) (cw : CallW R s args own C index y bytes maxL ret ws rm 0 0 n) (hN : SK g s) (hP : va_P g.1 vwCl ws0 H) (hD : va_D A0 ws0) (hS : va_S A0 H0 H locs) (hA : ∀ q : Nat, H0.size ≤ q → A0 q)
    (hv : ∃ cellB : Cell, H[b]? = some cellB ∧ cellB.vm.isStatics = false ∧ s.vm.findClass C = some cellB.cls)
    (isC isR : List Nat) (hC : isC.map (fun i => ws0[i]?) = w.map some) (hR : isR.map (fun i => ws0[i]?) = wr.map some) (hnC : va_nd isC = true) (hnR : va_nd isR = true) (hdis : ∀ i ∈ isR, i ∉ isC)
    (hn : As.length = n) (hsize : ls.size = nL) (hst : st0 = As.reverse ++ .ref b :: rest) (hW : (rest.map fun v => v.category).sum ≤ 8) (hdg : decode cc pc = .ok (.invokevirtual index, 3)) (hcs : cells ≤ R.cells ∧ slots ≤ R.slots)
    (kk : ∀ (H : Heap) (locs : List Loc), va_P g.1 vwCl (wr ++ w') H → va_D A0 (wr ++ w') → va_S A0 H0 H locs → W p l e R s m args below meth c H locs cells slots Q (F0 m (pc + 3) ls (.int r :: rest))) : W p l e R s m args below meth c H locs cells slots Q (F0 m pc ls st0) := by
  have hPc : va_P g.1 vwCl w H := fun k q hk => by
    have h1 : (isC.map (fun i => ws0[i]?))[k]? = some (some q) := by rw [hC, List.getElem?_map, hk]; rfl
    rw [List.getElem?_map] at h1
    obtain ⟨i, hi, h2⟩ := Option.map_eq_some_iff.mp h1
    exact hP i q h2
  have hDc : va_D (fun _ => True) w := (hD.sub isC hnC hC).weaken (fun _ _ _ _ => trivial)
  have hFc := va_free (wc := w) hD hS hA isC hC
  refine va_calli (va_runV S (hM H.size) cw ⟨mu_blind, hv, fun U hU hW => ⟨rfl, by rw [hU], by rw [hU]; exact hPc, hN.warm hW, hDc⟩⟩ rfl hn hsize hst (lv_room hW) hdg hcs) hS (fun q _ h => hFc q h) hFc (fun v u t H1 locs ht hvm hw hB hz1 hk1 hS => ?_)
  obtain ⟨hP1, hD1⟩ := hB
  rw [ht] at hP1
  subst hw
  obtain ⟨hP, hD⟩ := va_join (wr := wr) (w1 := w') hP hD isC isR hC hR hnR hdis hk1 hFc hP1 hD1
  exact kk H1 locs hP hD hS
end KCALL
end
section
/-! OWN ROWS in numbers: every int on the stack is nI of a number, or a literal below 0 -/
theorem nI_and (a b : Nat) : nI a &&& nI b = nI (a &&& b) := by
  unfold nI
  apply Int32.toBitVec_inj.mp
  simp [BitVec.ofNat_and]
theorem nI_or (a b : Nat) : nI a ||| nI b = nI (a ||| b) := by
  unfold nI
  apply Int32.toBitVec_inj.mp
  simp [BitVec.ofNat_or]
theorem nI_sm : ∀ n, n < 32 → ((nI n &&& 31).toBitVec.smod 32).toNat = n := by decide +kernel
theorem nI_shl {a k : Nat} (hk : k < 31) (h : a * 2 ^ k < 2 ^ 32) : nI a <<< (nI k &&& 31) = nI (a <<< k) := by
  rw [pk_shlN (nI k &&& 31) k (nI_sm k (by omega)) h, Nat.shiftLeft_eq]
theorem nI_shr {a k : Nat} (hk : k < 31) (h : a < 2 ^ 31) : nI a >>> (nI k &&& 31) = nI (a >>> k) := by
  rw [pk_shrN h (nI k &&& 31) k (nI_sm k (by omega)), Nat.shiftRight_eq_div_pow]
theorem nI_z {a : Nat} (ha : a < 2 ^ 31) : nI a = 0 ↔ a = 0 := nI_eq (b := 0) ha (by decide)
abbrev IA (g : GG) (n : Nat) (f : Nat → Nat) : va_E := .inl (g.2 0, n, .inl (fun k => nI (f k)))
abbrev CA (g : GG) (n : Nat) (f : Nat → Nat) : va_E := .inl (g.2 1, n, .inl (fun k => nI (f k)))
/-- f, but v at k -/
def up {α : Type} (f : Nat → α) (k : Nat) (v : α) : Nat → α := fun j => if j = k then v else f j
theorem up_s {α : Type} (f : Nat → α) (k : Nat) (v : α) : up f k v k = v := if_pos rfl
theorem up_n {α : Type} {f : Nat → α} {k j : Nat} {v : α} (h : j ≠ k) : up f k v j = f j := if_neg h
theorem up_nI (f : Nat → Nat) (k v : Nat) : upd (fun j => nI (f j)) k (nI v) = fun j => nI (up f k v j) := by
  funext j
  unfold up upd
  split <;> rfl
section KNUM
variable {p : Program} {l : Launch} {e : Env} {R : Room} {s : State} {m : MethodId} {args : Array Value} {below : List Frame} {meth : Method} {c : Code} {H : Heap} {locs : List Loc} {cells slots : Nat} {Q : State → Prop}
variable {cc : ByteArray} {pc : Nat} {ls : Array Slot} {rest : List Value} {a b tgt : Nat} {off : Int}
theorem tp {x y : Int32} (h : x = y) (k : W p l e R s m args below meth c H locs cells slots Q (F0 m pc ls (.int y :: rest))) : W p l e R s m args below meth c H locs cells slots Q (F0 m pc ls (.int x :: rest)) := by subst h; exact k
theorem iaddN (hx : p.tables.exec = Jvm.exec) (hb : c.code = cc) (hdg : decode cc pc = .ok (.iadd, 1)) (k : W p l e R s m args below meth c H locs cells slots Q (F0 m (pc + 1) ls (.int (nI (a + b)) :: rest))) : W p l e R s m args below meth c H locs cells slots Q (F0 m pc ls (.int (nI b) :: .int (nI a) :: rest)) := lv_iadd hx hb hdg (tp (nI_add a b) k)
theorem isubN (hx : p.tables.exec = Jvm.exec) (hb : c.code = cc) (hdg : decode cc pc = .ok (.isub, 1)) (h : b ≤ a) (k : W p l e R s m args below meth c H locs cells slots Q (F0 m (pc + 1) ls (.int (nI (a - b)) :: rest))) : W p l e R s m args below meth c H locs cells slots Q (F0 m pc ls (.int (nI b) :: .int (nI a) :: rest)) := lv_isub hx hb hdg (tp (pk_sub h) k)
theorem imulN (hx : p.tables.exec = Jvm.exec) (hb : c.code = cc) (hdg : decode cc pc = .ok (.imul, 1)) (k : W p l e R s m args below meth c H locs cells slots Q (F0 m (pc + 1) ls (.int (nI (a * b)) :: rest))) : W p l e R s m args below meth c H locs cells slots Q (F0 m pc ls (.int (nI b) :: .int (nI a) :: rest)) := lv_imul hx hb hdg (tp (pk_mul a b) k)
theorem iandN (hx : p.tables.exec = Jvm.exec) (hb : c.code = cc) (hdg : decode cc pc = .ok (.iand, 1)) (k : W p l e R s m args below meth c H locs cells slots Q (F0 m (pc + 1) ls (.int (nI (a &&& b)) :: rest))) : W p l e R s m args below meth c H locs cells slots Q (F0 m pc ls (.int (nI b) :: .int (nI a) :: rest)) := lv_iand hx hb hdg (tp (nI_and a b) k)
theorem iorN (hx : p.tables.exec = Jvm.exec) (hb : c.code = cc) (hdg : decode cc pc = .ok (.ior, 1)) (k : W p l e R s m args below meth c H locs cells slots Q (F0 m (pc + 1) ls (.int (nI (a ||| b)) :: rest))) : W p l e R s m args below meth c H locs cells slots Q (F0 m pc ls (.int (nI b) :: .int (nI a) :: rest)) := lv_ior hx hb hdg (tp (nI_or a b) k)
theorem ishlN (hx : p.tables.exec = Jvm.exec) (hb : c.code = cc) (hdg : decode cc pc = .ok (.ishl, 1)) (hk : b < 31) (h : a * 2 ^ b < 2 ^ 32) (k : W p l e R s m args below meth c H locs cells slots Q (F0 m (pc + 1) ls (.int (nI (a <<< b)) :: rest))) : W p l e R s m args below meth c H locs cells slots Q (F0 m pc ls (.int (nI b) :: .int (nI a) :: rest)) := lv_ishl hx hb hdg (tp (nI_shl hk h) k)
theorem ishrN (hx : p.tables.exec = Jvm.exec) (hb : c.code = cc) (hdg : decode cc pc = .ok (.ishr, 1)) (hk : b < 31) (h : a < 2 ^ 31) (k : W p l e R s m args below meth c H locs cells slots Q (F0 m (pc + 1) ls (.int (nI (a >>> b)) :: rest))) : W p l e R s m args below meth c H locs cells slots Q (F0 m pc ls (.int (nI b) :: .int (nI a) :: rest)) := lv_ishr hx hb hdg (tp (nI_shr hk h) k)
theorem clt (hx : p.tables.exec = Jvm.exec) (hb : c.code = cc) (hdg : decode cc pc = .ok (.if_icmp .lt off, 3)) (ht : (pc : Int) + off = (tgt : Int)) (ha : a < 2 ^ 31) (hb2 : b < 2 ^ 31)
    (kt : a < b → W p l e R s m args below meth c H locs cells slots Q (F0 m tgt ls rest)) (kf : b ≤ a → W p l e R s m args below meth c H locs cells slots Q (F0 m (pc + 3) ls rest)) : W p l e R s m args below meth c H locs cells slots Q (F0 m pc ls (.int (nI b) :: .int (nI a) :: rest)) :=
  lv_icmp_lt hx hb hdg ht (fun h => kt ((nI_ltI ha hb2).mp h)) (fun h => kf (Nat.le_of_not_lt fun q => h ((nI_ltI ha hb2).mpr q)))
theorem cge (hx : p.tables.exec = Jvm.exec) (hb : c.code = cc) (hdg : decode cc pc = .ok (.if_icmp .ge off, 3)) (ht : (pc : Int) + off = (tgt : Int)) (ha : a < 2 ^ 31) (hb2 : b < 2 ^ 31)
    (kt : b ≤ a → W p l e R s m args below meth c H locs cells slots Q (F0 m tgt ls rest)) (kf : a < b → W p l e R s m args below meth c H locs cells slots Q (F0 m (pc + 3) ls rest)) : W p l e R s m args below meth c H locs cells slots Q (F0 m pc ls (.int (nI b) :: .int (nI a) :: rest)) :=
  lv_icmp_ge hx hb hdg ht (fun h => kt ((nI_leI hb2 ha).mp h)) (fun h => kf (Nat.lt_of_not_le fun q => h ((nI_leI hb2 ha).mpr q)))
theorem cgt (hx : p.tables.exec = Jvm.exec) (hb : c.code = cc) (hdg : decode cc pc = .ok (.if_icmp .gt off, 3)) (ht : (pc : Int) + off = (tgt : Int)) (ha : a < 2 ^ 31) (hb2 : b < 2 ^ 31)
    (kt : b < a → W p l e R s m args below meth c H locs cells slots Q (F0 m tgt ls rest)) (kf : a ≤ b → W p l e R s m args below meth c H locs cells slots Q (F0 m (pc + 3) ls rest)) : W p l e R s m args below meth c H locs cells slots Q (F0 m pc ls (.int (nI b) :: .int (nI a) :: rest)) :=
  lv_icmp_gt hx hb hdg ht (fun h => kt ((nI_ltI hb2 ha).mp h)) (fun h => kf (Nat.le_of_not_lt fun q => h ((nI_ltI hb2 ha).mpr q)))
theorem cle (hx : p.tables.exec = Jvm.exec) (hb : c.code = cc) (hdg : decode cc pc = .ok (.if_icmp .le off, 3)) (ht : (pc : Int) + off = (tgt : Int)) (ha : a < 2 ^ 31) (hb2 : b < 2 ^ 31)
    (kt : a ≤ b → W p l e R s m args below meth c H locs cells slots Q (F0 m tgt ls rest)) (kf : b < a → W p l e R s m args below meth c H locs cells slots Q (F0 m (pc + 3) ls rest)) : W p l e R s m args below meth c H locs cells slots Q (F0 m pc ls (.int (nI b) :: .int (nI a) :: rest)) :=
  lv_icmp_le hx hb hdg ht (fun h => kt ((nI_leI ha hb2).mp h)) (fun h => kf (Nat.lt_of_not_le fun q => h ((nI_leI ha hb2).mpr q)))
theorem ceq (hx : p.tables.exec = Jvm.exec) (hb : c.code = cc) (hdg : decode cc pc = .ok (.if_icmp .eq off, 3)) (ht : (pc : Int) + off = (tgt : Int)) (ha : a < 2 ^ 31) (hb2 : b < 2 ^ 31)
    (kt : a = b → W p l e R s m args below meth c H locs cells slots Q (F0 m tgt ls rest)) (kf : ¬ a = b → W p l e R s m args below meth c H locs cells slots Q (F0 m (pc + 3) ls rest)) : W p l e R s m args below meth c H locs cells slots Q (F0 m pc ls (.int (nI b) :: .int (nI a) :: rest)) :=
  lv_icmp_eq hx hb hdg ht (fun h => kt ((nI_eq ha hb2).mp h)) (fun h => kf (fun q => h ((nI_eq ha hb2).mpr q)))
theorem cne (hx : p.tables.exec = Jvm.exec) (hb : c.code = cc) (hdg : decode cc pc = .ok (.if_icmp .ne off, 3)) (ht : (pc : Int) + off = (tgt : Int)) (ha : a < 2 ^ 31) (hb2 : b < 2 ^ 31)
    (kt : ¬ a = b → W p l e R s m args below meth c H locs cells slots Q (F0 m tgt ls rest)) (kf : a = b → W p l e R s m args below meth c H locs cells slots Q (F0 m (pc + 3) ls rest)) : W p l e R s m args below meth c H locs cells slots Q (F0 m pc ls (.int (nI b) :: .int (nI a) :: rest)) :=
  lv_icmp_ne hx hb hdg ht (fun h => kt (fun q => h ((nI_eq ha hb2).mpr q))) (fun h => kf (Decidable.byContradiction fun q => h (fun z => q ((nI_eq ha hb2).mp z))))
theorem zeq (hx : p.tables.exec = Jvm.exec) (hb : c.code = cc) (hdg : decode cc pc = .ok (.ifCond .eq off, 3)) (ht : (pc : Int) + off = (tgt : Int)) (ha : a < 2 ^ 31)
    (kt : a = 0 → W p l e R s m args below meth c H locs cells slots Q (F0 m tgt ls rest)) (kf : ¬ a = 0 → W p l e R s m args below meth c H locs cells slots Q (F0 m (pc + 3) ls rest)) : W p l e R s m args below meth c H locs cells slots Q (F0 m pc ls (.int (nI a) :: rest)) :=
  lv_if_eq hx hb hdg ht (fun h => kt ((nI_z ha).mp h)) (fun h => kf (fun q => h ((nI_z ha).mpr q)))
theorem zne (hx : p.tables.exec = Jvm.exec) (hb : c.code = cc) (hdg : decode cc pc = .ok (.ifCond .ne off, 3)) (ht : (pc : Int) + off = (tgt : Int)) (ha : a < 2 ^ 31)
    (kt : ¬ a = 0 → W p l e R s m args below meth c H locs cells slots Q (F0 m tgt ls rest)) (kf : a = 0 → W p l e R s m args below meth c H locs cells slots Q (F0 m (pc + 3) ls rest)) : W p l e R s m args below meth c H locs cells slots Q (F0 m pc ls (.int (nI a) :: rest)) :=
  lv_if_ne hx hb hdg ht (fun h => kt (fun q => h ((nI_z ha).mpr q))) (fun h => kf (Decidable.byContradiction fun q => h (fun z => q ((nI_z ha).mp z))))
/-- the four others, of a number that is not below 0 -/
theorem zlt (hx : p.tables.exec = Jvm.exec) (hb : c.code = cc) (hdg : decode cc pc = .ok (.ifCond .lt off, 3)) (ht : (pc : Int) + off = (tgt : Int)) (ha : a < 2 ^ 31)
    (kf : W p l e R s m args below meth c H locs cells slots Q (F0 m (pc + 3) ls rest)) : W p l e R s m args below meth c H locs cells slots Q (F0 m pc ls (.int (nI a) :: rest)) :=
  lv_if_lt hx hb hdg ht (fun h => absurd h (nI_pos ha)) (fun _ => kf)
theorem zge (hx : p.tables.exec = Jvm.exec) (hb : c.code = cc) (hdg : decode cc pc = .ok (.ifCond .ge off, 3)) (ht : (pc : Int) + off = (tgt : Int)) (ha : a < 2 ^ 31)
    (kt : W p l e R s m args below meth c H locs cells slots Q (F0 m tgt ls rest)) : W p l e R s m args below meth c H locs cells slots Q (F0 m pc ls (.int (nI a) :: rest)) :=
  lv_if_ge hx hb hdg ht (fun _ => kt) (fun h => absurd (nI_pos' ha) h)
theorem zgt (hx : p.tables.exec = Jvm.exec) (hb : c.code = cc) (hdg : decode cc pc = .ok (.ifCond .gt off, 3)) (ht : (pc : Int) + off = (tgt : Int)) (ha : a < 2 ^ 31)
    (kt : 0 < a → W p l e R s m args below meth c H locs cells slots Q (F0 m tgt ls rest)) (kf : a = 0 → W p l e R s m args below meth c H locs cells slots Q (F0 m (pc + 3) ls rest)) : W p l e R s m args below meth c H locs cells slots Q (F0 m pc ls (.int (nI a) :: rest)) :=
  lv_if_gt hx hb hdg ht (fun h => kt ((nI_ltI (a := 0) (by decide) ha).mp h)) (fun h => kf (Decidable.byContradiction fun q => h ((nI_ltI (a := 0) (by decide) ha).mpr (Nat.pos_of_ne_zero q))))
theorem zle (hx : p.tables.exec = Jvm.exec) (hb : c.code = cc) (hdg : decode cc pc = .ok (.ifCond .le off, 3)) (ht : (pc : Int) + off = (tgt : Int)) (ha : a < 2 ^ 31)
    (kt : a = 0 → W p l e R s m args below meth c H locs cells slots Q (F0 m tgt ls rest)) (kf : 0 < a → W p l e R s m args below meth c H locs cells slots Q (F0 m (pc + 3) ls rest)) : W p l e R s m args below meth c H locs cells slots Q (F0 m pc ls (.int (nI a) :: rest)) :=
  lv_if_le hx hb hdg ht (fun h => kt (by have := (nI_leI (b := 0) ha (by decide)).mp h; omega)) (fun h => kf (Nat.pos_of_ne_zero fun q => h ((nI_leI (b := 0) ha (by decide)).mpr (by omega))))
variable {D : va_G} {g : GG} {cl : List vw_C} {A : Nat → Prop} {d : Nat} {tys : List (ClassId × FieldType)} {ws : va_W} {H0 : Heap}
theorem iald (hx : p.tables.exec = Jvm.exec) (hb : c.code = cc) (hN : SK g s) (hP : va_P g.1 vwCl ws H) (q0 : Nat) {n i : Nat} {f : Nat → Nat} (ha : ws[q0]? = some (d, IA g n f)) (hi : i < n) (hn : n < 2 ^ 31) (hdg : decode cc pc = .ok (.iaload, 1))
    (kk : W p l e R s m args below meth c H locs cells slots Q (F0 m (pc + 1) ls (.int (nI (f i)) :: rest))) : W p l e R s m args below meth c H locs cells slots Q (F0 m pc ls (.int (nI i) :: .ref d :: rest)) := by
  refine va_iald hx hb hN.1 hP q0 0 (f := fun k => nI (f k)) ha rfl (vp_in_nI hi hn) hdg ?_
  rw [nI_clamp (by omega)]
  exact kk
theorem cald (hx : p.tables.exec = Jvm.exec) (hb : c.code = cc) (hN : SK g s) (hP : va_P g.1 vwCl ws H) (q0 : Nat) {n i : Nat} {f : Nat → Nat} (ha : ws[q0]? = some (d, CA g n f)) (hi : i < n) (hn : n < 2 ^ 31) (hdg : decode cc pc = .ok (.caload, 1))
    (kk : W p l e R s m args below meth c H locs cells slots Q (F0 m (pc + 1) ls (.int (nI (f i)) :: rest))) : W p l e R s m args below meth c H locs cells slots Q (F0 m pc ls (.int (nI i) :: .ref d :: rest)) := by
  refine va_cald hx hb hN.1 hP q0 1 (f := fun k => nI (f k)) ha rfl (vp_in_nI hi hn) hdg ?_
  rw [nI_clamp (by omega)]
  exact kk
theorem iast (hx : p.tables.exec = Jvm.exec) (hb : c.code = cc) (hN : SK g s) (hP : va_P g.1 vwCl ws H) (hD : va_D A ws) (hS : va_S A H0 H locs) (q0 : Nat) {n i v : Nat} {f : Nat → Nat} (ha : ws[q0]? = some (d, IA g n f)) (hi : i < n) (hn : n < 2 ^ 31) (hdg : decode cc pc = .ok (.iastore, 1))
    (kk : ∀ (H : Heap) (locs : List Loc), va_P g.1 vwCl (ws.set q0 (d, IA g n (up f i v))) H → va_D A (ws.set q0 (d, IA g n (up f i v))) → va_S A H0 H locs → W p l e R s m args below meth c H locs cells slots Q (F0 m (pc + 1) ls rest)) : W p l e R s m args below meth c H locs cells slots Q (F0 m pc ls (.int (nI v) :: .int (nI i) :: .ref d :: rest)) := by
  refine va_iast hx hb hN.1 hP hD hS q0 0 (f := fun k => nI (f k)) ha rfl (vp_in_nI hi hn) hdg ?_
  rw [nI_clamp (by omega), up_nI]
  exact kk
theorem cast' (hx : p.tables.exec = Jvm.exec) (hb : c.code = cc) (hN : SK g s) (hP : va_P g.1 vwCl ws H) (hD : va_D A ws) (hS : va_S A H0 H locs) (q0 : Nat) {n i v : Nat} {f : Nat → Nat} (ha : ws[q0]? = some (d, CA g n f)) (hi : i < n) (hn : n < 2 ^ 31) (hv : v < 65536) (hdg : decode cc pc = .ok (.castore, 1))
    (kk : ∀ (H : Heap) (locs : List Loc), va_P g.1 vwCl (ws.set q0 (d, CA g n (up f i v))) H → va_D A (ws.set q0 (d, CA g n (up f i v))) → va_S A H0 H locs → W p l e R s m args below meth c H locs cells slots Q (F0 m (pc + 1) ls rest)) : W p l e R s m args below meth c H locs cells slots Q (F0 m pc ls (.int (nI v) :: .int (nI i) :: .ref d :: rest)) := by
  refine va_cast hx hb hN.1 hP hD hS q0 1 (f := fun k => nI (f k)) ha rfl (vp_in_nI hi hn) hdg ?_
  have hnar : vp_nar .char (nI v) = nI v := by unfold vp_nar; rw [(pk_charN hv).1]
  rw [nI_clamp (by omega), hnar, up_nI]
  exact kk
end KNUM
theorem nI_inc (a n : Nat) : nI a + Int32.ofInt (n : Int) = nI (a + n) := by
  rw [show Int32.ofInt (n : Int) = nI n from by unfold nI; apply Int32.toBitVec_inj.mp; simp]
  exact nI_add a n
theorem nI_dec {a : Nat} (h : 0 < a) : nI a + Int32.ofInt (-1) = nI (a - 1) := by
  obtain ⟨k, rfl⟩ : ∃ k, a = k + 1 := ⟨a - 1, by omega⟩
  exact pk_m1 k
theorem shl_ok {b : Nat} (h : b < 31) : 1 * 2 ^ b < 2 ^ 32 := by
  rw [Nat.one_mul]
  exact Nat.pow_lt_pow_right (by decide) (by omega)
theorem shl1_lt {b n : Nat} (h : b < n) : 1 <<< b < 2 ^ n := by
  rw [Nat.one_shiftLeft]
  exact Nat.pow_lt_pow_right (by decide) h
theorem and_lt {a b n : Nat} (h : a < n) : a &&& b < n := Nat.lt_of_le_of_lt Nat.and_le_left h
theorem tb_and (S k : Nat) : S &&& 1 <<< k = 0 ↔ S.testBit k = false := by
  rw [Nat.one_shiftLeft, Nat.and_two_pow]
  cases S.testBit k <;> simp
end
section
/-! THE STATE: pieces of the world, a list of cells each; what they hold are numbers -/
abbrev sh (ad : Nat → Nat) (k : Nat) : Nat → Nat := fun i => ad (k + i)
abbrev rowsOf (ad : Nat → Nat) : Nat → Option Nat := fun i => if i < 10 then some (ad (6 + i)) else none
abbrev hPlOf (ad : Nat → Nat) : Nat → Option Nat := fun i => if i < 4 then some (ad (3 + 3 * i)) else none
abbrev hSiOf (ad : Nat → Nat) : Nat → Option Nat := fun i => if i < 4 then some (ad (15 + 3 * i)) else none
abbrev wTx (g : GG) (ad : Nat → Nat) (tx : Nat → Nat) (tl : Nat) : va_W := [(ad 0, .inr (1, [.ref (ad 1), .int (nI tl)])), (ad 1, CA g 200 tx)]
abbrev wRd (g : GG) (ad : Nat → Nat) (nb : Nat → Nat) (pla : Nat) (abo : Nat) (epl : Nat) (rea : Nat) : va_W := [(ad 0, .inr (5, [.ref (ad 1), .int (nI pla), .int (nI abo), .int (nI epl), .int (nI rea)])), (ad 1, IA g 3 nb)]
abbrev wPl (g : GG) (ad : Nat → Nat) (w : Nat → Nat) (sd : Nat → Nat) (tr : Nat) : va_W := [(ad 0, .inr (3, [.ref (ad 1), .ref (ad 2), .int (nI tr)])), (ad 1, IA g 20 w), (ad 2, IA g 20 sd)]
abbrev wSi (g : GG) (ad : Nat → Nat) (cv : Nat → Nat) (ps : Nat → Nat) (lim : Nat) (pre : Nat) (fin : Nat) : va_W := [(ad 0, .inr (4, [.ref (ad 1), .ref (ad 2), .int (nI lim), .int (nI pre), .int (nI fin)])), (ad 1, IA g 20 cv), (ad 2, IA g 20 ps)]
abbrev wGr (g : GG) (ad : Nat → Nat) (sc : Nat → Nat) (tg : Nat → Nat) (sw : Nat → Nat) (lv : Nat → Nat → Nat) (lc : Nat → Nat) (b : Nat) (m : Nat) : va_W := [(ad 0, .inr (0, [.ref (ad 1), .ref (ad 2), .ref (ad 3), .ref (ad 4), .ref (ad 5), .int (nI b), .int (nI m)])), (ad 1, IA g 20 sc), (ad 2, IA g 20 tg), (ad 3, IA g 20 sw), (ad 4, .inl (g.2 2, 10, .inr (.inr (.inr (.inr (rowsOf ad)))))), (ad 5, IA g 10 lc), (ad 6, IA g 20 (lv 0)), (ad 7, IA g 20 (lv 1)), (ad 8, IA g 20 (lv 2)), (ad 9, IA g 20 (lv 3)), (ad 10, IA g 20 (lv 4)), (ad 11, IA g 20 (lv 5)), (ad 12, IA g 20 (lv 6)), (ad 13, IA g 20 (lv 7)), (ad 14, IA g 20 (lv 8)), (ad 15, IA g 20 (lv 9))]
abbrev wHi (g : GG) (ad : Nat → Nat) (nw : Nat) (sz : Nat) (hw : Nat → Nat → Nat) (hs : Nat → Nat → Nat) (ht : Nat → Nat) (hc : Nat → Nat → Nat) (hp : Nat → Nat → Nat) (hl : Nat → Nat) (hr : Nat → Nat) (hf : Nat → Nat) : va_W := [(ad 0, .inr (2, [.ref (ad 1), .ref (ad 2), .int (nI nw), .int (nI sz)])), (ad 1, .inl (g.2 3, 4, .inr (.inr (.inr (.inr (hPlOf ad)))))), (ad 2, .inl (g.2 4, 4, .inr (.inr (.inr (.inr (hSiOf ad)))))), ((sh ad 3) 0, .inr (3, [.ref ((sh ad 3) 1), .ref ((sh ad 3) 2), .int (nI (ht 0))])), ((sh ad 3) 1, IA g 20 (hw 0)), ((sh ad 3) 2, IA g 20 (hs 0)), ((sh ad 6) 0, .inr (3, [.ref ((sh ad 6) 1), .ref ((sh ad 6) 2), .int (nI (ht 1))])), ((sh ad 6) 1, IA g 20 (hw 1)), ((sh ad 6) 2, IA g 20 (hs 1)), ((sh ad 9) 0, .inr (3, [.ref ((sh ad 9) 1), .ref ((sh ad 9) 2), .int (nI (ht 2))])), ((sh ad 9) 1, IA g 20 (hw 2)), ((sh ad 9) 2, IA g 20 (hs 2)), ((sh ad 12) 0, .inr (3, [.ref ((sh ad 12) 1), .ref ((sh ad 12) 2), .int (nI (ht 3))])), ((sh ad 12) 1, IA g 20 (hw 3)), ((sh ad 12) 2, IA g 20 (hs 3)), ((sh ad 15) 0, .inr (4, [.ref ((sh ad 15) 1), .ref ((sh ad 15) 2), .int (nI (hl 0)), .int (nI (hr 0)), .int (nI (hf 0))])), ((sh ad 15) 1, IA g 20 (hc 0)), ((sh ad 15) 2, IA g 20 (hp 0)), ((sh ad 18) 0, .inr (4, [.ref ((sh ad 18) 1), .ref ((sh ad 18) 2), .int (nI (hl 1)), .int (nI (hr 1)), .int (nI (hf 1))])), ((sh ad 18) 1, IA g 20 (hc 1)), ((sh ad 18) 2, IA g 20 (hp 1)), ((sh ad 21) 0, .inr (4, [.ref ((sh ad 21) 1), .ref ((sh ad 21) 2), .int (nI (hl 2)), .int (nI (hr 2)), .int (nI (hf 2))])), ((sh ad 21) 1, IA g 20 (hc 2)), ((sh ad 21) 2, IA g 20 (hp 2)), ((sh ad 24) 0, .inr (4, [.ref ((sh ad 24) 1), .ref ((sh ad 24) 2), .int (nI (hl 3)), .int (nI (hr 3)), .int (nI (hf 3))])), ((sh ad 24) 1, IA g 20 (hc 3)), ((sh ad 24) 2, IA g 20 (hp 3))]
abbrev wMn (ad : Nat → Nat) (tx : Nat → Nat) (rd : Nat → Nat) (pl : Nat → Nat) (si : Nat → Nat) (hi : Nat → Nat) (ga : Nat → Nat) (gb : Nat → Nat) : va_W := [(ad 0, .inr (6, [.ref (tx 0), .ref (rd 0), .ref (pl 0), .ref (si 0), .ref (hi 0), .ref (ga 0), .ref (gb 0)]))]
abbrev wMo (g : GG) (ad : Nat → Nat) (tl : Nat) (at_ : Nat) (b : Nat) (m : Nat) (un : Nat) (re : Nat) (rb : Nat) (ab : Nat) (rea : Nat) (tx : Nat → Nat) (sc : Nat → Nat) (tg : Nat → Nat) (nw : Nat → Nat) (hs : Nat → Nat) (rs : Nat → Nat) (rt : Nat → Nat) (rw : Nat → Nat) (nb : Nat → Nat) (adp : Nat → Nat) : va_W := [(ad 0, .inr (7, [.ref (ad 1), .int (nI tl), .int (nI at_), .int (nI b), .int (nI m), .ref (ad 2), .ref (ad 3), .ref (ad 4), .ref (ad 5), .int (nI un), .int (nI rb), .int (nI re), .int (nI ab), .ref (ad 6), .ref (ad 7), .ref (ad 8), .ref (ad 9), .int (nI rea), .ref (ad 10)])), (ad 1, IA g 200 tx), (ad 2, IA g 20 sc), (ad 3, IA g 20 tg), (ad 4, IA g 83 nw), (ad 5, IA g 332 hs), (ad 6, IA g 20 rs), (ad 7, IA g 20 rt), (ad 8, IA g 20 rw), (ad 9, IA g 3 nb), (ad 10, IA g 20 adp)]
end
section
/-! sets of blocks as bits: one round of spreading along edges, ten of them -/
def spr (r e : Nat) : Nat := if r &&& e = 0 then r else r ||| e
abbrev eds (sc tg : Nat → Nat) (e : Nat) : Nat := 1 <<< sc e ||| 1 <<< tg e
def rdE (sc tg : Nat → Nat) (use : Nat → Bool) (r0 : Nat) : Nat → Nat
  | 0 => r0
  | i + 1 => if use i = true then spr (rdE sc tg use r0 i) (eds sc tg i) else rdE sc tg use r0 i
def rd1 (sc tg : Nat → Nat) (use : Nat → Bool) (b m r : Nat) : Nat := rdE sc tg use (spr r (1 ||| 1 <<< (b - 1))) m
def itr (sc tg : Nat → Nat) (use : Nat → Bool) (b m r0 : Nat) : Nat → Nat
  | 0 => r0
  | k + 1 => rd1 sc tg use b m (itr sc tg use b m r0 k)
/-- all blocks that can be reached from block s by the return edge and the edges in use -/
def clo (sc tg : Nat → Nat) (use : Nat → Bool) (b m s : Nat) : Nat := itr sc tg use b m (1 <<< s) 10
theorem spr_lt {r e n : Nat} (hr : r < 2 ^ n) (he : e < 2 ^ n) : spr r e < 2 ^ n := by
  unfold spr
  split
  · exact hr
  · exact Nat.or_lt_two_pow hr he
theorem eds_lt {sc tg : Nat → Nat} {e n : Nat} (h1 : sc e < n) (h2 : tg e < n) : eds sc tg e < 2 ^ n := Nat.or_lt_two_pow (shl1_lt h1) (shl1_lt h2)
theorem rdE_lt {sc tg : Nat → Nat} {use : Nat → Bool} {r0 n m : Nat} (h0 : r0 < 2 ^ n) (h1 : ∀ e, e < m → sc e < n) (h2 : ∀ e, e < m → tg e < n) : ∀ i, i ≤ m → rdE sc tg use r0 i < 2 ^ n := by
  intro i
  induction i with
  | zero => intro _; exact h0
  | succ i ih =>
    intro hi
    have := ih (by omega)
    unfold rdE
    split
    · exact spr_lt this (eds_lt (h1 i (by omega)) (h2 i (by omega)))
    · exact this
theorem rd1_lt {sc tg : Nat → Nat} {use : Nat → Bool} {r b m : Nat} (hb : 1 ≤ b) (h0 : r < 2 ^ b) (h1 : ∀ e, e < m → sc e < b) (h2 : ∀ e, e < m → tg e < b) : rd1 sc tg use b m r < 2 ^ b :=
  rdE_lt (spr_lt h0 (Nat.or_lt_two_pow (Nat.one_lt_two_pow (by omega)) (shl1_lt (by omega)))) h1 h2 m (Nat.le_refl m)
theorem itr_lt {sc tg : Nat → Nat} {use : Nat → Bool} {r0 b m : Nat} (hb : 1 ≤ b) (h0 : r0 < 2 ^ b) (h1 : ∀ e, e < m → sc e < b) (h2 : ∀ e, e < m → tg e < b) : ∀ k, itr sc tg use b m r0 k < 2 ^ b := by
  intro k
  induction k with
  | zero => exact h0
  | succ k ih => exact rd1_lt hb ih h1 h2
theorem itr_stable {sc tg : Nat → Nat} {use : Nat → Bool} {r0 b m k : Nat} (h : itr sc tg use b m r0 (k + 1) = itr sc tg use b m r0 k) : ∀ j, itr sc tg use b m r0 (k + j) = itr sc tg use b m r0 k := by
  intro j
  induction j with
  | zero => rfl
  | succ j ih =>
    show rd1 sc tg use b m (itr sc tg use b m r0 (k + j)) = _
    rw [ih]
    exact h
/-- how many bits below n are set -/
def cnt (r : Nat) : Nat → Nat
  | 0 => 0
  | n + 1 => cnt r n + (r.testBit n).toNat
theorem cnt_le (r : Nat) : ∀ n, cnt r n ≤ n := by
  intro n
  induction n with
  | zero => exact Nat.le_refl 0
  | succ n ih =>
    unfold cnt
    cases r.testBit n <;> simp <;> omega
theorem cnt_mono {r s : Nat} (h : ∀ i, r.testBit i = true → s.testBit i = true) : ∀ n, cnt r n ≤ cnt s n := by
  intro n
  induction n with
  | zero => exact Nat.le_refl 0
  | succ n ih =>
    unfold cnt
    have := h n
    cases hr : r.testBit n
    · simp; omega
    · rw [this hr]; simp; omega
theorem cnt_lt {r s : Nat} (h : ∀ i, r.testBit i = true → s.testBit i = true) {k : Nat} (h1 : r.testBit k = false) (h2 : s.testBit k = true) : ∀ n, k < n → cnt r n < cnt s n := by
  intro n
  induction n with
  | zero => intro h; omega
  | succ n ih =>
    intro hk
    unfold cnt
    by_cases e : k = n
    · subst e
      rw [h1, h2]
      have := cnt_mono h k
      simp; omega
    · have h3 := ih (by omega)
      have := h n
      cases hr : r.testBit n
      · simp; omega
      · rw [this hr]; simp; omega
theorem spr_sub (r e : Nat) : ∀ i, r.testBit i = true → (spr r e).testBit i = true := by
  intro i h
  unfold spr
  split
  · exact h
  · rw [Nat.testBit_or, h]; rfl
theorem rdE_sub (sc tg : Nat → Nat) (use : Nat → Bool) (r0 : Nat) : ∀ m i, r0.testBit i = true → (rdE sc tg use r0 m).testBit i = true := by
  intro m
  induction m with
  | zero => exact fun _ h => h
  | succ m ih =>
    intro i h
    unfold rdE
    split
    · exact spr_sub _ _ i (ih i h)
    · exact ih i h
theorem rd1_sub (sc tg : Nat → Nat) (use : Nat → Bool) (b m r : Nat) : ∀ i, r.testBit i = true → (rd1 sc tg use b m r).testBit i = true := fun i h => rdE_sub _ _ _ _ m i (spr_sub _ _ i h)
/-- as long as a round adds something, it adds a block: within n rounds nothing is added any more -/
theorem itr_grow {sc tg : Nat → Nat} {use : Nat → Bool} {r0 b m : Nat} (hb : 1 ≤ b) (h0 : r0 < 2 ^ b) (h1 : ∀ e, e < m → sc e < b) (h2 : ∀ e, e < m → tg e < b) : ∀ k, itr sc tg use b m r0 (k + 1) = itr sc tg use b m r0 k ∨ k + 1 ≤ cnt (itr sc tg use b m r0 (k + 1)) b := by
  have step : ∀ k, itr sc tg use b m r0 (k + 1) = itr sc tg use b m r0 k ∨ cnt (itr sc tg use b m r0 k) b < cnt (itr sc tg use b m r0 (k + 1)) b := by
    intro k
    by_cases e : itr sc tg use b m r0 (k + 1) = itr sc tg use b m r0 k
    · exact Or.inl e
    · right
      have hs := rd1_sub sc tg use b m (itr sc tg use b m r0 k)
      have : ∃ i, (itr sc tg use b m r0 k).testBit i = false ∧ (itr sc tg use b m r0 (k + 1)).testBit i = true := by
        apply Classical.byContradiction
        intro hn
        apply e
        apply Nat.eq_of_testBit_eq
        intro i
        cases hA : (itr sc tg use b m r0 k).testBit i
        · cases hB : (itr sc tg use b m r0 (k + 1)).testBit i
          · rfl
          · exact absurd ⟨i, hA, hB⟩ hn
        · exact hs i hA
      obtain ⟨i, a1, a2⟩ := this
      have hi : i < b := by
        apply Classical.byContradiction
        intro hi
        have h3 := itr_lt (sc := sc) (tg := tg) (use := use) (m := m) hb h0 h1 h2 (k + 1)
        have := Nat.testBit_lt_two_pow (Nat.lt_of_lt_of_le h3 (Nat.pow_le_pow_right (by decide) (Nat.le_of_not_lt hi)))
        rw [this] at a2
        cases a2
      exact cnt_lt hs a1 a2 b hi
  intro k
  induction k with
  | zero =>
    rcases step 0 with h | h
    · exact Or.inl h
    · right; omega
  | succ k ih =>
    rcases ih with h | h
    · left
      show rd1 sc tg use b m (itr sc tg use b m r0 (k + 1)) = rd1 sc tg use b m (itr sc tg use b m r0 k)
      rw [h]
    · rcases step (k + 1) with q | q
      · exact Or.inl q
      · right; omega
theorem itr_fix {sc tg : Nat → Nat} {use : Nat → Bool} {r0 b m : Nat} (hb : 1 ≤ b) (h0 : r0 < 2 ^ b) (h1 : ∀ e, e < m → sc e < b) (h2 : ∀ e, e < m → tg e < b) {j k : Nat} (hj : b ≤ j) (hk : b ≤ k) : itr sc tg use b m r0 j = itr sc tg use b m r0 k := by
  have hst : itr sc tg use b m r0 (b + 1) = itr sc tg use b m r0 b := by
    rcases itr_grow (sc := sc) (tg := tg) (use := use) (m := m) hb h0 h1 h2 b with h | h
    · exact h
    · have := cnt_le (itr sc tg use b m r0 (b + 1)) b
      omega
  have := itr_stable hst
  rw [show j = b + (j - b) from by omega, show k = b + (k - b) from by omega, this, this]
/-- a round that adds nothing: ten rounds come no further -/
theorem itr_done {sc tg : Nat → Nat} {use : Nat → Bool} {r0 b m : Nat} (hb : 1 ≤ b) (hb2 : b ≤ 10) (h0 : r0 < 2 ^ b) (h1 : ∀ e, e < m → sc e < b) (h2 : ∀ e, e < m → tg e < b) {k : Nat} (h : itr sc tg use b m r0 (k + 1) = itr sc tg use b m r0 k) : itr sc tg use b m r0 k = itr sc tg use b m r0 10 := by
  have hs := itr_stable h
  rw [itr_fix (sc := sc) (tg := tg) (use := use) (m := m) hb h0 h1 h2 (j := 10) (k := k + 10) hb2 (by omega), hs]
theorem clo_lt {sc tg : Nat → Nat} {use : Nat → Bool} {b m z : Nat} (hz : z < b) (h1 : ∀ e, e < m → sc e < b) (h2 : ∀ e, e < m → tg e < b) : clo sc tg use b m z < 2 ^ b := itr_lt (by omega) (shl1_lt hz) h1 h2 10
theorem reach_fin {sc tg : Nat → Nat} {use : Nat → Bool} {b m z k r bf : Nat} (hb2 : b ≤ 10) (hz : z < b) (h1 : ∀ e, e < m → sc e < b) (h2 : ∀ e, e < m → tg e < b) (hr : r = itr sc tg use b m (1 <<< z) k) (hbf : (k = 0 ∧ bf = 0) ∨ (0 < k ∧ bf = itr sc tg use b m (1 <<< z) (k - 1))) (h : b < k ∨ r = bf) : r = clo sc tg use b m z := by
  have h0 := shl1_lt hz
  rcases h with h | h
  · rw [hr]
    exact itr_fix (by omega) h0 h1 h2 (by omega) hb2
  · rcases hbf with ⟨hk, h3⟩ | ⟨hk, h3⟩
    · subst hk
      exfalso
      have h4 : 1 <<< z = 0 := by
        show itr sc tg use b m (1 <<< z) 0 = 0
        rw [← hr, h, h3]
      rw [Nat.one_shiftLeft] at h4
      have := Nat.two_pow_pos z
      omega
    · obtain ⟨j, rfl⟩ : ∃ j, k = j + 1 := ⟨k - 1, by omega⟩
      have h5 : itr sc tg use b m (1 <<< z) (j + 1) = itr sc tg use b m (1 <<< z) j := by rw [← hr, h, h3]; rfl
      rw [hr, h5]
      exact itr_done (by omega) hb2 h0 h1 h2 h5
end
section
/-! the graph: what asks it -/
theorem gr_row (g : GG) (ga : Nat → Nat) (sc tg sw : Nat → Nat) (lv : Nat → Nat → Nat) (lc : Nat → Nat) (b m : Nat) {i : Nat} (hi : i < 10) : ∃ q0 : Nat, (wGr g ga sc tg sw lv lc b m)[q0]? = some (ga (6 + i), IA g 20 (lv i)) := by
  refine ⟨6 + i, ?_⟩
  rcases (show i = 0 ∨ i = 1 ∨ i = 2 ∨ i = 3 ∨ i = 4 ∨ i = 5 ∨ i = 6 ∨ i = 7 ∨ i = 8 ∨ i = 9 by omega) with rfl | rfl | rfl | rfl | rfl | rfl | rfl | rfl | rfl | rfl <;> rfl
theorem aaldII {p : Program} {l : Launch} {e : Env} {R : Room} {s : State} {m : MethodId} {args : Array Value} {below : List Frame} {meth : Method} {c : Code} {H : Heap} {locs : List Loc} {cells slots : Nat} {Q : State → Prop} {cc : ByteArray} {pc : Nat} {ls : Array Slot} {rest : List Value} {g : GG} {ws : va_W} {d : Nat} {ad : Nat → Nat} (hx : p.tables.exec = Jvm.exec) (hb : c.code = cc) (hN : SK g s) (hP : va_P g.1 vwCl ws H) (q0 : Nat) {i : Nat} (ha : ws[q0]? = some (d, .inl (g.2 2, 10, .inr (.inr (.inr (.inr (rowsOf ad))))))) (hi : i < 10) (hdg : decode cc pc = .ok (.aaload, 1))
    (kk : W p l e R s m args below meth c H locs cells slots Q (F0 m (pc + 1) ls (.ref (ad (6 + i)) :: rest))) : W p l e R s m args below meth c H locs cells slots Q (F0 m pc ls (.int (nI i) :: .ref d :: rest)) := by
  have hin : vp_in (nI i) 10 := vp_in_nI hi (by decide)
  have hv : va_rf (rowsOf ad (nI i).toNatClampNeg) = .ref (ad (6 + i)) := by
    rw [nI_clamp (by omega)]
    unfold rowsOf
    rw [if_pos hi]
    rfl
  have hlt : (nI i).toNatClampNeg < 10 := by rw [nI_clamp (by omega)]; exact hi
  refine W.aald (v := .ref (ad (6 + i))) (ty := .array .int) hx hb (hP q0 _ ha) ((hN.1.2 2 _ rfl).1 10 (fun j => va_rf (rowsOf ad j))) rfl (fun q => by cases q) (by show ¬ (_ ∨ (arrV _ _ _).slots.size ≤ _); rw [arrV_size]; exact hin) (by show (arrV _ _ _).slots[_]? = _; rw [arrV_read _ _ hlt, hv]) rfl rfl hdg kk
set_option maxHeartbeats 4000000 in
set_option maxRecDepth 100000 in
theorem k_X6_holds (l : Launch) (g : GG) (S : Nat) (k : Nat) (hS : S < 2 ^ 31) (hk : k < 31) : PuB l g yX6_holds wsX6_holds ({ frames := 0, cells := 0, slots := 0, locals := 0 } : Room) [.int (nI S), .int (nI k)] (([] : va_W)) (S.testBit k = true) := by
  refine PuB.mk (cc := cX6_holds) (maxL := 2) (by decide) rfl (Nat.le_of_ble_eq_true rfl) rfl (fun p ev s mi below meth cd ls Q hx hb hts hown hml hN hP hl hrt hrf => ?_)
  have hown : s.vm.findClass RX6 = some mi.cls := hown
  have hl : lv_has ls 2 [(0, .int (nI S)), (1, .int (nI k))] := hl
  refine lv_iload_n hx hb dX6_holds_0 rfl (lv_at hl 0 rfl) ?_
  refine lv_iconst (v := nI 1) hx hb dX6_holds_1 rfl ?_
  refine lv_iload_n hx hb dX6_holds_2 rfl (lv_at hl 1 rfl) ?_
  refine ishlN hx hb dX6_holds_3 (by omega) (shl_ok (by omega)) ?_
  refine iandN hx hb dX6_holds_4 ?_
  refine zeq (tgt := 12) hx hb dX6_holds_5 (by decide) (and_lt hS) (fun c5 => ?_) (fun c5 => ?_)
  · refine lv_iconst (v := nI 0) hx hb dX6_holds_12 rfl ?_
    exact hrf _ _ (by rw [tb_and] at c5; simp [c5]) dX6_holds_13
  · refine lv_iconst (v := nI 1) hx hb dX6_holds_8 rfl ?_
    refine lv_goto (tgt := 13) hx hb dX6_holds_9 (by decide) ?_
    exact hrt _ _ (by rw [tb_and] at c5; simpa using c5) dX6_holds_13

set_option maxHeartbeats 4000000 in
set_option maxRecDepth 100000 in
theorem k_X0_blocks (l : Launch) (g : GG) (ga : Nat → Nat) (sc : Nat → Nat) (tg : Nat → Nat) (sw : Nat → Nat) (lv : Nat → Nat → Nat) (lc : Nat → Nat) (b : Nat) (m : Nat) : PuN l g yX0_blocks wsX0_blocks ({ frames := 0, cells := 0, slots := 0, locals := 0 } : Room) [.ref (ga 0)] (wGr g ga sc tg sw lv lc b m) (nI b) := by
  refine PuN.mk (cc := cX0_blocks) (maxL := 1) (by decide) rfl (Nat.le_of_ble_eq_true rfl) rfl (vp_nar_int _) (fun p ev s mi below meth cd ls Q hx hb hts hown hml hN hP hl hret => ?_)
  have hown : s.vm.findClass RX0 = some mi.cls := hown
  have hl : lv_has ls 1 [(0, .ref (ga 0))] := hl
  refine lv_aload_n hx hb dX0_blocks_0 rfl (lv_at hl 0 rfl) ?_
  refine va_get (D := g.1) (ci := 0) (v := .int (nI b)) (C := RX0) (T := TX0) (N := 7) hx hb hts (by decide +kernel) hown hN.1 hP 0 rfl rfl 5 (by decide) (hts (.fieldLink RX0 29 "EdgeCounterPlacer$Graph" "blocks" "I") (by decide +kernel)) (fun _ h9 => h9) rfl dX0_blocks_1 ?_
  exact hret _ _ dX0_blocks_4

set_option maxHeartbeats 4000000 in
set_option maxRecDepth 100000 in
theorem k_X0_edges (l : Launch) (g : GG) (ga : Nat → Nat) (sc : Nat → Nat) (tg : Nat → Nat) (sw : Nat → Nat) (lv : Nat → Nat → Nat) (lc : Nat → Nat) (b : Nat) (m : Nat) : PuN l g yX0_edges wsX0_edges ({ frames := 0, cells := 0, slots := 0, locals := 0 } : Room) [.ref (ga 0)] (wGr g ga sc tg sw lv lc b m) (nI m) := by
  refine PuN.mk (cc := cX0_edges) (maxL := 1) (by decide) rfl (Nat.le_of_ble_eq_true rfl) rfl (vp_nar_int _) (fun p ev s mi below meth cd ls Q hx hb hts hown hml hN hP hl hret => ?_)
  have hown : s.vm.findClass RX0 = some mi.cls := hown
  have hl : lv_has ls 1 [(0, .ref (ga 0))] := hl
  refine lv_aload_n hx hb dX0_edges_0 rfl (lv_at hl 0 rfl) ?_
  refine va_get (D := g.1) (ci := 0) (v := .int (nI m)) (C := RX0) (T := TX0) (N := 7) hx hb hts (by decide +kernel) hown hN.1 hP 0 rfl rfl 6 (by decide) (hts (.fieldLink RX0 33 "EdgeCounterPlacer$Graph" "edges" "I") (by decide +kernel)) (fun _ h9 => h9) rfl dX0_edges_1 ?_
  exact hret _ _ dX0_edges_4

set_option maxHeartbeats 4000000 in
set_option maxRecDepth 100000 in
theorem k_X0_exit (l : Launch) (g : GG) (ga : Nat → Nat) (sc : Nat → Nat) (tg : Nat → Nat) (sw : Nat → Nat) (lv : Nat → Nat → Nat) (lc : Nat → Nat) (b : Nat) (m : Nat) (hb1 : 1 ≤ b) : PuN l g yX0_exit wsX0_exit ({ frames := 0, cells := 0, slots := 0, locals := 0 } : Room) [.ref (ga 0)] (wGr g ga sc tg sw lv lc b m) (nI (b - 1)) := by
  refine PuN.mk (cc := cX0_exit) (maxL := 1) (by decide) rfl (Nat.le_of_ble_eq_true rfl) rfl (vp_nar_int _) (fun p ev s mi below meth cd ls Q hx hb hts hown hml hN hP hl hret => ?_)
  have hown : s.vm.findClass RX0 = some mi.cls := hown
  have hl : lv_has ls 1 [(0, .ref (ga 0))] := hl
  refine lv_aload_n hx hb dX0_exit_0 rfl (lv_at hl 0 rfl) ?_
  refine va_get (D := g.1) (ci := 0) (v := .int (nI b)) (C := RX0) (T := TX0) (N := 7) hx hb hts (by decide +kernel) hown hN.1 hP 0 rfl rfl 5 (by decide) (hts (.fieldLink RX0 29 "EdgeCounterPlacer$Graph" "blocks" "I") (by decide +kernel)) (fun _ h9 => h9) rfl dX0_exit_1 ?_
  refine lv_iconst (v := nI 1) hx hb dX0_exit_4 rfl ?_
  refine isubN hx hb dX0_exit_5 (by omega) ?_
  exact hret _ _ dX0_exit_6

set_option maxHeartbeats 4000000 in
set_option maxRecDepth 100000 in
theorem k_X0_isFull (l : Launch) (g : GG) (ga : Nat → Nat) (sc : Nat → Nat) (tg : Nat → Nat) (sw : Nat → Nat) (lv : Nat → Nat → Nat) (lc : Nat → Nat) (b : Nat) (m : Nat) (hm : m ≤ 20) : PuB l g yX0_isFull wsX0_isFull ({ frames := 0, cells := 0, slots := 0, locals := 0 } : Room) [.ref (ga 0)] (wGr g ga sc tg sw lv lc b m) (20 ≤ m) := by
  refine PuB.mk (cc := cX0_isFull) (maxL := 1) (by decide) rfl (Nat.le_of_ble_eq_true rfl) rfl (fun p ev s mi below meth cd ls Q hx hb hts hown hml hN hP hl hrt hrf => ?_)
  have hown : s.vm.findClass RX0 = some mi.cls := hown
  have hl : lv_has ls 1 [(0, .ref (ga 0))] := hl
  refine lv_aload_n hx hb dX0_isFull_0 rfl (lv_at hl 0 rfl) ?_
  refine va_get (D := g.1) (ci := 0) (v := .int (nI m)) (C := RX0) (T := TX0) (N := 7) hx hb hts (by decide +kernel) hown hN.1 hP 0 rfl rfl 6 (by decide) (hts (.fieldLink RX0 33 "EdgeCounterPlacer$Graph" "edges" "I") (by decide +kernel)) (fun _ h9 => h9) rfl dX0_isFull_1 ?_
  refine lv_bipush (v := nI 20) hx hb dX0_isFull_4 (by decide) ?_
  refine clt (tgt := 13) hx hb dX0_isFull_6 (by decide) (by omega) (by decide) (fun c6 => ?_) (fun c6 => ?_)
  · refine lv_iconst (v := nI 0) hx hb dX0_isFull_13 rfl ?_
    exact hrf _ _ (by omega) dX0_isFull_14
  · refine lv_iconst (v := nI 1) hx hb dX0_isFull_9 rfl ?_
    refine lv_goto (tgt := 14) hx hb dX0_isFull_10 (by decide) ?_
    exact hrt _ _ (by omega) dX0_isFull_14

set_option maxHeartbeats 4000000 in
set_option maxRecDepth 100000 in
theorem k_X0_hasBlock (l : Launch) (g : GG) (ga : Nat → Nat) (sc : Nat → Nat) (tg : Nat → Nat) (sw : Nat → Nat) (lv : Nat → Nat → Nat) (lc : Nat → Nat) (b : Nat) (m : Nat) (i : Nat) (hi : i < 2 ^ 31) (hb10 : b ≤ 10) : PuB l g yX0_hasBlock wsX0_hasBlock ({ frames := 0, cells := 0, slots := 0, locals := 0 } : Room) [.ref (ga 0), .int (nI i)] (wGr g ga sc tg sw lv lc b m) (i < b) := by
  refine PuB.mk (cc := cX0_hasBlock) (maxL := 2) (by decide) rfl (Nat.le_of_ble_eq_true rfl) rfl (fun p ev s mi below meth cd ls Q hx hb hts hown hml hN hP hl hrt hrf => ?_)
  have hown : s.vm.findClass RX0 = some mi.cls := hown
  have hl : lv_has ls 2 [(0, .ref (ga 0)), (1, .int (nI i))] := hl
  refine lv_iload_n hx hb dX0_hasBlock_0 rfl (lv_at hl 1 rfl) ?_
  refine zlt (tgt := 22) hx hb dX0_hasBlock_1 (by decide) (by omega) ?_
  refine lv_iload_n hx hb dX0_hasBlock_4 rfl (lv_at hl 1 rfl) ?_
  refine lv_aload_n hx hb dX0_hasBlock_5 rfl (lv_at hl 0 rfl) ?_
  refine va_get (D := g.1) (ci := 0) (v := .int (nI b)) (C := RX0) (T := TX0) (N := 7) hx hb hts (by decide +kernel) hown hN.1 hP 0 rfl rfl 5 (by decide) (hts (.fieldLink RX0 29 "EdgeCounterPlacer$Graph" "blocks" "I") (by decide +kernel)) (fun _ h9 => h9) rfl dX0_hasBlock_6 ?_
  refine cge (tgt := 22) hx hb dX0_hasBlock_9 (by decide) (by omega) (by omega) (fun c9 => ?_) (fun c9 => ?_)
  · refine lv_iconst (v := nI 0) hx hb dX0_hasBlock_22 rfl ?_
    exact hrf _ _ (by omega) dX0_hasBlock_23
  · refine lv_iload_n hx hb dX0_hasBlock_12 rfl (lv_at hl 1 rfl) ?_
    refine lv_bipush (v := nI 10) hx hb dX0_hasBlock_13 (by decide) ?_
    refine cge (tgt := 22) hx hb dX0_hasBlock_15 (by decide) (by omega) (by decide) (fun c15 => ?_) (fun c15 => ?_)
    · refine lv_iconst (v := nI 0) hx hb dX0_hasBlock_22 rfl ?_
      exact hrf _ _ (by omega) dX0_hasBlock_23
    · refine lv_iconst (v := nI 1) hx hb dX0_hasBlock_18 rfl ?_
      refine lv_goto (tgt := 23) hx hb dX0_hasBlock_19 (by decide) ?_
      exact hrt _ _ (by omega) dX0_hasBlock_23

set_option maxHeartbeats 4000000 in
set_option maxRecDepth 100000 in
theorem k_X0_hasEdge (l : Launch) (g : GG) (ga : Nat → Nat) (sc : Nat → Nat) (tg : Nat → Nat) (sw : Nat → Nat) (lv : Nat → Nat → Nat) (lc : Nat → Nat) (b : Nat) (m : Nat) (i : Nat) (hi : i < 2 ^ 31) (hm : m ≤ 20) : PuB l g yX0_hasEdge wsX0_hasEdge ({ frames := 0, cells := 0, slots := 0, locals := 0 } : Room) [.ref (ga 0), .int (nI i)] (wGr g ga sc tg sw lv lc b m) (i < m) := by
  refine PuB.mk (cc := cX0_hasEdge) (maxL := 2) (by decide) rfl (Nat.le_of_ble_eq_true rfl) rfl (fun p ev s mi below meth cd ls Q hx hb hts hown hml hN hP hl hrt hrf => ?_)
  have hown : s.vm.findClass RX0 = some mi.cls := hown
  have hl : lv_has ls 2 [(0, .ref (ga 0)), (1, .int (nI i))] := hl
  refine lv_iload_n hx hb dX0_hasEdge_0 rfl (lv_at hl 1 rfl) ?_
  refine zlt (tgt := 22) hx hb dX0_hasEdge_1 (by decide) (by omega) ?_
  refine lv_iload_n hx hb dX0_hasEdge_4 rfl (lv_at hl 1 rfl) ?_
  refine lv_aload_n hx hb dX0_hasEdge_5 rfl (lv_at hl 0 rfl) ?_
  refine va_get (D := g.1) (ci := 0) (v := .int (nI m)) (C := RX0) (T := TX0) (N := 7) hx hb hts (by decide +kernel) hown hN.1 hP 0 rfl rfl 6 (by decide) (hts (.fieldLink RX0 33 "EdgeCounterPlacer$Graph" "edges" "I") (by decide +kernel)) (fun _ h9 => h9) rfl dX0_hasEdge_6 ?_
  refine cge (tgt := 22) hx hb dX0_hasEdge_9 (by decide) (by omega) (by omega) (fun c9 => ?_) (fun c9 => ?_)
  · refine lv_iconst (v := nI 0) hx hb dX0_hasEdge_22 rfl ?_
    exact hrf _ _ (by omega) dX0_hasEdge_23
  · refine lv_iload_n hx hb dX0_hasEdge_12 rfl (lv_at hl 1 rfl) ?_
    refine lv_bipush (v := nI 20) hx hb dX0_hasEdge_13 (by decide) ?_
    refine cge (tgt := 22) hx hb dX0_hasEdge_15 (by decide) (by omega) (by decide) (fun c15 => ?_) (fun c15 => ?_)
    · refine lv_iconst (v := nI 0) hx hb dX0_hasEdge_22 rfl ?_
      exact hrf _ _ (by omega) dX0_hasEdge_23
    · refine lv_iconst (v := nI 1) hx hb dX0_hasEdge_18 rfl ?_
      refine lv_goto (tgt := 23) hx hb dX0_hasEdge_19 (by decide) ?_
      exact hrt _ _ (by omega) dX0_hasEdge_23

set_option maxHeartbeats 4000000 in
set_option maxRecDepth 100000 in
theorem k_X0_hasBlock_neg (l : Launch) (g : GG) (ga : Nat → Nat) (sc : Nat → Nat) (tg : Nat → Nat) (sw : Nat → Nat) (lv : Nat → Nat → Nat) (lc : Nat → Nat) (b : Nat) (m : Nat) (x : Int32) (hx0 : x < 0) : PuB l g yX0_hasBlock wsX0_hasBlock ({ frames := 0, cells := 0, slots := 0, locals := 0 } : Room) [.ref (ga 0), .int x] (wGr g ga sc tg sw lv lc b m) (False) := by
  refine PuB.mk (cc := cX0_hasBlock) (maxL := 2) (by decide) rfl (Nat.le_of_ble_eq_true rfl) rfl (fun p ev s mi below meth cd ls Q hx hb hts hown hml hN hP hl hrt hrf => ?_)
  have hown : s.vm.findClass RX0 = some mi.cls := hown
  have hl : lv_has ls 2 [(0, .ref (ga 0)), (1, .int x)] := hl
  refine lv_iload_n hx hb dX0_hasBlock_0 rfl (lv_at hl 1 rfl) ?_
  refine lv_if_lt (tgt := 22) hx hb dX0_hasBlock_1 (by decide) (fun c1 => ?_) (fun c1 => (by exfalso; exact c1 hx0))
  refine lv_iconst (v := nI 0) hx hb dX0_hasBlock_22 rfl ?_
  exact hrf _ _ (by simp) dX0_hasBlock_23

set_option maxHeartbeats 4000000 in
set_option maxRecDepth 100000 in
theorem k_X0_hasEdge_neg (l : Launch) (g : GG) (ga : Nat → Nat) (sc : Nat → Nat) (tg : Nat → Nat) (sw : Nat → Nat) (lv : Nat → Nat → Nat) (lc : Nat → Nat) (b : Nat) (m : Nat) (x : Int32) (hx0 : x < 0) : PuB l g yX0_hasEdge wsX0_hasEdge ({ frames := 0, cells := 0, slots := 0, locals := 0 } : Room) [.ref (ga 0), .int x] (wGr g ga sc tg sw lv lc b m) (False) := by
  refine PuB.mk (cc := cX0_hasEdge) (maxL := 2) (by decide) rfl (Nat.le_of_ble_eq_true rfl) rfl (fun p ev s mi below meth cd ls Q hx hb hts hown hml hN hP hl hrt hrf => ?_)
  have hown : s.vm.findClass RX0 = some mi.cls := hown
  have hl : lv_has ls 2 [(0, .ref (ga 0)), (1, .int x)] := hl
  refine lv_iload_n hx hb dX0_hasEdge_0 rfl (lv_at hl 1 rfl) ?_
  refine lv_if_lt (tgt := 22) hx hb dX0_hasEdge_1 (by decide) (fun c1 => ?_) (fun c1 => (by exfalso; exact c1 hx0))
  refine lv_iconst (v := nI 0) hx hb dX0_hasEdge_22 rfl ?_
  exact hrf _ _ (by simp) dX0_hasEdge_23

set_option maxHeartbeats 4000000 in
set_option maxRecDepth 100000 in
theorem k_X0_source (l : Launch) (g : GG) (ga : Nat → Nat) (sc : Nat → Nat) (tg : Nat → Nat) (sw : Nat → Nat) (lv : Nat → Nat → Nat) (lc : Nat → Nat) (b : Nat) (m : Nat) (i : Nat) (hi : i < m) (hm : m ≤ 20) : PuN l g yX0_source wsX0_source ({ frames := 1, cells := 0, slots := 0, locals := 21 } : Room) [.ref (ga 0), .int (nI i)] (wGr g ga sc tg sw lv lc b m) (nI (sc i)) := by
  refine PuN.mk (cc := cX0_source) (maxL := 2) (by decide) rfl (Nat.le_of_ble_eq_true rfl) rfl (vp_nar_int _) (fun p ev s mi below meth cd ls Q hx hb hts hown hml hN hP hl hret => ?_)
  have hown : s.vm.findClass RX0 = some mi.cls := hown
  have hl : lv_has ls 2 [(0, .ref (ga 0)), (1, .int (nI i))] := hl
  refine lv_aload_n hx hb dX0_source_0 rfl (lv_at hl 0 rfl) ?_
  refine lv_iload_n hx hb dX0_source_1 rfl (lv_at hl 1 rfl) ?_
  refine cV_B (As := [.int (nI i)]) (rest := []) ⟨hx, hb, hml, hown, hts⟩ (k_X0_hasEdge l g ga sc tg sw lv lc b m i (by first | assumption | omega) (by first | assumption | omega)) (cwV 1 hts gX0_source_X0_hasEdge rfl rfl rfl (by decide +kernel) ⟨Nat.le_of_ble_eq_true rfl, Nat.le_of_ble_eq_true rfl⟩) hN hP (rcv hN hP 0 0 rfl rfl rfl) rfl hl.1 rfl (Nat.le_of_ble_eq_true rfl) dX0_source_2 ⟨Nat.zero_le _, Nat.zero_le _⟩ (fun c2 => ?_) (fun c2 => (by exfalso; omega))
  refine zeq (tgt := 17) hx hb dX0_source_5 (by decide) (by decide) (fun c5 => (by exfalso; omega)) (fun c5 => ?_)
  refine lv_aload_n hx hb dX0_source_8 rfl (lv_at hl 0 rfl) ?_
  refine va_get (D := g.1) (ci := 0) (v := .ref (ga 1)) (C := RX0) (T := TX0) (N := 7) hx hb hts (by decide +kernel) hown hN.1 hP 0 rfl rfl 0 (by decide) (hts (.fieldLink RX0 9 "EdgeCounterPlacer$Graph" "source" "[I") (by decide +kernel)) (fun _ h9 => h9) rfl dX0_source_9 ?_
  refine lv_iload_n hx hb dX0_source_12 rfl (lv_at hl 1 rfl) ?_
  refine iald hx hb hN hP 1 rfl (by omega) (by decide) dX0_source_13 ?_
  refine lv_goto (tgt := 18) hx hb dX0_source_14 (by decide) ?_
  exact hret _ _ dX0_source_18

set_option maxHeartbeats 4000000 in
set_option maxRecDepth 100000 in
theorem k_X0_target (l : Launch) (g : GG) (ga : Nat → Nat) (sc : Nat → Nat) (tg : Nat → Nat) (sw : Nat → Nat) (lv : Nat → Nat → Nat) (lc : Nat → Nat) (b : Nat) (m : Nat) (i : Nat) (hi : i < m) (hm : m ≤ 20) : PuN l g yX0_target wsX0_target ({ frames := 1, cells := 0, slots := 0, locals := 21 } : Room) [.ref (ga 0), .int (nI i)] (wGr g ga sc tg sw lv lc b m) (nI (tg i)) := by
  refine PuN.mk (cc := cX0_target) (maxL := 2) (by decide) rfl (Nat.le_of_ble_eq_true rfl) rfl (vp_nar_int _) (fun p ev s mi below meth cd ls Q hx hb hts hown hml hN hP hl hret => ?_)
  have hown : s.vm.findClass RX0 = some mi.cls := hown
  have hl : lv_has ls 2 [(0, .ref (ga 0)), (1, .int (nI i))] := hl
  refine lv_aload_n hx hb dX0_target_0 rfl (lv_at hl 0 rfl) ?_
  refine lv_iload_n hx hb dX0_target_1 rfl (lv_at hl 1 rfl) ?_
  refine cV_B (As := [.int (nI i)]) (rest := []) ⟨hx, hb, hml, hown, hts⟩ (k_X0_hasEdge l g ga sc tg sw lv lc b m i (by first | assumption | omega) (by first | assumption | omega)) (cwV 1 hts gX0_target_X0_hasEdge rfl rfl rfl (by decide +kernel) ⟨Nat.le_of_ble_eq_true rfl, Nat.le_of_ble_eq_true rfl⟩) hN hP (rcv hN hP 0 0 rfl rfl rfl) rfl hl.1 rfl (Nat.le_of_ble_eq_true rfl) dX0_target_2 ⟨Nat.zero_le _, Nat.zero_le _⟩ (fun c2 => ?_) (fun c2 => (by exfalso; omega))
  refine zeq (tgt := 17) hx hb dX0_target_5 (by decide) (by decide) (fun c5 => (by exfalso; omega)) (fun c5 => ?_)
  refine lv_aload_n hx hb dX0_target_8 rfl (lv_at hl 0 rfl) ?_
  refine va_get (D := g.1) (ci := 0) (v := .ref (ga 2)) (C := RX0) (T := TX0) (N := 7) hx hb hts (by decide +kernel) hown hN.1 hP 0 rfl rfl 1 (by decide) (hts (.fieldLink RX0 15 "EdgeCounterPlacer$Graph" "target" "[I") (by decide +kernel)) (fun _ h9 => h9) rfl dX0_target_9 ?_
  refine lv_iload_n hx hb dX0_target_12 rfl (lv_at hl 1 rfl) ?_
  refine iald hx hb hN hP 2 rfl (by omega) (by decide) dX0_target_13 ?_
  refine lv_goto (tgt := 18) hx hb dX0_target_14 (by decide) ?_
  exact hret _ _ dX0_target_18

set_option maxHeartbeats 4000000 in
set_option maxRecDepth 100000 in
theorem k_X0_statedWeight (l : Launch) (g : GG) (ga : Nat → Nat) (sc : Nat → Nat) (tg : Nat → Nat) (sw : Nat → Nat) (lv : Nat → Nat → Nat) (lc : Nat → Nat) (b : Nat) (m : Nat) (i : Nat) (hi : i < 20) (hm : m ≤ 20) : PuN l g yX0_statedWeight wsX0_statedWeight ({ frames := 1, cells := 0, slots := 0, locals := 21 } : Room) [.ref (ga 0), .int (nI i)] (wGr g ga sc tg sw lv lc b m) (nI (if i < m then sw i else 0)) := by
  refine PuN.mk (cc := cX0_statedWeight) (maxL := 2) (by decide) rfl (Nat.le_of_ble_eq_true rfl) rfl (vp_nar_int _) (fun p ev s mi below meth cd ls Q hx hb hts hown hml hN hP hl hret => ?_)
  have hown : s.vm.findClass RX0 = some mi.cls := hown
  have hl : lv_has ls 2 [(0, .ref (ga 0)), (1, .int (nI i))] := hl
  refine lv_aload_n hx hb dX0_statedWeight_0 rfl (lv_at hl 0 rfl) ?_
  refine lv_iload_n hx hb dX0_statedWeight_1 rfl (lv_at hl 1 rfl) ?_
  refine cV_B (As := [.int (nI i)]) (rest := []) ⟨hx, hb, hml, hown, hts⟩ (k_X0_hasEdge l g ga sc tg sw lv lc b m i (by first | assumption | omega) (by first | assumption | omega)) (cwV 1 hts gX0_statedWeight_X0_hasEdge rfl rfl rfl (by decide +kernel) ⟨Nat.le_of_ble_eq_true rfl, Nat.le_of_ble_eq_true rfl⟩) hN hP (rcv hN hP 0 0 rfl rfl rfl) rfl hl.1 rfl (Nat.le_of_ble_eq_true rfl) dX0_statedWeight_2 ⟨Nat.zero_le _, Nat.zero_le _⟩ (fun c2 => ?_) (fun c2 => ?_)
  · refine zeq (tgt := 17) hx hb dX0_statedWeight_5 (by decide) (by decide) (fun c5 => (by exfalso; omega)) (fun c5 => ?_)
    refine lv_aload_n hx hb dX0_statedWeight_8 rfl (lv_at hl 0 rfl) ?_
    refine va_get (D := g.1) (ci := 0) (v := .ref (ga 3)) (C := RX0) (T := TX0) (N := 7) hx hb hts (by decide +kernel) hown hN.1 hP 0 rfl rfl 2 (by decide) (hts (.fieldLink RX0 18 "EdgeCounterPlacer$Graph" "statedWeight" "[I") (by decide +kernel)) (fun _ h9 => h9) rfl dX0_statedWeight_9 ?_
    refine lv_iload_n hx hb dX0_statedWeight_12 rfl (lv_at hl 1 rfl) ?_
    refine iald hx hb hN hP 3 rfl (by omega) (by decide) dX0_statedWeight_13 ?_
    refine lv_goto (tgt := 18) hx hb dX0_statedWeight_14 (by decide) ?_
    exact tp (y := (nI (if i < m then sw i else 0))) (by simp [*]) (hret _ _ dX0_statedWeight_18)
  · refine zeq (tgt := 17) hx hb dX0_statedWeight_5 (by decide) (by decide) (fun c5 => ?_) (fun c5 => (by exfalso; omega))
    refine lv_iconst (v := nI 0) hx hb dX0_statedWeight_17 rfl ?_
    exact tp (y := (nI (if i < m then sw i else 0))) (by simp [*]) (hret _ _ dX0_statedWeight_18)

set_option maxHeartbeats 4000000 in
set_option maxRecDepth 100000 in
theorem k_X0_leavingCount (l : Launch) (g : GG) (ga : Nat → Nat) (sc : Nat → Nat) (tg : Nat → Nat) (sw : Nat → Nat) (lv : Nat → Nat → Nat) (lc : Nat → Nat) (b : Nat) (m : Nat) (i : Nat) (hi : i < b) (hb10 : b ≤ 10) : PuN l g yX0_leavingCount wsX0_leavingCount ({ frames := 1, cells := 0, slots := 0, locals := 21 } : Room) [.ref (ga 0), .int (nI i)] (wGr g ga sc tg sw lv lc b m) (nI (lc i)) := by
  refine PuN.mk (cc := cX0_leavingCount) (maxL := 2) (by decide) rfl (Nat.le_of_ble_eq_true rfl) rfl (vp_nar_int _) (fun p ev s mi below meth cd ls Q hx hb hts hown hml hN hP hl hret => ?_)
  have hown : s.vm.findClass RX0 = some mi.cls := hown
  have hl : lv_has ls 2 [(0, .ref (ga 0)), (1, .int (nI i))] := hl
  refine lv_aload_n hx hb dX0_leavingCount_0 rfl (lv_at hl 0 rfl) ?_
  refine lv_iload_n hx hb dX0_leavingCount_1 rfl (lv_at hl 1 rfl) ?_
  refine cV_B (As := [.int (nI i)]) (rest := []) ⟨hx, hb, hml, hown, hts⟩ (k_X0_hasBlock l g ga sc tg sw lv lc b m i (by first | assumption | omega) (by first | assumption | omega)) (cwV 1 hts gX0_leavingCount_X0_hasBlock rfl rfl rfl (by decide +kernel) ⟨Nat.le_of_ble_eq_true rfl, Nat.le_of_ble_eq_true rfl⟩) hN hP (rcv hN hP 0 0 rfl rfl rfl) rfl hl.1 rfl (Nat.le_of_ble_eq_true rfl) dX0_leavingCount_2 ⟨Nat.zero_le _, Nat.zero_le _⟩ (fun c2 => ?_) (fun c2 => (by exfalso; omega))
  refine zeq (tgt := 17) hx hb dX0_leavingCount_5 (by decide) (by decide) (fun c5 => (by exfalso; omega)) (fun c5 => ?_)
  refine lv_aload_n hx hb dX0_leavingCount_8 rfl (lv_at hl 0 rfl) ?_
  refine va_get (D := g.1) (ci := 0) (v := .ref (ga 5)) (C := RX0) (T := TX0) (N := 7) hx hb hts (by decide +kernel) hown hN.1 hP 0 rfl rfl 4 (by decide) (hts (.fieldLink RX0 26 "EdgeCounterPlacer$Graph" "leavingCount" "[I") (by decide +kernel)) (fun _ h9 => h9) rfl dX0_leavingCount_9 ?_
  refine lv_iload_n hx hb dX0_leavingCount_12 rfl (lv_at hl 1 rfl) ?_
  refine iald hx hb hN hP 5 rfl (by omega) (by decide) dX0_leavingCount_13 ?_
  refine lv_goto (tgt := 18) hx hb dX0_leavingCount_14 (by decide) ?_
  exact hret _ _ dX0_leavingCount_18

set_option maxHeartbeats 4000000 in
set_option maxRecDepth 100000 in
theorem k_X0_leavingEdge (l : Launch) (g : GG) (ga : Nat → Nat) (sc : Nat → Nat) (tg : Nat → Nat) (sw : Nat → Nat) (lv : Nat → Nat → Nat) (lc : Nat → Nat) (b : Nat) (m : Nat) (i : Nat) (j : Nat) (hi : i < b) (hb10 : b ≤ 10) (hj : j < lc i) (hl20 : lc i ≤ 20) : PuN l g yX0_leavingEdge wsX0_leavingEdge ({ frames := 2, cells := 0, slots := 0, locals := 42 } : Room) [.ref (ga 0), .int (nI i), .int (nI j)] (wGr g ga sc tg sw lv lc b m) (nI (lv i j)) := by
  refine PuN.mk (cc := cX0_leavingEdge) (maxL := 3) (by decide) rfl (Nat.le_of_ble_eq_true rfl) rfl (vp_nar_int _) (fun p ev s mi below meth cd ls Q hx hb hts hown hml hN hP hl hret => ?_)
  have hown : s.vm.findClass RX0 = some mi.cls := hown
  have hl : lv_has ls 3 [(0, .ref (ga 0)), (1, .int (nI i)), (2, .int (nI j))] := hl
  refine lv_iload_n hx hb dX0_leavingEdge_0 rfl (lv_at hl 2 rfl) ?_
  refine zlt (tgt := 13) hx hb dX0_leavingEdge_1 (by decide) (by omega) ?_
  refine lv_iload_n hx hb dX0_leavingEdge_4 rfl (lv_at hl 2 rfl) ?_
  refine lv_aload_n hx hb dX0_leavingEdge_5 rfl (lv_at hl 0 rfl) ?_
  refine lv_iload_n hx hb dX0_leavingEdge_6 rfl (lv_at hl 1 rfl) ?_
  refine cV_N (As := [.int (nI i)]) (rest := [.int (nI j)]) ⟨hx, hb, hml, hown, hts⟩ (k_X0_leavingCount l g ga sc tg sw lv lc b m i (by first | assumption | omega) (by first | assumption | omega)) (cwV 1 hts gX0_leavingEdge_X0_leavingCount rfl rfl rfl (by decide +kernel) ⟨Nat.le_of_ble_eq_true rfl, Nat.le_of_ble_eq_true rfl⟩) hN hP (rcv hN hP 0 0 rfl rfl rfl) rfl hl.1 rfl (Nat.le_of_ble_eq_true rfl) dX0_leavingEdge_7 ⟨Nat.zero_le _, Nat.zero_le _⟩ ?_
  refine clt (tgt := 15) hx hb dX0_leavingEdge_10 (by decide) (by omega) (by omega) (fun c10 => ?_) (fun c10 => (by exfalso; omega))
  refine lv_aload_n hx hb dX0_leavingEdge_15 rfl (lv_at hl 0 rfl) ?_
  refine va_get (D := g.1) (ci := 0) (v := .ref (ga 4)) (C := RX0) (T := TX0) (N := 7) hx hb hts (by decide +kernel) hown hN.1 hP 0 rfl rfl 3 (by decide) (hts (.fieldLink RX0 23 "EdgeCounterPlacer$Graph" "leaving" "[[I") (by decide +kernel)) (fun _ h9 => h9) rfl dX0_leavingEdge_16 ?_
  refine lv_iload_n hx hb dX0_leavingEdge_19 rfl (lv_at hl 1 rfl) ?_
  refine aaldII hx hb hN hP 4 rfl (by omega) dX0_leavingEdge_20 ?_
  refine lv_iload_n hx hb dX0_leavingEdge_21 rfl (lv_at hl 2 rfl) ?_
  obtain ⟨q0, hq0⟩ := gr_row g ga sc tg sw lv lc b m (i := i) (by omega)
  refine iald hx hb hN hP q0 hq0 (by omega) (by decide) dX0_leavingEdge_22 ?_
  exact hret _ _ dX0_leavingEdge_23

set_option maxHeartbeats 4000000 in
set_option maxRecDepth 100000 in
theorem k_X0_spread (l : Launch) (g : GG) (ga : Nat → Nat) (sc : Nat → Nat) (tg : Nat → Nat) (sw : Nat → Nat) (lv : Nat → Nat → Nat) (lc : Nat → Nat) (b : Nat) (m : Nat) (r : Nat) (e : Nat) (hr : r < 2 ^ 31) (he : e < 2 ^ 31) : PuN l g yX0_spread wsX0_spread ({ frames := 0, cells := 0, slots := 0, locals := 0 } : Room) [.ref (ga 0), .int (nI r), .int (nI e)] (wGr g ga sc tg sw lv lc b m) (nI (spr r e)) := by
  refine PuN.mk (cc := cX0_spread) (maxL := 3) (by decide) rfl (Nat.le_of_ble_eq_true rfl) rfl (vp_nar_int _) (fun p ev s mi below meth cd ls Q hx hb hts hown hml hN hP hl hret => ?_)
  have hown : s.vm.findClass RX0 = some mi.cls := hown
  have hl : lv_has ls 3 [(0, .ref (ga 0)), (1, .int (nI r)), (2, .int (nI e))] := hl
  refine lv_iload_n hx hb dX0_spread_0 rfl (lv_at hl 1 rfl) ?_
  refine lv_iload_n hx hb dX0_spread_1 rfl (lv_at hl 2 rfl) ?_
  refine iandN hx hb dX0_spread_2 ?_
  refine zeq (tgt := 12) hx hb dX0_spread_3 (by decide) (and_lt hr) (fun c3 => ?_) (fun c3 => ?_)
  · refine lv_iload_n hx hb dX0_spread_12 rfl (lv_at hl 1 rfl) ?_
    exact tp (y := (nI (spr r e))) (by unfold spr; first | rw [if_pos c3] | rw [if_neg c3]) (hret _ _ dX0_spread_13)
  · refine lv_iload_n hx hb dX0_spread_6 rfl (lv_at hl 1 rfl) ?_
    refine lv_iload_n hx hb dX0_spread_7 rfl (lv_at hl 2 rfl) ?_
    refine iorN hx hb dX0_spread_8 ?_
    refine lv_goto (tgt := 13) hx hb dX0_spread_9 (by decide) ?_
    exact tp (y := (nI (spr r e))) (by unfold spr; first | rw [if_pos c3] | rw [if_neg c3]) (hret _ _ dX0_spread_13)

set_option maxHeartbeats 4000000 in
set_option maxRecDepth 100000 in
theorem k_X0_reach (l : Launch) (g : GG) (ga : Nat → Nat) (sc : Nat → Nat) (tg : Nat → Nat) (sw : Nat → Nat) (lv : Nat → Nat → Nat) (lc : Nat → Nat) (b : Nat) (m : Nat) (z : Nat) (U : Nat) (hm : m ≤ 20) (hb10 : b ≤ 10) (hz : z < b) (hU : U < 2 ^ 31) (hsc : ∀ e, e < m → sc e < b) (htg : ∀ e, e < m → tg e < b) : PuN l g yX0_reach wsX0_reach ({ frames := 2, cells := 0, slots := 0, locals := 42 } : Room) [.ref (ga 0), .int (nI z), .int (nI U)] (wGr g ga sc tg sw lv lc b m) (nI (clo sc tg (fun e => U.testBit e) b m z)) := by
  refine PuN.mk (cc := cX0_reach) (maxL := 7) (by decide) rfl (Nat.le_of_ble_eq_true rfl) rfl (vp_nar_int _) (fun p ev s mi below meth cd ls Q hx hb hts hown hml hN hP hl hret => ?_)
  have hown : s.vm.findClass RX0 = some mi.cls := hown
  have hl : lv_has ls 7 [(0, .ref (ga 0)), (1, .int (nI z)), (2, .int (nI U))] := hl
  have h2b : 2 ^ b ≤ 2 ^ 10 := Nat.pow_le_pow_right (by decide) hb10
  have h1b : 1 < 2 ^ b := Nat.one_lt_two_pow (by omega)
  refine lv_iconst (v := nI 1) hx hb dX0_reach_0 rfl ?_
  refine lv_iload_n hx hb dX0_reach_1 rfl (lv_at hl 1 rfl) ?_
  refine ishlN hx hb dX0_reach_2 (by omega) (shl_ok (by omega)) ?_
  refine lv_istore_n (lv' := [(3, .int (nI (1 <<< z))), (0, .ref (ga 0)), (1, .int (nI z)), (2, .int (nI U))]) hx hb dX0_reach_3 rfl hl (by decide) rfl (fun ls hl => ?_)
  refine lv_iconst (v := nI 0) hx hb dX0_reach_4 rfl ?_
  refine lv_istore (lv' := [(4, .int (nI 0)), (3, .int (nI (1 <<< z))), (0, .ref (ga 0)), (1, .int (nI z)), (2, .int (nI U))]) hx hb dX0_reach_5 hl (by decide) rfl (fun ls hl => ?_)
  refine lv_iconst (v := nI 0) hx hb dX0_reach_7 rfl ?_
  refine lv_istore (lv' := [(5, .int (nI 0)), (4, .int (nI 0)), (3, .int (nI (1 <<< z))), (0, .ref (ga 0)), (1, .int (nI z)), (2, .int (nI U))]) hx hb dX0_reach_8 hl (by decide) rfl (fun ls hl => ?_)
  suffices KL10 : ∀ (n10 : Nat) (r : Nat) (bf : Nat) (k : Nat), (k ≤ b + 1) → (r = itr sc tg (fun e => U.testBit e) b m (1 <<< z) k) → ((k = 0 ∧ bf = 0) ∨ (0 < k ∧ bf = itr sc tg (fun e => U.testBit e) b m (1 <<< z) (k - 1))) → (r < 2 ^ b) → (bf < 2 ^ b) → (b + 1 < k + n10) → ∀ ls : Array Slot, lv_has ls 7 [(0, .ref (ga 0)), (1, .int (nI z)), (2, .int (nI U)), (3, .int (nI r)), (4, .int (nI bf)), (5, .int (nI k))] → W p l ev ({ frames := 2, cells := 0, slots := 0, locals := 42 } : Room) s mi [.ref (ga 0), .int (nI z), .int (nI U)].toArray below meth cd s.heap [] 0 0 Q (F0 mi 10 ls []) from KL10 (b + 2) (1 <<< z) 0 0 (by omega) rfl (Or.inl ⟨rfl, rfl⟩) (shl1_lt hz) (by omega) (by omega) _ (lv_sub hl [3, 4, 5, 2, 1, 0] rfl)
  clear hl
  intro n10
  induction n10 with
  | zero =>
    intro r bf k hk hr hbf hrb hbb hn10
    exact absurd hn10 (by omega)
  | succ n10 ih10 =>
    intro r bf k hk hr hbf hrb hbb hn10 ls hl
    refine lv_iload hx hb dX0_reach_10 (lv_at hl 5 rfl) ?_
    refine lv_aload_n hx hb dX0_reach_12 rfl (lv_at hl 0 rfl) ?_
    refine va_get (D := g.1) (ci := 0) (v := .int (nI b)) (C := RX0) (T := TX0) (N := 7) hx hb hts (by decide +kernel) hown hN.1 hP 0 rfl rfl 5 (by decide) (hts (.fieldLink RX0 29 "EdgeCounterPlacer$Graph" "blocks" "I") (by decide +kernel)) (fun _ h9 => h9) rfl dX0_reach_13 ?_
    refine cgt (tgt := 98) hx hb dX0_reach_16 (by decide) (by omega) (by omega) (fun c16 => ?_) (fun c16 => ?_)
    · refine lv_iload_n hx hb dX0_reach_98 rfl (lv_at hl 3 rfl) ?_
      exact tp (y := (nI (clo sc tg (fun e => U.testBit e) b m z))) (congrArg nI (reach_fin hb10 hz hsc htg hr hbf (by first | exact Or.inl c16 | exact Or.inr c22))) (hret _ _ dX0_reach_99)
    · refine lv_iload_n hx hb dX0_reach_19 rfl (lv_at hl 3 rfl) ?_
      refine lv_iload hx hb dX0_reach_20 (lv_at hl 4 rfl) ?_
      refine ceq (tgt := 98) hx hb dX0_reach_22 (by decide) (by omega) (by omega) (fun c22 => ?_) (fun c22 => ?_)
      · refine lv_iload_n hx hb dX0_reach_98 rfl (lv_at hl 3 rfl) ?_
        exact tp (y := (nI (clo sc tg (fun e => U.testBit e) b m z))) (congrArg nI (reach_fin hb10 hz hsc htg hr hbf (by first | exact Or.inl c16 | exact Or.inr c22))) (hret _ _ dX0_reach_99)
      · refine lv_iload_n hx hb dX0_reach_25 rfl (lv_at hl 3 rfl) ?_
        refine lv_istore (lv' := [(4, .int (nI r)), (0, .ref (ga 0)), (1, .int (nI z)), (2, .int (nI U)), (3, .int (nI r)), (5, .int (nI k))]) hx hb dX0_reach_26 hl (by decide) rfl (fun ls hl => ?_)
        refine lv_aload_n hx hb dX0_reach_28 rfl (lv_at hl 1 rfl) ?_
        refine lv_iload_n hx hb dX0_reach_29 rfl (lv_at hl 4 rfl) ?_
        refine lv_iconst (v := nI 1) hx hb dX0_reach_30 rfl ?_
        refine lv_iconst (v := nI 1) hx hb dX0_reach_31 rfl ?_
        refine lv_aload_n hx hb dX0_reach_32 rfl (lv_at hl 1 rfl) ?_
        refine cV_N (As := []) (rest := [.int (nI 1), .int (nI 1), .int (nI r), .ref (ga 0)]) ⟨hx, hb, hml, hown, hts⟩ (k_X0_exit l g ga sc tg sw lv lc b m  (by first | assumption | omega)) (cwV 0 hts gX0_reach_X0_exit rfl rfl rfl (by decide +kernel) ⟨Nat.le_of_ble_eq_true rfl, Nat.le_of_ble_eq_true rfl⟩) hN hP (rcv hN hP 0 0 rfl rfl rfl) rfl hl.1 rfl (Nat.le_of_ble_eq_true rfl) dX0_reach_33 ⟨Nat.zero_le _, Nat.zero_le _⟩ ?_
        refine ishlN hx hb dX0_reach_36 (by omega) (shl_ok (by omega)) ?_
        refine iorN hx hb dX0_reach_37 ?_
        refine cV_N (As := [.int (nI r), .int (nI (1 ||| (1 <<< (b - 1))))]) (rest := []) ⟨hx, hb, hml, hown, hts⟩ (k_X0_spread l g ga sc tg sw lv lc b m r (1 ||| (1 <<< (b - 1))) (by omega) (Nat.or_lt_two_pow (by decide) (shl1_lt (by omega)))) (cwV 2 hts gX0_reach_X0_spread rfl rfl rfl (by decide +kernel) ⟨Nat.le_of_ble_eq_true rfl, Nat.le_of_ble_eq_true rfl⟩) hN hP (rcv hN hP 0 0 rfl rfl rfl) rfl hl.1 rfl (Nat.le_of_ble_eq_true rfl) dX0_reach_38 ⟨Nat.zero_le _, Nat.zero_le _⟩ ?_
        refine lv_istore_n (lv' := [(3, .int (nI (spr r (1 ||| (1 <<< (b - 1)))))), (4, .int (nI r)), (0, .ref (ga 0)), (1, .int (nI z)), (2, .int (nI U)), (5, .int (nI k))]) hx hb dX0_reach_41 rfl hl (by decide) rfl (fun ls hl => ?_)
        refine lv_iconst (v := nI 0) hx hb dX0_reach_42 rfl ?_
        refine lv_istore (lv' := [(6, .int (nI 0)), (3, .int (nI (spr r (1 ||| (1 <<< (b - 1)))))), (4, .int (nI r)), (0, .ref (ga 0)), (1, .int (nI z)), (2, .int (nI U)), (5, .int (nI k))]) hx hb dX0_reach_43 hl (by decide) rfl (fun ls hl => ?_)
        suffices KL45 : ∀ (n45 : Nat) (q : Nat) (i : Nat), (i ≤ m) → (q = rdE sc tg (fun e => U.testBit e) (spr r (1 ||| 1 <<< (b - 1))) i) → (q < 2 ^ b) → (m < i + n45) → ∀ ls : Array Slot, lv_has ls 7 [(0, .ref (ga 0)), (1, .int (nI z)), (2, .int (nI U)), (3, .int (nI q)), (4, .int (nI r)), (5, .int (nI k)), (6, .int (nI i))] → W p l ev ({ frames := 2, cells := 0, slots := 0, locals := 42 } : Room) s mi [.ref (ga 0), .int (nI z), .int (nI U)].toArray below meth cd s.heap [] 0 0 Q (F0 mi 45 ls []) from KL45 (m + 1) (spr r (1 ||| (1 <<< (b - 1)))) 0 (by omega) rfl (spr_lt hrb (Nat.or_lt_two_pow h1b (shl1_lt (by omega)))) (by omega) _ (lv_sub hl [3, 4, 5, 1, 2, 6, 0] rfl)
        clear hl
        intro n45
        induction n45 with
        | zero =>
          intro q i hi hq hqb hn45
          exact absurd hn45 (by omega)
        | succ n45 ih45 =>
          intro q i hi hq hqb hn45 ls hl
          refine lv_iload hx hb dX0_reach_45 (lv_at hl 6 rfl) ?_
          refine lv_aload_n hx hb dX0_reach_47 rfl (lv_at hl 0 rfl) ?_
          refine va_get (D := g.1) (ci := 0) (v := .int (nI m)) (C := RX0) (T := TX0) (N := 7) hx hb hts (by decide +kernel) hown hN.1 hP 0 rfl rfl 6 (by decide) (hts (.fieldLink RX0 33 "EdgeCounterPlacer$Graph" "edges" "I") (by decide +kernel)) (fun _ h9 => h9) rfl dX0_reach_48 ?_
          refine cge (tgt := 92) hx hb dX0_reach_51 (by decide) (by omega) (by omega) (fun c51 => ?_) (fun c51 => ?_)
          · refine lv_iinc (v := (nI (k + 1))) (lv' := [(5, .int (nI (k + 1))), (0, .ref (ga 0)), (1, .int (nI z)), (2, .int (nI U)), (3, .int (nI q)), (4, .int (nI r)), (6, .int (nI i))]) hx hb dX0_reach_92 hl (k := 5) rfl (nI_inc _ 1) (by decide) rfl (fun ls hl => ?_)
            refine lv_goto (tgt := 10) hx hb dX0_reach_95 (by decide) ?_
            exact ih10 q r (k + 1) (by omega) (by rw [hq, show i = m from by omega, hr]; rfl) (Or.inr ⟨by omega, hr⟩) hqb hrb (by omega) _ (lv_sub hl [1, 2, 3, 4, 5, 0] rfl)
          · refine lv_iload_n hx hb dX0_reach_54 rfl (lv_at hl 2 rfl) ?_
            refine lv_iload hx hb dX0_reach_55 (lv_at hl 6 rfl) ?_
            refine cSN_B (As := [.int (nI U), .int (nI i)]) (rest := []) ⟨hx, hb, hml, hown, hts⟩ (k_X6_holds l g   U i (by first | assumption | omega) (by first | assumption | omega)) ⟨va_cnB (host := RX6) 2 hts gX0_reach_X6_holds_n61 rfl rfl rfl (hN.at 8 rfl) (hts (.initialized RX6) (by decide +kernel)) (by decide +kernel) ⟨Nat.le_of_ble_eq_true rfl, Nat.le_of_ble_eq_true rfl⟩, hts (.static yX6_holds) (by decide +kernel), trivial⟩ hN (fun _ _ h => by simp at h) rfl hl.1 rfl (Nat.le_of_ble_eq_true rfl) dX0_reach_57 ⟨Nat.zero_le _, Nat.zero_le _⟩ (fun c57 => ?_) (fun c57 => ?_)
            · refine zeq (tgt := 86) hx hb dX0_reach_60 (by decide) (by decide) (fun c60 => (by exfalso; omega)) (fun c60 => ?_)
              refine lv_aload_n hx hb dX0_reach_63 rfl (lv_at hl 0 rfl) ?_
              refine lv_iload_n hx hb dX0_reach_64 rfl (lv_at hl 3 rfl) ?_
              refine lv_iconst (v := nI 1) hx hb dX0_reach_65 rfl ?_
              refine lv_aload_n hx hb dX0_reach_66 rfl (lv_at hl 0 rfl) ?_
              refine lv_iload hx hb dX0_reach_67 (lv_at hl 6 rfl) ?_
              refine cV_N (As := [.int (nI i)]) (rest := [.int (nI 1), .int (nI q), .ref (ga 0)]) ⟨hx, hb, hml, hown, hts⟩ (k_X0_source l g ga sc tg sw lv lc b m i (by first | assumption | omega) (by first | assumption | omega)) (cwV 1 hts gX0_reach_X0_source rfl rfl rfl (by decide +kernel) ⟨Nat.le_of_ble_eq_true rfl, Nat.le_of_ble_eq_true rfl⟩) hN hP (rcv hN hP 0 0 rfl rfl rfl) rfl hl.1 rfl (Nat.le_of_ble_eq_true rfl) dX0_reach_69 ⟨Nat.zero_le _, Nat.zero_le _⟩ ?_
              refine ishlN hx hb dX0_reach_72 (by have := hsc i (by omega); omega) (shl_ok (by omega)) ?_
              refine lv_iconst (v := nI 1) hx hb dX0_reach_73 rfl ?_
              refine lv_aload_n hx hb dX0_reach_74 rfl (lv_at hl 0 rfl) ?_
              refine lv_iload hx hb dX0_reach_75 (lv_at hl 6 rfl) ?_
              refine cV_N (As := [.int (nI i)]) (rest := [.int (nI 1), .int (nI (1 <<< (sc i))), .int (nI q), .ref (ga 0)]) ⟨hx, hb, hml, hown, hts⟩ (k_X0_target l g ga sc tg sw lv lc b m i (by first | assumption | omega) (by first | assumption | omega)) (cwV 1 hts gX0_reach_X0_target rfl rfl rfl (by decide +kernel) ⟨Nat.le_of_ble_eq_true rfl, Nat.le_of_ble_eq_true rfl⟩) hN hP (rcv hN hP 0 0 rfl rfl rfl) rfl hl.1 rfl (Nat.le_of_ble_eq_true rfl) dX0_reach_77 ⟨Nat.zero_le _, Nat.zero_le _⟩ ?_
              refine ishlN hx hb dX0_reach_80 (by have := htg i (by omega); omega) (shl_ok (by omega)) ?_
              refine iorN hx hb dX0_reach_81 ?_
              refine cV_N (As := [.int (nI q), .int (nI ((1 <<< (sc i)) ||| (1 <<< (tg i))))]) (rest := []) ⟨hx, hb, hml, hown, hts⟩ (k_X0_spread l g ga sc tg sw lv lc b m q ((1 <<< (sc i)) ||| (1 <<< (tg i))) (by omega) (Nat.or_lt_two_pow (shl1_lt (by have := hsc i (by omega); omega)) (shl1_lt (by have := htg i (by omega); omega)))) (cwV 2 hts gX0_reach_X0_spread rfl rfl rfl (by decide +kernel) ⟨Nat.le_of_ble_eq_true rfl, Nat.le_of_ble_eq_true rfl⟩) hN hP (rcv hN hP 0 0 rfl rfl rfl) rfl hl.1 rfl (Nat.le_of_ble_eq_true rfl) dX0_reach_82 ⟨Nat.zero_le _, Nat.zero_le _⟩ ?_
              refine lv_istore_n (lv' := [(3, .int (nI (spr q ((1 <<< (sc i)) ||| (1 <<< (tg i)))))), (0, .ref (ga 0)), (1, .int (nI z)), (2, .int (nI U)), (4, .int (nI r)), (5, .int (nI k)), (6, .int (nI i))]) hx hb dX0_reach_85 rfl hl (by decide) rfl (fun ls hl => ?_)
              refine lv_iinc (v := (nI (i + 1))) (lv' := [(6, .int (nI (i + 1))), (3, .int (nI (spr q ((1 <<< (sc i)) ||| (1 <<< (tg i)))))), (0, .ref (ga 0)), (1, .int (nI z)), (2, .int (nI U)), (4, .int (nI r)), (5, .int (nI k))]) hx hb dX0_reach_86 hl (k := 6) rfl (nI_inc _ 1) (by decide) rfl (fun ls hl => ?_)
              refine lv_goto (tgt := 45) hx hb dX0_reach_89 (by decide) ?_
              exact ih45 (spr q ((1 <<< (sc i)) ||| (1 <<< (tg i)))) (i + 1) (by omega) (by simp only [rdE]; first | rw [if_pos c57, ← hq] | (rw [if_neg c57]; exact hq)) (by first | exact spr_lt hqb (eds_lt (hsc i (by omega)) (htg i (by omega))) | exact hqb) (by omega) _ (lv_sub hl [2, 3, 4, 1, 5, 6, 0] rfl)
            · refine zeq (tgt := 86) hx hb dX0_reach_60 (by decide) (by decide) (fun c60 => ?_) (fun c60 => (by exfalso; omega))
              refine lv_iinc (v := (nI (i + 1))) (lv' := [(6, .int (nI (i + 1))), (0, .ref (ga 0)), (1, .int (nI z)), (2, .int (nI U)), (3, .int (nI q)), (4, .int (nI r)), (5, .int (nI k))]) hx hb dX0_reach_86 hl (k := 6) rfl (nI_inc _ 1) (by decide) rfl (fun ls hl => ?_)
              refine lv_goto (tgt := 45) hx hb dX0_reach_89 (by decide) ?_
              exact ih45 q (i + 1) (by omega) (by simp only [rdE]; first | rw [if_pos c57, ← hq] | (rw [if_neg c57]; exact hq)) (by first | exact spr_lt hqb (eds_lt (hsc i (by omega)) (htg i (by omega))) | exact hqb) (by omega) _ (lv_sub hl [1, 2, 3, 4, 5, 6, 0] rfl)

set_option maxHeartbeats 4000000 in
set_option maxRecDepth 100000 in
theorem k_X0_isComplete (l : Launch) (g : GG) (ga : Nat → Nat) (sc : Nat → Nat) (tg : Nat → Nat) (sw : Nat → Nat) (lv : Nat → Nat → Nat) (lc : Nat → Nat) (b : Nat) (m : Nat) (hm : m ≤ 20) (hb10 : b ≤ 10) (hb2 : 2 ≤ b) (hsc : ∀ e, e < m → sc e < b) (htg : ∀ e, e < m → tg e < b) (hlc : ∀ j, j < b → lc j < 2 ^ 31) : PuB l g yX0_isComplete wsX0_isComplete ({ frames := 3, cells := 0, slots := 0, locals := 68 } : Room) [.ref (ga 0)] (wGr g ga sc tg sw lv lc b m) ((∀ k, k < b - 1 → ¬ lc k = 0) ∧ clo sc tg (fun e => ((1 <<< m) - 1).testBit e) b m 0 = (1 <<< b) - 1) := by
  refine PuB.mk (cc := cX0_isComplete) (maxL := 3) (by decide) rfl (Nat.le_of_ble_eq_true rfl) rfl (fun p ev s mi below meth cd ls Q hx hb hts hown hml hN hP hl hrt hrf => ?_)
  have hown : s.vm.findClass RX0 = some mi.cls := hown
  have hl : lv_has ls 3 [(0, .ref (ga 0))] := hl
  refine lv_iconst (v := nI 0) hx hb dX0_isComplete_0 rfl ?_
  refine lv_istore_n (lv' := [(1, .int (nI 0)), (0, .ref (ga 0))]) hx hb dX0_isComplete_1 rfl hl (by decide) rfl (fun ls hl => ?_)
  suffices KL2 : ∀ (n2 : Nat) (k : Nat), (k ≤ b - 1) → (∀ j, j < k → ¬ lc j = 0) → (b < k + n2) → ∀ ls : Array Slot, lv_has ls 3 [(0, .ref (ga 0)), (1, .int (nI k))] → W p l ev ({ frames := 3, cells := 0, slots := 0, locals := 68 } : Room) s mi [.ref (ga 0)].toArray below meth cd s.heap [] 0 0 Q (F0 mi 2 ls []) from KL2 (b + 1) 0 (by omega) (fun j h => absurd h (Nat.not_lt_zero j)) (by omega) _ (lv_sub hl [1, 0] rfl)
  clear hl
  intro n2
  induction n2 with
  | zero =>
    intro k hk hz hn2
    exact absurd hn2 (by omega)
  | succ n2 ih2 =>
    intro k hk hz hn2 ls hl
    refine lv_iload_n hx hb dX0_isComplete_2 rfl (lv_at hl 1 rfl) ?_
    refine lv_aload_n hx hb dX0_isComplete_3 rfl (lv_at hl 0 rfl) ?_
    refine cV_N (As := []) (rest := [.int (nI k)]) ⟨hx, hb, hml, hown, hts⟩ (k_X0_exit l g ga sc tg sw lv lc b m  (by first | assumption | omega)) (cwV 0 hts gX0_isComplete_X0_exit rfl rfl rfl (by decide +kernel) ⟨Nat.le_of_ble_eq_true rfl, Nat.le_of_ble_eq_true rfl⟩) hN hP (rcv hN hP 0 0 rfl rfl rfl) rfl hl.1 rfl (Nat.le_of_ble_eq_true rfl) dX0_isComplete_4 ⟨Nat.zero_le _, Nat.zero_le _⟩ ?_
    refine cge (tgt := 26) hx hb dX0_isComplete_7 (by decide) (by omega) (by omega) (fun c7 => ?_) (fun c7 => ?_)
    · refine lv_iconst (v := nI 1) hx hb dX0_isComplete_26 rfl ?_
      refine lv_aload_n hx hb dX0_isComplete_27 rfl (lv_at hl 0 rfl) ?_
      refine va_get (D := g.1) (ci := 0) (v := .int (nI b)) (C := RX0) (T := TX0) (N := 7) hx hb hts (by decide +kernel) hown hN.1 hP 0 rfl rfl 5 (by decide) (hts (.fieldLink RX0 29 "EdgeCounterPlacer$Graph" "blocks" "I") (by decide +kernel)) (fun _ h9 => h9) rfl dX0_isComplete_28 ?_
      refine ishlN hx hb dX0_isComplete_31 (by omega) (shl_ok (by omega)) ?_
      refine lv_iconst (v := nI 1) hx hb dX0_isComplete_32 rfl ?_
      refine isubN hx hb dX0_isComplete_33 (by rw [Nat.one_shiftLeft]; exact Nat.one_le_two_pow) ?_
      refine lv_istore_n (lv' := [(1, .int (nI ((1 <<< b) - 1))), (0, .ref (ga 0))]) hx hb dX0_isComplete_34 rfl hl (by decide) rfl (fun ls hl => ?_)
      refine lv_iconst (v := nI 1) hx hb dX0_isComplete_35 rfl ?_
      refine lv_aload_n hx hb dX0_isComplete_36 rfl (lv_at hl 1 rfl) ?_
      refine va_get (D := g.1) (ci := 0) (v := .int (nI m)) (C := RX0) (T := TX0) (N := 7) hx hb hts (by decide +kernel) hown hN.1 hP 0 rfl rfl 6 (by decide) (hts (.fieldLink RX0 33 "EdgeCounterPlacer$Graph" "edges" "I") (by decide +kernel)) (fun _ h9 => h9) rfl dX0_isComplete_37 ?_
      refine ishlN hx hb dX0_isComplete_40 (by omega) (shl_ok (by omega)) ?_
      refine lv_iconst (v := nI 1) hx hb dX0_isComplete_41 rfl ?_
      refine isubN hx hb dX0_isComplete_42 (by rw [Nat.one_shiftLeft]; exact Nat.one_le_two_pow) ?_
      refine lv_istore_n (lv' := [(2, .int (nI ((1 <<< m) - 1))), (1, .int (nI ((1 <<< b) - 1))), (0, .ref (ga 0))]) hx hb dX0_isComplete_43 rfl hl (by decide) rfl (fun ls hl => ?_)
      refine lv_aload_n hx hb dX0_isComplete_44 rfl (lv_at hl 2 rfl) ?_
      refine va_get (D := g.1) (ci := 0) (v := .int (nI b)) (C := RX0) (T := TX0) (N := 7) hx hb hts (by decide +kernel) hown hN.1 hP 0 rfl rfl 5 (by decide) (hts (.fieldLink RX0 29 "EdgeCounterPlacer$Graph" "blocks" "I") (by decide +kernel)) (fun _ h9 => h9) rfl dX0_isComplete_45 ?_
      refine lv_iconst (v := nI 2) hx hb dX0_isComplete_48 rfl ?_
      refine clt (tgt := 66) hx hb dX0_isComplete_49 (by decide) (by omega) (by decide) (fun c49 => ?_) (fun c49 => ?_)
      · refine lv_iconst (v := nI 0) hx hb dX0_isComplete_66 rfl ?_
        exact hrf _ _ (fun h => c59 h.2) dX0_isComplete_67
      · refine lv_aload_n hx hb dX0_isComplete_52 rfl (lv_at hl 2 rfl) ?_
        refine lv_iconst (v := nI 0) hx hb dX0_isComplete_53 rfl ?_
        refine lv_iload_n hx hb dX0_isComplete_54 rfl (lv_at hl 0 rfl) ?_
        refine cV_N (As := [.int (nI 0), .int (nI ((1 <<< m) - 1))]) (rest := []) ⟨hx, hb, hml, hown, hts⟩ (k_X0_reach l g ga sc tg sw lv lc b m 0 ((1 <<< m) - 1) (by first | assumption | omega) (by first | assumption | omega) (by omega) (Nat.lt_of_le_of_lt (Nat.sub_le _ _) (shl1_lt (by omega))) (by first | assumption | omega) (by first | assumption | omega)) (cwV 2 hts gX0_isComplete_X0_reach rfl rfl rfl (by decide +kernel) ⟨Nat.le_of_ble_eq_true rfl, Nat.le_of_ble_eq_true rfl⟩) hN hP (rcv hN hP 0 0 rfl rfl rfl) rfl hl.1 rfl (Nat.le_of_ble_eq_true rfl) dX0_isComplete_55 ⟨Nat.zero_le _, Nat.zero_le _⟩ ?_
        refine lv_iload_n hx hb dX0_isComplete_58 rfl (lv_at hl 1 rfl) ?_
        refine cne (tgt := 66) hx hb dX0_isComplete_59 (by decide) (Nat.lt_of_lt_of_le (clo_lt (by omega) hsc htg) (Nat.pow_le_pow_right (by decide) (by omega))) (Nat.lt_of_le_of_lt (Nat.sub_le _ _) (shl1_lt (by omega))) (fun c59 => ?_) (fun c59 => ?_)
        · refine lv_iconst (v := nI 0) hx hb dX0_isComplete_66 rfl ?_
          exact hrf _ _ (fun h => c59 h.2) dX0_isComplete_67
        · refine lv_iconst (v := nI 1) hx hb dX0_isComplete_62 rfl ?_
          refine lv_goto (tgt := 67) hx hb dX0_isComplete_63 (by decide) ?_
          exact hrt _ _ ⟨fun j h => hz j (by omega), c59⟩ dX0_isComplete_67
    · refine lv_aload_n hx hb dX0_isComplete_10 rfl (lv_at hl 0 rfl) ?_
      refine lv_iload_n hx hb dX0_isComplete_11 rfl (lv_at hl 1 rfl) ?_
      refine cV_N (As := [.int (nI k)]) (rest := []) ⟨hx, hb, hml, hown, hts⟩ (k_X0_leavingCount l g ga sc tg sw lv lc b m k (by first | assumption | omega) (by first | assumption | omega)) (cwV 1 hts gX0_isComplete_X0_leavingCount rfl rfl rfl (by decide +kernel) ⟨Nat.le_of_ble_eq_true rfl, Nat.le_of_ble_eq_true rfl⟩) hN hP (rcv hN hP 0 0 rfl rfl rfl) rfl hl.1 rfl (Nat.le_of_ble_eq_true rfl) dX0_isComplete_12 ⟨Nat.zero_le _, Nat.zero_le _⟩ ?_
      refine zne (tgt := 20) hx hb dX0_isComplete_15 (by decide) (by have := hlc k (by omega); omega) (fun c15 => ?_) (fun c15 => ?_)
      · refine lv_iinc (v := (nI (k + 1))) (lv' := [(1, .int (nI (k + 1))), (0, .ref (ga 0))]) hx hb dX0_isComplete_20 hl (k := 1) rfl (nI_inc _ 1) (by decide) rfl (fun ls hl => ?_)
        refine lv_goto (tgt := 2) hx hb dX0_isComplete_23 (by decide) ?_
        exact ih2 (k + 1) (by omega) (fun j h => by rcases Nat.lt_succ_iff_lt_or_eq.mp h with q | rfl; exacts [hz j q, c15]) (by omega) _ (lv_sub hl [1, 0] rfl)
      · refine lv_iconst (v := nI 0) hx hb dX0_isComplete_18 rfl ?_
        exact hrf _ _ (fun h => h.1 k (by omega) c15) dX0_isComplete_19
end
section
theorem zz_last : True := trivial
end
