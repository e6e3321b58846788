/-! names and decode rows: the law (by program) -/
abbrev c_L_read : ByteArray := method_3_code
def y_L_read : MethodName := ⟨"ReadGraphLaw", "read", "(LReadGraph;II[J)I"⟩
theorem d_L_read_0 : decode c_L_read 0 = .ok (.aload_n 3, 1) := by decide +kernel
theorem d_L_read_1 : decode c_L_read 1 = .ok (.iconst 0, 1) := by decide +kernel
theorem d_L_read_2 : decode c_L_read 2 = .ok (.aload_n 0, 1) := by decide +kernel
theorem d_L_read_3 : decode c_L_read 3 = .ok (.iload_n 1, 1) := by decide +kernel
theorem d_L_read_4 : decode c_L_read 4 = .ok (.iload_n 2, 1) := by decide +kernel
theorem d_L_read_5 : decode c_L_read 5 = .ok (.invokevirtual 7, 3) := by decide +kernel
theorem d_L_read_8 : decode c_L_read 8 = .ok (.i2l, 1) := by decide +kernel
theorem d_L_read_9 : decode c_L_read 9 = .ok (.lastore, 1) := by decide +kernel
theorem d_L_read_10 : decode c_L_read 10 = .ok (.goto 11, 3) := by decide +kernel
theorem d_L_read_13 : decode c_L_read 13 = .ok (.astore 4, 2) := by decide +kernel
theorem d_L_read_15 : decode c_L_read 15 = .ok (.iconst 1, 1) := by decide +kernel
theorem d_L_read_16 : decode c_L_read 16 = .ok (.ireturn, 1) := by decide +kernel
theorem d_L_read_17 : decode c_L_read 17 = .ok (.astore 4, 2) := by decide +kernel
theorem d_L_read_19 : decode c_L_read 19 = .ok (.iconst 2, 1) := by decide +kernel
theorem d_L_read_20 : decode c_L_read 20 = .ok (.ireturn, 1) := by decide +kernel
theorem d_L_read_21 : decode c_L_read 21 = .ok (.iconst 0, 1) := by decide +kernel
theorem d_L_read_22 : decode c_L_read 22 = .ok (.ireturn, 1) := by decide +kernel
abbrev c_L_letter : ByteArray := method_4_code
def y_L_letter : MethodName := ⟨"ReadGraphLaw", "letter", "(LReadGraph;II[J)I"⟩
theorem d_L_letter_0 : decode c_L_letter 0 = .ok (.aload_n 3, 1) := by decide +kernel
theorem d_L_letter_1 : decode c_L_letter 1 = .ok (.iconst 0, 1) := by decide +kernel
theorem d_L_letter_2 : decode c_L_letter 2 = .ok (.aload_n 0, 1) := by decide +kernel
theorem d_L_letter_3 : decode c_L_letter 3 = .ok (.iload_n 1, 1) := by decide +kernel
theorem d_L_letter_4 : decode c_L_letter 4 = .ok (.iload_n 2, 1) := by decide +kernel
theorem d_L_letter_5 : decode c_L_letter 5 = .ok (.invokevirtual 17, 3) := by decide +kernel
theorem d_L_letter_8 : decode c_L_letter 8 = .ok (.i2l, 1) := by decide +kernel
theorem d_L_letter_9 : decode c_L_letter 9 = .ok (.lastore, 1) := by decide +kernel
theorem d_L_letter_10 : decode c_L_letter 10 = .ok (.goto 11, 3) := by decide +kernel
theorem d_L_letter_13 : decode c_L_letter 13 = .ok (.astore 4, 2) := by decide +kernel
theorem d_L_letter_15 : decode c_L_letter 15 = .ok (.iconst 1, 1) := by decide +kernel
theorem d_L_letter_16 : decode c_L_letter 16 = .ok (.ireturn, 1) := by decide +kernel
theorem d_L_letter_17 : decode c_L_letter 17 = .ok (.astore 4, 2) := by decide +kernel
theorem d_L_letter_19 : decode c_L_letter 19 = .ok (.iconst 2, 1) := by decide +kernel
theorem d_L_letter_20 : decode c_L_letter 20 = .ok (.ireturn, 1) := by decide +kernel
theorem d_L_letter_21 : decode c_L_letter 21 = .ok (.iconst 0, 1) := by decide +kernel
theorem d_L_letter_22 : decode c_L_letter 22 = .ok (.ireturn, 1) := by decide +kernel
abbrev c_L_contained : ByteArray := method_5_code
def y_L_contained : MethodName := ⟨"ReadGraphLaw", "contained", "(LReadGraph;I[J)I"⟩
theorem d_L_contained_0 : decode c_L_contained 0 = .ok (.aload_n 2, 1) := by decide +kernel
theorem d_L_contained_1 : decode c_L_contained 1 = .ok (.iconst 0, 1) := by decide +kernel
theorem d_L_contained_2 : decode c_L_contained 2 = .ok (.aload_n 0, 1) := by decide +kernel
theorem d_L_contained_3 : decode c_L_contained 3 = .ok (.iload_n 1, 1) := by decide +kernel
theorem d_L_contained_4 : decode c_L_contained 4 = .ok (.invokevirtual 22, 3) := by decide +kernel
theorem d_L_contained_7 : decode c_L_contained 7 = .ok (.ifCond .eq 7, 3) := by decide +kernel
theorem d_L_contained_10 : decode c_L_contained 10 = .ok (.lconst 1, 1) := by decide +kernel
theorem d_L_contained_11 : decode c_L_contained 11 = .ok (.goto 4, 3) := by decide +kernel
theorem d_L_contained_14 : decode c_L_contained 14 = .ok (.lconst 0, 1) := by decide +kernel
theorem d_L_contained_15 : decode c_L_contained 15 = .ok (.lastore, 1) := by decide +kernel
theorem d_L_contained_16 : decode c_L_contained 16 = .ok (.goto 6, 3) := by decide +kernel
theorem d_L_contained_19 : decode c_L_contained 19 = .ok (.astore_n 3, 1) := by decide +kernel
theorem d_L_contained_20 : decode c_L_contained 20 = .ok (.iconst 1, 1) := by decide +kernel
theorem d_L_contained_21 : decode c_L_contained 21 = .ok (.ireturn, 1) := by decide +kernel
theorem d_L_contained_22 : decode c_L_contained 22 = .ok (.iconst 0, 1) := by decide +kernel
theorem d_L_contained_23 : decode c_L_contained 23 = .ok (.ireturn, 1) := by decide +kernel
abbrev c_L_overlap : ByteArray := method_6_code
def y_L_overlap : MethodName := ⟨"ReadGraphLaw", "overlap", "(LReadGraph;III[J)I"⟩
theorem d_L_overlap_0 : decode c_L_overlap 0 = .ok (.aload 4, 2) := by decide +kernel
theorem d_L_overlap_2 : decode c_L_overlap 2 = .ok (.iconst 0, 1) := by decide +kernel
theorem d_L_overlap_3 : decode c_L_overlap 3 = .ok (.aload_n 0, 1) := by decide +kernel
theorem d_L_overlap_4 : decode c_L_overlap 4 = .ok (.iload_n 1, 1) := by decide +kernel
theorem d_L_overlap_5 : decode c_L_overlap 5 = .ok (.iload_n 2, 1) := by decide +kernel
theorem d_L_overlap_6 : decode c_L_overlap 6 = .ok (.iload_n 3, 1) := by decide +kernel
theorem d_L_overlap_7 : decode c_L_overlap 7 = .ok (.invokevirtual 26, 3) := by decide +kernel
theorem d_L_overlap_10 : decode c_L_overlap 10 = .ok (.i2l, 1) := by decide +kernel
theorem d_L_overlap_11 : decode c_L_overlap 11 = .ok (.lastore, 1) := by decide +kernel
theorem d_L_overlap_12 : decode c_L_overlap 12 = .ok (.goto 7, 3) := by decide +kernel
theorem d_L_overlap_15 : decode c_L_overlap 15 = .ok (.astore 5, 2) := by decide +kernel
theorem d_L_overlap_17 : decode c_L_overlap 17 = .ok (.iconst 1, 1) := by decide +kernel
theorem d_L_overlap_18 : decode c_L_overlap 18 = .ok (.ireturn, 1) := by decide +kernel
theorem d_L_overlap_19 : decode c_L_overlap 19 = .ok (.iconst 0, 1) := by decide +kernel
theorem d_L_overlap_20 : decode c_L_overlap 20 = .ok (.ireturn, 1) := by decide +kernel
abbrev c_L_build : ByteArray := method_7_code
def y_L_build : MethodName := ⟨"ReadGraphLaw", "build", "(LReadGraph;I[J)I"⟩
theorem d_L_build_0 : decode c_L_build 0 = .ok (.aload_n 2, 1) := by decide +kernel
theorem d_L_build_1 : decode c_L_build 1 = .ok (.iconst 0, 1) := by decide +kernel
theorem d_L_build_2 : decode c_L_build 2 = .ok (.aload_n 0, 1) := by decide +kernel
theorem d_L_build_3 : decode c_L_build 3 = .ok (.iload_n 1, 1) := by decide +kernel
theorem d_L_build_4 : decode c_L_build 4 = .ok (.invokevirtual 30, 3) := by decide +kernel
theorem d_L_build_7 : decode c_L_build 7 = .ok (.i2l, 1) := by decide +kernel
theorem d_L_build_8 : decode c_L_build 8 = .ok (.lastore, 1) := by decide +kernel
theorem d_L_build_9 : decode c_L_build 9 = .ok (.goto 6, 3) := by decide +kernel
theorem d_L_build_12 : decode c_L_build 12 = .ok (.astore_n 3, 1) := by decide +kernel
theorem d_L_build_13 : decode c_L_build 13 = .ok (.iconst 1, 1) := by decide +kernel
theorem d_L_build_14 : decode c_L_build 14 = .ok (.ireturn, 1) := by decide +kernel
theorem d_L_build_15 : decode c_L_build 15 = .ok (.iconst 0, 1) := by decide +kernel
theorem d_L_build_16 : decode c_L_build 16 = .ok (.ireturn, 1) := by decide +kernel
abbrev c_L_edge : ByteArray := method_8_code
def y_L_edge : MethodName := ⟨"ReadGraphLaw", "edge", "(LReadGraph;II[J)I"⟩
theorem d_L_edge_0 : decode c_L_edge 0 = .ok (.aload_n 3, 1) := by decide +kernel
theorem d_L_edge_1 : decode c_L_edge 1 = .ok (.iconst 0, 1) := by decide +kernel
theorem d_L_edge_2 : decode c_L_edge 2 = .ok (.aload_n 0, 1) := by decide +kernel
theorem d_L_edge_3 : decode c_L_edge 3 = .ok (.iload_n 1, 1) := by decide +kernel
theorem d_L_edge_4 : decode c_L_edge 4 = .ok (.iload_n 2, 1) := by decide +kernel
theorem d_L_edge_5 : decode c_L_edge 5 = .ok (.invokevirtual 34, 3) := by decide +kernel
theorem d_L_edge_8 : decode c_L_edge 8 = .ok (.i2l, 1) := by decide +kernel
theorem d_L_edge_9 : decode c_L_edge 9 = .ok (.lastore, 1) := by decide +kernel
theorem d_L_edge_10 : decode c_L_edge 10 = .ok (.goto 11, 3) := by decide +kernel
theorem d_L_edge_13 : decode c_L_edge 13 = .ok (.astore 4, 2) := by decide +kernel
theorem d_L_edge_15 : decode c_L_edge 15 = .ok (.iconst 1, 1) := by decide +kernel
theorem d_L_edge_16 : decode c_L_edge 16 = .ok (.ireturn, 1) := by decide +kernel
theorem d_L_edge_17 : decode c_L_edge 17 = .ok (.astore 4, 2) := by decide +kernel
theorem d_L_edge_19 : decode c_L_edge 19 = .ok (.iconst 2, 1) := by decide +kernel
theorem d_L_edge_20 : decode c_L_edge 20 = .ok (.ireturn, 1) := by decide +kernel
theorem d_L_edge_21 : decode c_L_edge 21 = .ok (.iconst 0, 1) := by decide +kernel
theorem d_L_edge_22 : decode c_L_edge 22 = .ok (.ireturn, 1) := by decide +kernel
abbrev c_L_way : ByteArray := method_9_code
def y_L_way : MethodName := ⟨"ReadGraphLaw", "way", "(LReadGraph;II[J)I"⟩
theorem d_L_way_0 : decode c_L_way 0 = .ok (.aload_n 3, 1) := by decide +kernel
theorem d_L_way_1 : decode c_L_way 1 = .ok (.iconst 0, 1) := by decide +kernel
theorem d_L_way_2 : decode c_L_way 2 = .ok (.aload_n 0, 1) := by decide +kernel
theorem d_L_way_3 : decode c_L_way 3 = .ok (.iload_n 1, 1) := by decide +kernel
theorem d_L_way_4 : decode c_L_way 4 = .ok (.iload_n 2, 1) := by decide +kernel
theorem d_L_way_5 : decode c_L_way 5 = .ok (.invokevirtual 39, 3) := by decide +kernel
theorem d_L_way_8 : decode c_L_way 8 = .ok (.ifCond .eq 7, 3) := by decide +kernel
theorem d_L_way_11 : decode c_L_way 11 = .ok (.lconst 1, 1) := by decide +kernel
theorem d_L_way_12 : decode c_L_way 12 = .ok (.goto 4, 3) := by decide +kernel
theorem d_L_way_15 : decode c_L_way 15 = .ok (.lconst 0, 1) := by decide +kernel
theorem d_L_way_16 : decode c_L_way 16 = .ok (.lastore, 1) := by decide +kernel
theorem d_L_way_17 : decode c_L_way 17 = .ok (.goto 7, 3) := by decide +kernel
theorem d_L_way_20 : decode c_L_way 20 = .ok (.astore 4, 2) := by decide +kernel
theorem d_L_way_22 : decode c_L_way 22 = .ok (.iconst 1, 1) := by decide +kernel
theorem d_L_way_23 : decode c_L_way 23 = .ok (.ireturn, 1) := by decide +kernel
theorem d_L_way_24 : decode c_L_way 24 = .ok (.iconst 0, 1) := by decide +kernel
theorem d_L_way_25 : decode c_L_way 25 = .ok (.ireturn, 1) := by decide +kernel
abbrev c_L_safe : ByteArray := method_10_code
def y_L_safe : MethodName := ⟨"ReadGraphLaw", "safe", "(LReadGraph;JI[J)I"⟩
theorem d_L_safe_0 : decode c_L_safe 0 = .ok (.aload 4, 2) := by decide +kernel
theorem d_L_safe_2 : decode c_L_safe 2 = .ok (.iconst 0, 1) := by decide +kernel
theorem d_L_safe_3 : decode c_L_safe 3 = .ok (.aload_n 0, 1) := by decide +kernel
theorem d_L_safe_4 : decode c_L_safe 4 = .ok (.lload_n 1, 1) := by decide +kernel
theorem d_L_safe_5 : decode c_L_safe 5 = .ok (.iload_n 3, 1) := by decide +kernel
theorem d_L_safe_6 : decode c_L_safe 6 = .ok (.invokevirtual 43, 3) := by decide +kernel
theorem d_L_safe_9 : decode c_L_safe 9 = .ok (.ifCond .eq 7, 3) := by decide +kernel
theorem d_L_safe_12 : decode c_L_safe 12 = .ok (.lconst 1, 1) := by decide +kernel
theorem d_L_safe_13 : decode c_L_safe 13 = .ok (.goto 4, 3) := by decide +kernel
theorem d_L_safe_16 : decode c_L_safe 16 = .ok (.lconst 0, 1) := by decide +kernel
theorem d_L_safe_17 : decode c_L_safe 17 = .ok (.lastore, 1) := by decide +kernel
theorem d_L_safe_18 : decode c_L_safe 18 = .ok (.goto 7, 3) := by decide +kernel
theorem d_L_safe_21 : decode c_L_safe 21 = .ok (.astore 5, 2) := by decide +kernel
theorem d_L_safe_23 : decode c_L_safe 23 = .ok (.iconst 1, 1) := by decide +kernel
theorem d_L_safe_24 : decode c_L_safe 24 = .ok (.ireturn, 1) := by decide +kernel
theorem d_L_safe_25 : decode c_L_safe 25 = .ok (.iconst 0, 1) := by decide +kernel
theorem d_L_safe_26 : decode c_L_safe 26 = .ok (.ireturn, 1) := by decide +kernel
abbrev c_L_walks : ByteArray := method_11_code
def y_L_walks : MethodName := ⟨"ReadGraphLaw", "walks", "(LReadGraph;[J)I"⟩
theorem d_L_walks_0 : decode c_L_walks 0 = .ok (.aload_n 1, 1) := by decide +kernel
theorem d_L_walks_1 : decode c_L_walks 1 = .ok (.iconst 0, 1) := by decide +kernel
theorem d_L_walks_2 : decode c_L_walks 2 = .ok (.aload_n 0, 1) := by decide +kernel
theorem d_L_walks_3 : decode c_L_walks 3 = .ok (.invokevirtual 47, 3) := by decide +kernel
theorem d_L_walks_6 : decode c_L_walks 6 = .ok (.i2l, 1) := by decide +kernel
theorem d_L_walks_7 : decode c_L_walks 7 = .ok (.lastore, 1) := by decide +kernel
theorem d_L_walks_8 : decode c_L_walks 8 = .ok (.goto 6, 3) := by decide +kernel
theorem d_L_walks_11 : decode c_L_walks 11 = .ok (.astore_n 2, 1) := by decide +kernel
theorem d_L_walks_12 : decode c_L_walks 12 = .ok (.iconst 1, 1) := by decide +kernel
theorem d_L_walks_13 : decode c_L_walks 13 = .ok (.ireturn, 1) := by decide +kernel
theorem d_L_walks_14 : decode c_L_walks 14 = .ok (.iconst 0, 1) := by decide +kernel
theorem d_L_walks_15 : decode c_L_walks 15 = .ok (.ireturn, 1) := by decide +kernel
abbrev c_L_walk : ByteArray := method_12_code
def y_L_walk : MethodName := ⟨"ReadGraphLaw", "walk", "(LReadGraph;II[J)I"⟩
theorem d_L_walk_0 : decode c_L_walk 0 = .ok (.aload_n 3, 1) := by decide +kernel
theorem d_L_walk_1 : decode c_L_walk 1 = .ok (.iconst 0, 1) := by decide +kernel
theorem d_L_walk_2 : decode c_L_walk 2 = .ok (.aload_n 0, 1) := by decide +kernel
theorem d_L_walk_3 : decode c_L_walk 3 = .ok (.iload_n 1, 1) := by decide +kernel
theorem d_L_walk_4 : decode c_L_walk 4 = .ok (.iload_n 2, 1) := by decide +kernel
theorem d_L_walk_5 : decode c_L_walk 5 = .ok (.invokevirtual 51, 3) := by decide +kernel
theorem d_L_walk_8 : decode c_L_walk 8 = .ok (.i2l, 1) := by decide +kernel
theorem d_L_walk_9 : decode c_L_walk 9 = .ok (.lastore, 1) := by decide +kernel
theorem d_L_walk_10 : decode c_L_walk 10 = .ok (.goto 11, 3) := by decide +kernel
theorem d_L_walk_13 : decode c_L_walk 13 = .ok (.astore 4, 2) := by decide +kernel
theorem d_L_walk_15 : decode c_L_walk 15 = .ok (.iconst 1, 1) := by decide +kernel
theorem d_L_walk_16 : decode c_L_walk 16 = .ok (.ireturn, 1) := by decide +kernel
theorem d_L_walk_17 : decode c_L_walk 17 = .ok (.astore 4, 2) := by decide +kernel
theorem d_L_walk_19 : decode c_L_walk 19 = .ok (.iconst 2, 1) := by decide +kernel
theorem d_L_walk_20 : decode c_L_walk 20 = .ok (.ireturn, 1) := by decide +kernel
theorem d_L_walk_21 : decode c_L_walk 21 = .ok (.iconst 0, 1) := by decide +kernel
theorem d_L_walk_22 : decode c_L_walk 22 = .ok (.ireturn, 1) := by decide +kernel
abbrev c_L_spelled : ByteArray := method_13_code
def y_L_spelled : MethodName := ⟨"ReadGraphLaw", "spelled", "(LReadGraph;II[J)I"⟩
theorem d_L_spelled_0 : decode c_L_spelled 0 = .ok (.aload_n 3, 1) := by decide +kernel
theorem d_L_spelled_1 : decode c_L_spelled 1 = .ok (.iconst 0, 1) := by decide +kernel
theorem d_L_spelled_2 : decode c_L_spelled 2 = .ok (.aload_n 0, 1) := by decide +kernel
theorem d_L_spelled_3 : decode c_L_spelled 3 = .ok (.iload_n 1, 1) := by decide +kernel
theorem d_L_spelled_4 : decode c_L_spelled 4 = .ok (.iload_n 2, 1) := by decide +kernel
theorem d_L_spelled_5 : decode c_L_spelled 5 = .ok (.invokevirtual 54, 3) := by decide +kernel
theorem d_L_spelled_8 : decode c_L_spelled 8 = .ok (.i2l, 1) := by decide +kernel
theorem d_L_spelled_9 : decode c_L_spelled 9 = .ok (.lastore, 1) := by decide +kernel
theorem d_L_spelled_10 : decode c_L_spelled 10 = .ok (.goto 11, 3) := by decide +kernel
theorem d_L_spelled_13 : decode c_L_spelled 13 = .ok (.astore 4, 2) := by decide +kernel
theorem d_L_spelled_15 : decode c_L_spelled 15 = .ok (.iconst 1, 1) := by decide +kernel
theorem d_L_spelled_16 : decode c_L_spelled 16 = .ok (.ireturn, 1) := by decide +kernel
theorem d_L_spelled_17 : decode c_L_spelled 17 = .ok (.astore 4, 2) := by decide +kernel
theorem d_L_spelled_19 : decode c_L_spelled 19 = .ok (.iconst 2, 1) := by decide +kernel
theorem d_L_spelled_20 : decode c_L_spelled 20 = .ok (.ireturn, 1) := by decide +kernel
theorem d_L_spelled_21 : decode c_L_spelled 21 = .ok (.iconst 0, 1) := by decide +kernel
theorem d_L_spelled_22 : decode c_L_spelled 22 = .ok (.ireturn, 1) := by decide +kernel
abbrev c_L_law : ByteArray := code
def y_L_law : MethodName := ⟨"ReadGraphLaw", "law", "([I)Z"⟩
theorem d_L_law_0 : decode c_L_law 0 = .ok (.new 8, 3) := by decide +kernel
theorem d_L_law_3 : decode c_L_law 3 = .ok (.dup, 1) := by decide +kernel
theorem d_L_law_4 : decode c_L_law 4 = .ok (.invokespecial 57, 3) := by decide +kernel
theorem d_L_law_7 : decode c_L_law 7 = .ok (.astore_n 1, 1) := by decide +kernel
theorem d_L_law_8 : decode c_L_law 8 = .ok (.new 58, 3) := by decide +kernel
theorem d_L_law_11 : decode c_L_law 11 = .ok (.dup, 1) := by decide +kernel
theorem d_L_law_12 : decode c_L_law 12 = .ok (.invokespecial 60, 3) := by decide +kernel
theorem d_L_law_15 : decode c_L_law 15 = .ok (.astore_n 2, 1) := by decide +kernel
theorem d_L_law_16 : decode c_L_law 16 = .ok (.iconst 1, 1) := by decide +kernel
theorem d_L_law_17 : decode c_L_law 17 = .ok (.newarray .long, 2) := by decide +kernel
theorem d_L_law_19 : decode c_L_law 19 = .ok (.astore_n 3, 1) := by decide +kernel
theorem d_L_law_20 : decode c_L_law 20 = .ok (.iconst 0, 1) := by decide +kernel
theorem d_L_law_21 : decode c_L_law 21 = .ok (.istore 4, 2) := by decide +kernel
theorem d_L_law_23 : decode c_L_law 23 = .ok (.iload 4, 2) := by decide +kernel
theorem d_L_law_25 : decode c_L_law 25 = .ok (.aload_n 0, 1) := by decide +kernel
theorem d_L_law_26 : decode c_L_law 26 = .ok (.arraylength, 1) := by decide +kernel
theorem d_L_law_27 : decode c_L_law 27 = .ok (.iconst 4, 1) := by decide +kernel
theorem d_L_law_28 : decode c_L_law 28 = .ok (.isub, 1) := by decide +kernel
theorem d_L_law_29 : decode c_L_law 29 = .ok (.if_icmp .gt 887, 3) := by decide +kernel
theorem d_L_law_32 : decode c_L_law 32 = .ok (.aload_n 0, 1) := by decide +kernel
theorem d_L_law_33 : decode c_L_law 33 = .ok (.iload 4, 2) := by decide +kernel
theorem d_L_law_35 : decode c_L_law 35 = .ok (.iaload, 1) := by decide +kernel
theorem d_L_law_36 : decode c_L_law 36 = .ok (.bipush 15, 2) := by decide +kernel
theorem d_L_law_38 : decode c_L_law 38 = .ok (.iand, 1) := by decide +kernel
theorem d_L_law_39 : decode c_L_law 39 = .ok (.tableswitch 871 0 13 #[69, 137, 148, 216, 279, 359, 415, 428, 496, 571, 584, 691, 735, 803], 69) := by decide +kernel
theorem d_L_law_108 : decode c_L_law 108 = .ok (.aload_n 1, 1) := by decide +kernel
theorem d_L_law_109 : decode c_L_law 109 = .ok (.aload_n 0, 1) := by decide +kernel
theorem d_L_law_110 : decode c_L_law 110 = .ok (.iload 4, 2) := by decide +kernel
theorem d_L_law_112 : decode c_L_law 112 = .ok (.iconst 1, 1) := by decide +kernel
theorem d_L_law_113 : decode c_L_law 113 = .ok (.iadd, 1) := by decide +kernel
theorem d_L_law_114 : decode c_L_law 114 = .ok (.iaload, 1) := by decide +kernel
theorem d_L_law_115 : decode c_L_law 115 = .ok (.aload_n 0, 1) := by decide +kernel
theorem d_L_law_116 : decode c_L_law 116 = .ok (.iload 4, 2) := by decide +kernel
theorem d_L_law_118 : decode c_L_law 118 = .ok (.iconst 2, 1) := by decide +kernel
theorem d_L_law_119 : decode c_L_law 119 = .ok (.iadd, 1) := by decide +kernel
theorem d_L_law_120 : decode c_L_law 120 = .ok (.iaload, 1) := by decide +kernel
theorem d_L_law_121 : decode c_L_law 121 = .ok (.aload_n 3, 1) := by decide +kernel
theorem d_L_law_122 : decode c_L_law 122 = .ok (.invokestatic 61, 3) := by decide +kernel
theorem d_L_law_125 : decode c_L_law 125 = .ok (.istore 5, 2) := by decide +kernel
theorem d_L_law_127 : decode c_L_law 127 = .ok (.aload_n 2, 1) := by decide +kernel
theorem d_L_law_128 : decode c_L_law 128 = .ok (.aload_n 0, 1) := by decide +kernel
theorem d_L_law_129 : decode c_L_law 129 = .ok (.iload 4, 2) := by decide +kernel
theorem d_L_law_131 : decode c_L_law 131 = .ok (.iconst 1, 1) := by decide +kernel
theorem d_L_law_132 : decode c_L_law 132 = .ok (.iadd, 1) := by decide +kernel
theorem d_L_law_133 : decode c_L_law 133 = .ok (.iaload, 1) := by decide +kernel
theorem d_L_law_134 : decode c_L_law 134 = .ok (.aload_n 0, 1) := by decide +kernel
theorem d_L_law_135 : decode c_L_law 135 = .ok (.iload 4, 2) := by decide +kernel
theorem d_L_law_137 : decode c_L_law 137 = .ok (.iconst 2, 1) := by decide +kernel
theorem d_L_law_138 : decode c_L_law 138 = .ok (.iadd, 1) := by decide +kernel
theorem d_L_law_139 : decode c_L_law 139 = .ok (.iaload, 1) := by decide +kernel
theorem d_L_law_140 : decode c_L_law 140 = .ok (.invokevirtual 66, 3) := by decide +kernel
theorem d_L_law_143 : decode c_L_law 143 = .ok (.istore 6, 2) := by decide +kernel
theorem d_L_law_145 : decode c_L_law 145 = .ok (.aload_n 2, 1) := by decide +kernel
theorem d_L_law_146 : decode c_L_law 146 = .ok (.invokevirtual 67, 3) := by decide +kernel
theorem d_L_law_149 : decode c_L_law 149 = .ok (.iload 5, 2) := by decide +kernel
theorem d_L_law_151 : decode c_L_law 151 = .ok (.if_icmp .eq 5, 3) := by decide +kernel
theorem d_L_law_154 : decode c_L_law 154 = .ok (.iconst 0, 1) := by decide +kernel
theorem d_L_law_155 : decode c_L_law 155 = .ok (.ireturn, 1) := by decide +kernel
theorem d_L_law_156 : decode c_L_law 156 = .ok (.iload 5, 2) := by decide +kernel
theorem d_L_law_158 : decode c_L_law 158 = .ok (.ifCond .ne 15, 3) := by decide +kernel
theorem d_L_law_161 : decode c_L_law 161 = .ok (.aload_n 3, 1) := by decide +kernel
theorem d_L_law_162 : decode c_L_law 162 = .ok (.iconst 0, 1) := by decide +kernel
theorem d_L_law_163 : decode c_L_law 163 = .ok (.laload, 1) := by decide +kernel
theorem d_L_law_164 : decode c_L_law 164 = .ok (.iload 6, 2) := by decide +kernel
theorem d_L_law_166 : decode c_L_law 166 = .ok (.i2l, 1) := by decide +kernel
theorem d_L_law_167 : decode c_L_law 167 = .ok (.lcmp, 1) := by decide +kernel
theorem d_L_law_168 : decode c_L_law 168 = .ok (.ifCond .eq 5, 3) := by decide +kernel
theorem d_L_law_171 : decode c_L_law 171 = .ok (.iconst 0, 1) := by decide +kernel
theorem d_L_law_172 : decode c_L_law 172 = .ok (.ireturn, 1) := by decide +kernel
theorem d_L_law_173 : decode c_L_law 173 = .ok (.goto 737, 3) := by decide +kernel
theorem d_L_law_176 : decode c_L_law 176 = .ok (.aload_n 1, 1) := by decide +kernel
theorem d_L_law_177 : decode c_L_law 177 = .ok (.invokevirtual 70, 3) := by decide +kernel
theorem d_L_law_180 : decode c_L_law 180 = .ok (.aload_n 2, 1) := by decide +kernel
theorem d_L_law_181 : decode c_L_law 181 = .ok (.invokevirtual 73, 3) := by decide +kernel
theorem d_L_law_184 : decode c_L_law 184 = .ok (.goto 726, 3) := by decide +kernel
theorem d_L_law_187 : decode c_L_law 187 = .ok (.aload_n 1, 1) := by decide +kernel
theorem d_L_law_188 : decode c_L_law 188 = .ok (.aload_n 0, 1) := by decide +kernel
theorem d_L_law_189 : decode c_L_law 189 = .ok (.iload 4, 2) := by decide +kernel
theorem d_L_law_191 : decode c_L_law 191 = .ok (.iconst 1, 1) := by decide +kernel
theorem d_L_law_192 : decode c_L_law 192 = .ok (.iadd, 1) := by decide +kernel
theorem d_L_law_193 : decode c_L_law 193 = .ok (.iaload, 1) := by decide +kernel
theorem d_L_law_194 : decode c_L_law 194 = .ok (.aload_n 0, 1) := by decide +kernel
theorem d_L_law_195 : decode c_L_law 195 = .ok (.iload 4, 2) := by decide +kernel
theorem d_L_law_197 : decode c_L_law 197 = .ok (.iconst 2, 1) := by decide +kernel
theorem d_L_law_198 : decode c_L_law 198 = .ok (.iadd, 1) := by decide +kernel
theorem d_L_law_199 : decode c_L_law 199 = .ok (.iaload, 1) := by decide +kernel
theorem d_L_law_200 : decode c_L_law 200 = .ok (.aload_n 3, 1) := by decide +kernel
theorem d_L_law_201 : decode c_L_law 201 = .ok (.invokestatic 74, 3) := by decide +kernel
theorem d_L_law_204 : decode c_L_law 204 = .ok (.istore 5, 2) := by decide +kernel
theorem d_L_law_206 : decode c_L_law 206 = .ok (.aload_n 2, 1) := by decide +kernel
theorem d_L_law_207 : decode c_L_law 207 = .ok (.aload_n 0, 1) := by decide +kernel
theorem d_L_law_208 : decode c_L_law 208 = .ok (.iload 4, 2) := by decide +kernel
theorem d_L_law_210 : decode c_L_law 210 = .ok (.iconst 1, 1) := by decide +kernel
theorem d_L_law_211 : decode c_L_law 211 = .ok (.iadd, 1) := by decide +kernel
theorem d_L_law_212 : decode c_L_law 212 = .ok (.iaload, 1) := by decide +kernel
theorem d_L_law_213 : decode c_L_law 213 = .ok (.aload_n 0, 1) := by decide +kernel
theorem d_L_law_214 : decode c_L_law 214 = .ok (.iload 4, 2) := by decide +kernel
theorem d_L_law_216 : decode c_L_law 216 = .ok (.iconst 2, 1) := by decide +kernel
theorem d_L_law_217 : decode c_L_law 217 = .ok (.iadd, 1) := by decide +kernel
theorem d_L_law_218 : decode c_L_law 218 = .ok (.iaload, 1) := by decide +kernel
theorem d_L_law_219 : decode c_L_law 219 = .ok (.invokevirtual 76, 3) := by decide +kernel
theorem d_L_law_222 : decode c_L_law 222 = .ok (.istore 6, 2) := by decide +kernel
theorem d_L_law_224 : decode c_L_law 224 = .ok (.aload_n 2, 1) := by decide +kernel
theorem d_L_law_225 : decode c_L_law 225 = .ok (.invokevirtual 67, 3) := by decide +kernel
theorem d_L_law_228 : decode c_L_law 228 = .ok (.iload 5, 2) := by decide +kernel
theorem d_L_law_230 : decode c_L_law 230 = .ok (.if_icmp .eq 5, 3) := by decide +kernel
theorem d_L_law_233 : decode c_L_law 233 = .ok (.iconst 0, 1) := by decide +kernel
theorem d_L_law_234 : decode c_L_law 234 = .ok (.ireturn, 1) := by decide +kernel
theorem d_L_law_235 : decode c_L_law 235 = .ok (.iload 5, 2) := by decide +kernel
theorem d_L_law_237 : decode c_L_law 237 = .ok (.ifCond .ne 15, 3) := by decide +kernel
theorem d_L_law_240 : decode c_L_law 240 = .ok (.aload_n 3, 1) := by decide +kernel
theorem d_L_law_241 : decode c_L_law 241 = .ok (.iconst 0, 1) := by decide +kernel
theorem d_L_law_242 : decode c_L_law 242 = .ok (.laload, 1) := by decide +kernel
theorem d_L_law_243 : decode c_L_law 243 = .ok (.iload 6, 2) := by decide +kernel
theorem d_L_law_245 : decode c_L_law 245 = .ok (.i2l, 1) := by decide +kernel
theorem d_L_law_246 : decode c_L_law 246 = .ok (.lcmp, 1) := by decide +kernel
theorem d_L_law_247 : decode c_L_law 247 = .ok (.ifCond .eq 5, 3) := by decide +kernel
theorem d_L_law_250 : decode c_L_law 250 = .ok (.iconst 0, 1) := by decide +kernel
theorem d_L_law_251 : decode c_L_law 251 = .ok (.ireturn, 1) := by decide +kernel
theorem d_L_law_252 : decode c_L_law 252 = .ok (.goto 658, 3) := by decide +kernel
theorem d_L_law_255 : decode c_L_law 255 = .ok (.aload_n 1, 1) := by decide +kernel
theorem d_L_law_256 : decode c_L_law 256 = .ok (.aload_n 0, 1) := by decide +kernel
theorem d_L_law_257 : decode c_L_law 257 = .ok (.iload 4, 2) := by decide +kernel
theorem d_L_law_259 : decode c_L_law 259 = .ok (.iconst 1, 1) := by decide +kernel
theorem d_L_law_260 : decode c_L_law 260 = .ok (.iadd, 1) := by decide +kernel
theorem d_L_law_261 : decode c_L_law 261 = .ok (.iaload, 1) := by decide +kernel
theorem d_L_law_262 : decode c_L_law 262 = .ok (.aload_n 3, 1) := by decide +kernel
theorem d_L_law_263 : decode c_L_law 263 = .ok (.invokestatic 77, 3) := by decide +kernel
theorem d_L_law_266 : decode c_L_law 266 = .ok (.istore 5, 2) := by decide +kernel
theorem d_L_law_268 : decode c_L_law 268 = .ok (.aload_n 2, 1) := by decide +kernel
theorem d_L_law_269 : decode c_L_law 269 = .ok (.aload_n 0, 1) := by decide +kernel
theorem d_L_law_270 : decode c_L_law 270 = .ok (.iload 4, 2) := by decide +kernel
theorem d_L_law_272 : decode c_L_law 272 = .ok (.iconst 1, 1) := by decide +kernel
theorem d_L_law_273 : decode c_L_law 273 = .ok (.iadd, 1) := by decide +kernel
theorem d_L_law_274 : decode c_L_law 274 = .ok (.iaload, 1) := by decide +kernel
theorem d_L_law_275 : decode c_L_law 275 = .ok (.invokevirtual 80, 3) := by decide +kernel
theorem d_L_law_278 : decode c_L_law 278 = .ok (.istore 6, 2) := by decide +kernel
theorem d_L_law_280 : decode c_L_law 280 = .ok (.aload_n 2, 1) := by decide +kernel
theorem d_L_law_281 : decode c_L_law 281 = .ok (.invokevirtual 67, 3) := by decide +kernel
theorem d_L_law_284 : decode c_L_law 284 = .ok (.iload 5, 2) := by decide +kernel
theorem d_L_law_286 : decode c_L_law 286 = .ok (.if_icmp .eq 5, 3) := by decide +kernel
theorem d_L_law_289 : decode c_L_law 289 = .ok (.iconst 0, 1) := by decide +kernel
theorem d_L_law_290 : decode c_L_law 290 = .ok (.ireturn, 1) := by decide +kernel
theorem d_L_law_291 : decode c_L_law 291 = .ok (.iload 5, 2) := by decide +kernel
theorem d_L_law_293 : decode c_L_law 293 = .ok (.ifCond .ne 22, 3) := by decide +kernel
theorem d_L_law_296 : decode c_L_law 296 = .ok (.aload_n 3, 1) := by decide +kernel
theorem d_L_law_297 : decode c_L_law 297 = .ok (.iconst 0, 1) := by decide +kernel
theorem d_L_law_298 : decode c_L_law 298 = .ok (.laload, 1) := by decide +kernel
theorem d_L_law_299 : decode c_L_law 299 = .ok (.iload 6, 2) := by decide +kernel
theorem d_L_law_301 : decode c_L_law 301 = .ok (.ifCond .eq 7, 3) := by decide +kernel
theorem d_L_law_304 : decode c_L_law 304 = .ok (.lconst 1, 1) := by decide +kernel
theorem d_L_law_305 : decode c_L_law 305 = .ok (.goto 4, 3) := by decide +kernel
theorem d_L_law_308 : decode c_L_law 308 = .ok (.lconst 0, 1) := by decide +kernel
theorem d_L_law_309 : decode c_L_law 309 = .ok (.lcmp, 1) := by decide +kernel
theorem d_L_law_310 : decode c_L_law 310 = .ok (.ifCond .eq 5, 3) := by decide +kernel
theorem d_L_law_313 : decode c_L_law 313 = .ok (.iconst 0, 1) := by decide +kernel
theorem d_L_law_314 : decode c_L_law 314 = .ok (.ireturn, 1) := by decide +kernel
theorem d_L_law_315 : decode c_L_law 315 = .ok (.goto 595, 3) := by decide +kernel
theorem d_L_law_318 : decode c_L_law 318 = .ok (.aload_n 1, 1) := by decide +kernel
theorem d_L_law_319 : decode c_L_law 319 = .ok (.aload_n 0, 1) := by decide +kernel
theorem d_L_law_320 : decode c_L_law 320 = .ok (.iload 4, 2) := by decide +kernel
theorem d_L_law_322 : decode c_L_law 322 = .ok (.iconst 1, 1) := by decide +kernel
theorem d_L_law_323 : decode c_L_law 323 = .ok (.iadd, 1) := by decide +kernel
theorem d_L_law_324 : decode c_L_law 324 = .ok (.iaload, 1) := by decide +kernel
theorem d_L_law_325 : decode c_L_law 325 = .ok (.aload_n 0, 1) := by decide +kernel
theorem d_L_law_326 : decode c_L_law 326 = .ok (.iload 4, 2) := by decide +kernel
theorem d_L_law_328 : decode c_L_law 328 = .ok (.iconst 2, 1) := by decide +kernel
theorem d_L_law_329 : decode c_L_law 329 = .ok (.iadd, 1) := by decide +kernel
theorem d_L_law_330 : decode c_L_law 330 = .ok (.iaload, 1) := by decide +kernel
theorem d_L_law_331 : decode c_L_law 331 = .ok (.aload_n 0, 1) := by decide +kernel
theorem d_L_law_332 : decode c_L_law 332 = .ok (.iload 4, 2) := by decide +kernel
theorem d_L_law_334 : decode c_L_law 334 = .ok (.iconst 3, 1) := by decide +kernel
theorem d_L_law_335 : decode c_L_law 335 = .ok (.iadd, 1) := by decide +kernel
theorem d_L_law_336 : decode c_L_law 336 = .ok (.iaload, 1) := by decide +kernel
theorem d_L_law_337 : decode c_L_law 337 = .ok (.aload_n 3, 1) := by decide +kernel
theorem d_L_law_338 : decode c_L_law 338 = .ok (.invokestatic 81, 3) := by decide +kernel
theorem d_L_law_341 : decode c_L_law 341 = .ok (.istore 5, 2) := by decide +kernel
theorem d_L_law_343 : decode c_L_law 343 = .ok (.aload_n 2, 1) := by decide +kernel
theorem d_L_law_344 : decode c_L_law 344 = .ok (.aload_n 0, 1) := by decide +kernel
theorem d_L_law_345 : decode c_L_law 345 = .ok (.iload 4, 2) := by decide +kernel
theorem d_L_law_347 : decode c_L_law 347 = .ok (.iconst 1, 1) := by decide +kernel
theorem d_L_law_348 : decode c_L_law 348 = .ok (.iadd, 1) := by decide +kernel
theorem d_L_law_349 : decode c_L_law 349 = .ok (.iaload, 1) := by decide +kernel
theorem d_L_law_350 : decode c_L_law 350 = .ok (.aload_n 0, 1) := by decide +kernel
theorem d_L_law_351 : decode c_L_law 351 = .ok (.iload 4, 2) := by decide +kernel
theorem d_L_law_353 : decode c_L_law 353 = .ok (.iconst 2, 1) := by decide +kernel
theorem d_L_law_354 : decode c_L_law 354 = .ok (.iadd, 1) := by decide +kernel
theorem d_L_law_355 : decode c_L_law 355 = .ok (.iaload, 1) := by decide +kernel
theorem d_L_law_356 : decode c_L_law 356 = .ok (.aload_n 0, 1) := by decide +kernel
theorem d_L_law_357 : decode c_L_law 357 = .ok (.iload 4, 2) := by decide +kernel
theorem d_L_law_359 : decode c_L_law 359 = .ok (.iconst 3, 1) := by decide +kernel
theorem d_L_law_360 : decode c_L_law 360 = .ok (.iadd, 1) := by decide +kernel
theorem d_L_law_361 : decode c_L_law 361 = .ok (.iaload, 1) := by decide +kernel
theorem d_L_law_362 : decode c_L_law 362 = .ok (.invokevirtual 84, 3) := by decide +kernel
theorem d_L_law_365 : decode c_L_law 365 = .ok (.istore 6, 2) := by decide +kernel
theorem d_L_law_367 : decode c_L_law 367 = .ok (.aload_n 2, 1) := by decide +kernel
theorem d_L_law_368 : decode c_L_law 368 = .ok (.invokevirtual 67, 3) := by decide +kernel
theorem d_L_law_371 : decode c_L_law 371 = .ok (.iload 5, 2) := by decide +kernel
theorem d_L_law_373 : decode c_L_law 373 = .ok (.if_icmp .eq 5, 3) := by decide +kernel
theorem d_L_law_376 : decode c_L_law 376 = .ok (.iconst 0, 1) := by decide +kernel
theorem d_L_law_377 : decode c_L_law 377 = .ok (.ireturn, 1) := by decide +kernel
theorem d_L_law_378 : decode c_L_law 378 = .ok (.iload 5, 2) := by decide +kernel
theorem d_L_law_380 : decode c_L_law 380 = .ok (.ifCond .ne 15, 3) := by decide +kernel
theorem d_L_law_383 : decode c_L_law 383 = .ok (.aload_n 3, 1) := by decide +kernel
theorem d_L_law_384 : decode c_L_law 384 = .ok (.iconst 0, 1) := by decide +kernel
theorem d_L_law_385 : decode c_L_law 385 = .ok (.laload, 1) := by decide +kernel
theorem d_L_law_386 : decode c_L_law 386 = .ok (.iload 6, 2) := by decide +kernel
theorem d_L_law_388 : decode c_L_law 388 = .ok (.i2l, 1) := by decide +kernel
theorem d_L_law_389 : decode c_L_law 389 = .ok (.lcmp, 1) := by decide +kernel
theorem d_L_law_390 : decode c_L_law 390 = .ok (.ifCond .eq 5, 3) := by decide +kernel
theorem d_L_law_393 : decode c_L_law 393 = .ok (.iconst 0, 1) := by decide +kernel
theorem d_L_law_394 : decode c_L_law 394 = .ok (.ireturn, 1) := by decide +kernel
theorem d_L_law_395 : decode c_L_law 395 = .ok (.goto 515, 3) := by decide +kernel
theorem d_L_law_398 : decode c_L_law 398 = .ok (.aload_n 1, 1) := by decide +kernel
theorem d_L_law_399 : decode c_L_law 399 = .ok (.aload_n 0, 1) := by decide +kernel
theorem d_L_law_400 : decode c_L_law 400 = .ok (.iload 4, 2) := by decide +kernel
theorem d_L_law_402 : decode c_L_law 402 = .ok (.iconst 1, 1) := by decide +kernel
theorem d_L_law_403 : decode c_L_law 403 = .ok (.iadd, 1) := by decide +kernel
theorem d_L_law_404 : decode c_L_law 404 = .ok (.iaload, 1) := by decide +kernel
theorem d_L_law_405 : decode c_L_law 405 = .ok (.aload_n 3, 1) := by decide +kernel
theorem d_L_law_406 : decode c_L_law 406 = .ok (.invokestatic 85, 3) := by decide +kernel
theorem d_L_law_409 : decode c_L_law 409 = .ok (.istore 5, 2) := by decide +kernel
theorem d_L_law_411 : decode c_L_law 411 = .ok (.aload_n 2, 1) := by decide +kernel
theorem d_L_law_412 : decode c_L_law 412 = .ok (.aload_n 0, 1) := by decide +kernel
theorem d_L_law_413 : decode c_L_law 413 = .ok (.iload 4, 2) := by decide +kernel
theorem d_L_law_415 : decode c_L_law 415 = .ok (.iconst 1, 1) := by decide +kernel
theorem d_L_law_416 : decode c_L_law 416 = .ok (.iadd, 1) := by decide +kernel
theorem d_L_law_417 : decode c_L_law 417 = .ok (.iaload, 1) := by decide +kernel
theorem d_L_law_418 : decode c_L_law 418 = .ok (.invokevirtual 87, 3) := by decide +kernel
theorem d_L_law_421 : decode c_L_law 421 = .ok (.istore 6, 2) := by decide +kernel
theorem d_L_law_423 : decode c_L_law 423 = .ok (.aload_n 2, 1) := by decide +kernel
theorem d_L_law_424 : decode c_L_law 424 = .ok (.invokevirtual 67, 3) := by decide +kernel
theorem d_L_law_427 : decode c_L_law 427 = .ok (.iload 5, 2) := by decide +kernel
theorem d_L_law_429 : decode c_L_law 429 = .ok (.if_icmp .eq 5, 3) := by decide +kernel
theorem d_L_law_432 : decode c_L_law 432 = .ok (.iconst 0, 1) := by decide +kernel
theorem d_L_law_433 : decode c_L_law 433 = .ok (.ireturn, 1) := by decide +kernel
theorem d_L_law_434 : decode c_L_law 434 = .ok (.iload 5, 2) := by decide +kernel
theorem d_L_law_436 : decode c_L_law 436 = .ok (.ifCond .ne 15, 3) := by decide +kernel
theorem d_L_law_439 : decode c_L_law 439 = .ok (.aload_n 3, 1) := by decide +kernel
theorem d_L_law_440 : decode c_L_law 440 = .ok (.iconst 0, 1) := by decide +kernel
theorem d_L_law_441 : decode c_L_law 441 = .ok (.laload, 1) := by decide +kernel
theorem d_L_law_442 : decode c_L_law 442 = .ok (.iload 6, 2) := by decide +kernel
theorem d_L_law_444 : decode c_L_law 444 = .ok (.i2l, 1) := by decide +kernel
theorem d_L_law_445 : decode c_L_law 445 = .ok (.lcmp, 1) := by decide +kernel
theorem d_L_law_446 : decode c_L_law 446 = .ok (.ifCond .eq 5, 3) := by decide +kernel
theorem d_L_law_449 : decode c_L_law 449 = .ok (.iconst 0, 1) := by decide +kernel
theorem d_L_law_450 : decode c_L_law 450 = .ok (.ireturn, 1) := by decide +kernel
theorem d_L_law_451 : decode c_L_law 451 = .ok (.goto 459, 3) := by decide +kernel
theorem d_L_law_454 : decode c_L_law 454 = .ok (.aload_n 1, 1) := by decide +kernel
theorem d_L_law_455 : decode c_L_law 455 = .ok (.invokevirtual 88, 3) := by decide +kernel
theorem d_L_law_458 : decode c_L_law 458 = .ok (.aload_n 2, 1) := by decide +kernel
theorem d_L_law_459 : decode c_L_law 459 = .ok (.invokevirtual 91, 3) := by decide +kernel
theorem d_L_law_462 : decode c_L_law 462 = .ok (.if_icmp .eq 448, 3) := by decide +kernel
theorem d_L_law_465 : decode c_L_law 465 = .ok (.iconst 0, 1) := by decide +kernel
theorem d_L_law_466 : decode c_L_law 466 = .ok (.ireturn, 1) := by decide +kernel
theorem d_L_law_467 : decode c_L_law 467 = .ok (.aload_n 1, 1) := by decide +kernel
theorem d_L_law_468 : decode c_L_law 468 = .ok (.aload_n 0, 1) := by decide +kernel
theorem d_L_law_469 : decode c_L_law 469 = .ok (.iload 4, 2) := by decide +kernel
theorem d_L_law_471 : decode c_L_law 471 = .ok (.iconst 1, 1) := by decide +kernel
theorem d_L_law_472 : decode c_L_law 472 = .ok (.iadd, 1) := by decide +kernel
theorem d_L_law_473 : decode c_L_law 473 = .ok (.iaload, 1) := by decide +kernel
theorem d_L_law_474 : decode c_L_law 474 = .ok (.aload_n 0, 1) := by decide +kernel
theorem d_L_law_475 : decode c_L_law 475 = .ok (.iload 4, 2) := by decide +kernel
theorem d_L_law_477 : decode c_L_law 477 = .ok (.iconst 2, 1) := by decide +kernel
theorem d_L_law_478 : decode c_L_law 478 = .ok (.iadd, 1) := by decide +kernel
theorem d_L_law_479 : decode c_L_law 479 = .ok (.iaload, 1) := by decide +kernel
theorem d_L_law_480 : decode c_L_law 480 = .ok (.aload_n 3, 1) := by decide +kernel
theorem d_L_law_481 : decode c_L_law 481 = .ok (.invokestatic 92, 3) := by decide +kernel
theorem d_L_law_484 : decode c_L_law 484 = .ok (.istore 5, 2) := by decide +kernel
theorem d_L_law_486 : decode c_L_law 486 = .ok (.aload_n 2, 1) := by decide +kernel
theorem d_L_law_487 : decode c_L_law 487 = .ok (.aload_n 0, 1) := by decide +kernel
theorem d_L_law_488 : decode c_L_law 488 = .ok (.iload 4, 2) := by decide +kernel
theorem d_L_law_490 : decode c_L_law 490 = .ok (.iconst 1, 1) := by decide +kernel
theorem d_L_law_491 : decode c_L_law 491 = .ok (.iadd, 1) := by decide +kernel
theorem d_L_law_492 : decode c_L_law 492 = .ok (.iaload, 1) := by decide +kernel
theorem d_L_law_493 : decode c_L_law 493 = .ok (.aload_n 0, 1) := by decide +kernel
theorem d_L_law_494 : decode c_L_law 494 = .ok (.iload 4, 2) := by decide +kernel
theorem d_L_law_496 : decode c_L_law 496 = .ok (.iconst 2, 1) := by decide +kernel
theorem d_L_law_497 : decode c_L_law 497 = .ok (.iadd, 1) := by decide +kernel
theorem d_L_law_498 : decode c_L_law 498 = .ok (.iaload, 1) := by decide +kernel
theorem d_L_law_499 : decode c_L_law 499 = .ok (.invokevirtual 94, 3) := by decide +kernel
theorem d_L_law_502 : decode c_L_law 502 = .ok (.istore 6, 2) := by decide +kernel
theorem d_L_law_504 : decode c_L_law 504 = .ok (.aload_n 2, 1) := by decide +kernel
theorem d_L_law_505 : decode c_L_law 505 = .ok (.invokevirtual 67, 3) := by decide +kernel
theorem d_L_law_508 : decode c_L_law 508 = .ok (.iload 5, 2) := by decide +kernel
theorem d_L_law_510 : decode c_L_law 510 = .ok (.if_icmp .eq 5, 3) := by decide +kernel
theorem d_L_law_513 : decode c_L_law 513 = .ok (.iconst 0, 1) := by decide +kernel
theorem d_L_law_514 : decode c_L_law 514 = .ok (.ireturn, 1) := by decide +kernel
theorem d_L_law_515 : decode c_L_law 515 = .ok (.iload 5, 2) := by decide +kernel
theorem d_L_law_517 : decode c_L_law 517 = .ok (.ifCond .ne 15, 3) := by decide +kernel
theorem d_L_law_520 : decode c_L_law 520 = .ok (.aload_n 3, 1) := by decide +kernel
theorem d_L_law_521 : decode c_L_law 521 = .ok (.iconst 0, 1) := by decide +kernel
theorem d_L_law_522 : decode c_L_law 522 = .ok (.laload, 1) := by decide +kernel
theorem d_L_law_523 : decode c_L_law 523 = .ok (.iload 6, 2) := by decide +kernel
theorem d_L_law_525 : decode c_L_law 525 = .ok (.i2l, 1) := by decide +kernel
theorem d_L_law_526 : decode c_L_law 526 = .ok (.lcmp, 1) := by decide +kernel
theorem d_L_law_527 : decode c_L_law 527 = .ok (.ifCond .eq 5, 3) := by decide +kernel
theorem d_L_law_530 : decode c_L_law 530 = .ok (.iconst 0, 1) := by decide +kernel
theorem d_L_law_531 : decode c_L_law 531 = .ok (.ireturn, 1) := by decide +kernel
theorem d_L_law_532 : decode c_L_law 532 = .ok (.goto 378, 3) := by decide +kernel
theorem d_L_law_535 : decode c_L_law 535 = .ok (.aload_n 1, 1) := by decide +kernel
theorem d_L_law_536 : decode c_L_law 536 = .ok (.aload_n 0, 1) := by decide +kernel
theorem d_L_law_537 : decode c_L_law 537 = .ok (.iload 4, 2) := by decide +kernel
theorem d_L_law_539 : decode c_L_law 539 = .ok (.iconst 1, 1) := by decide +kernel
theorem d_L_law_540 : decode c_L_law 540 = .ok (.iadd, 1) := by decide +kernel
theorem d_L_law_541 : decode c_L_law 541 = .ok (.iaload, 1) := by decide +kernel
theorem d_L_law_542 : decode c_L_law 542 = .ok (.aload_n 0, 1) := by decide +kernel
theorem d_L_law_543 : decode c_L_law 543 = .ok (.iload 4, 2) := by decide +kernel
theorem d_L_law_545 : decode c_L_law 545 = .ok (.iconst 2, 1) := by decide +kernel
theorem d_L_law_546 : decode c_L_law 546 = .ok (.iadd, 1) := by decide +kernel
theorem d_L_law_547 : decode c_L_law 547 = .ok (.iaload, 1) := by decide +kernel
theorem d_L_law_548 : decode c_L_law 548 = .ok (.aload_n 3, 1) := by decide +kernel
theorem d_L_law_549 : decode c_L_law 549 = .ok (.invokestatic 95, 3) := by decide +kernel
theorem d_L_law_552 : decode c_L_law 552 = .ok (.istore 5, 2) := by decide +kernel
theorem d_L_law_554 : decode c_L_law 554 = .ok (.aload_n 2, 1) := by decide +kernel
theorem d_L_law_555 : decode c_L_law 555 = .ok (.aload_n 0, 1) := by decide +kernel
theorem d_L_law_556 : decode c_L_law 556 = .ok (.iload 4, 2) := by decide +kernel
theorem d_L_law_558 : decode c_L_law 558 = .ok (.iconst 1, 1) := by decide +kernel
theorem d_L_law_559 : decode c_L_law 559 = .ok (.iadd, 1) := by decide +kernel
theorem d_L_law_560 : decode c_L_law 560 = .ok (.iaload, 1) := by decide +kernel
theorem d_L_law_561 : decode c_L_law 561 = .ok (.aload_n 0, 1) := by decide +kernel
theorem d_L_law_562 : decode c_L_law 562 = .ok (.iload 4, 2) := by decide +kernel
theorem d_L_law_564 : decode c_L_law 564 = .ok (.iconst 2, 1) := by decide +kernel
theorem d_L_law_565 : decode c_L_law 565 = .ok (.iadd, 1) := by decide +kernel
theorem d_L_law_566 : decode c_L_law 566 = .ok (.iaload, 1) := by decide +kernel
theorem d_L_law_567 : decode c_L_law 567 = .ok (.invokevirtual 97, 3) := by decide +kernel
theorem d_L_law_570 : decode c_L_law 570 = .ok (.istore 6, 2) := by decide +kernel
theorem d_L_law_572 : decode c_L_law 572 = .ok (.aload_n 2, 1) := by decide +kernel
theorem d_L_law_573 : decode c_L_law 573 = .ok (.invokevirtual 67, 3) := by decide +kernel
theorem d_L_law_576 : decode c_L_law 576 = .ok (.iload 5, 2) := by decide +kernel
theorem d_L_law_578 : decode c_L_law 578 = .ok (.if_icmp .eq 5, 3) := by decide +kernel
theorem d_L_law_581 : decode c_L_law 581 = .ok (.iconst 0, 1) := by decide +kernel
theorem d_L_law_582 : decode c_L_law 582 = .ok (.ireturn, 1) := by decide +kernel
theorem d_L_law_583 : decode c_L_law 583 = .ok (.iload 5, 2) := by decide +kernel
theorem d_L_law_585 : decode c_L_law 585 = .ok (.ifCond .ne 22, 3) := by decide +kernel
theorem d_L_law_588 : decode c_L_law 588 = .ok (.aload_n 3, 1) := by decide +kernel
theorem d_L_law_589 : decode c_L_law 589 = .ok (.iconst 0, 1) := by decide +kernel
theorem d_L_law_590 : decode c_L_law 590 = .ok (.laload, 1) := by decide +kernel
theorem d_L_law_591 : decode c_L_law 591 = .ok (.iload 6, 2) := by decide +kernel
theorem d_L_law_593 : decode c_L_law 593 = .ok (.ifCond .eq 7, 3) := by decide +kernel
theorem d_L_law_596 : decode c_L_law 596 = .ok (.lconst 1, 1) := by decide +kernel
theorem d_L_law_597 : decode c_L_law 597 = .ok (.goto 4, 3) := by decide +kernel
theorem d_L_law_600 : decode c_L_law 600 = .ok (.lconst 0, 1) := by decide +kernel
theorem d_L_law_601 : decode c_L_law 601 = .ok (.lcmp, 1) := by decide +kernel
theorem d_L_law_602 : decode c_L_law 602 = .ok (.ifCond .eq 5, 3) := by decide +kernel
theorem d_L_law_605 : decode c_L_law 605 = .ok (.iconst 0, 1) := by decide +kernel
theorem d_L_law_606 : decode c_L_law 606 = .ok (.ireturn, 1) := by decide +kernel
theorem d_L_law_607 : decode c_L_law 607 = .ok (.goto 303, 3) := by decide +kernel
theorem d_L_law_610 : decode c_L_law 610 = .ok (.aload_n 1, 1) := by decide +kernel
theorem d_L_law_611 : decode c_L_law 611 = .ok (.invokevirtual 98, 3) := by decide +kernel
theorem d_L_law_614 : decode c_L_law 614 = .ok (.aload_n 2, 1) := by decide +kernel
theorem d_L_law_615 : decode c_L_law 615 = .ok (.invokevirtual 101, 3) := by decide +kernel
theorem d_L_law_618 : decode c_L_law 618 = .ok (.if_icmp .eq 292, 3) := by decide +kernel
theorem d_L_law_621 : decode c_L_law 621 = .ok (.iconst 0, 1) := by decide +kernel
theorem d_L_law_622 : decode c_L_law 622 = .ok (.ireturn, 1) := by decide +kernel
theorem d_L_law_623 : decode c_L_law 623 = .ok (.aload_n 1, 1) := by decide +kernel
theorem d_L_law_624 : decode c_L_law 624 = .ok (.aload_n 0, 1) := by decide +kernel
theorem d_L_law_625 : decode c_L_law 625 = .ok (.iload 4, 2) := by decide +kernel
theorem d_L_law_627 : decode c_L_law 627 = .ok (.iconst 1, 1) := by decide +kernel
theorem d_L_law_628 : decode c_L_law 628 = .ok (.iadd, 1) := by decide +kernel
theorem d_L_law_629 : decode c_L_law 629 = .ok (.iaload, 1) := by decide +kernel
theorem d_L_law_630 : decode c_L_law 630 = .ok (.i2l, 1) := by decide +kernel
theorem d_L_law_631 : decode c_L_law 631 = .ok (.bipush 32, 2) := by decide +kernel
theorem d_L_law_633 : decode c_L_law 633 = .ok (.lshl, 1) := by decide +kernel
theorem d_L_law_634 : decode c_L_law 634 = .ok (.aload_n 0, 1) := by decide +kernel
theorem d_L_law_635 : decode c_L_law 635 = .ok (.iload 4, 2) := by decide +kernel
theorem d_L_law_637 : decode c_L_law 637 = .ok (.iconst 2, 1) := by decide +kernel
theorem d_L_law_638 : decode c_L_law 638 = .ok (.iadd, 1) := by decide +kernel
theorem d_L_law_639 : decode c_L_law 639 = .ok (.iaload, 1) := by decide +kernel
theorem d_L_law_640 : decode c_L_law 640 = .ok (.i2l, 1) := by decide +kernel
theorem d_L_law_641 : decode c_L_law 641 = .ok (.ldc2_w 102, 3) := by decide +kernel
theorem d_L_law_644 : decode c_L_law 644 = .ok (.land, 1) := by decide +kernel
theorem d_L_law_645 : decode c_L_law 645 = .ok (.lor, 1) := by decide +kernel
theorem d_L_law_646 : decode c_L_law 646 = .ok (.aload_n 0, 1) := by decide +kernel
theorem d_L_law_647 : decode c_L_law 647 = .ok (.iload 4, 2) := by decide +kernel
theorem d_L_law_649 : decode c_L_law 649 = .ok (.iconst 3, 1) := by decide +kernel
theorem d_L_law_650 : decode c_L_law 650 = .ok (.iadd, 1) := by decide +kernel
theorem d_L_law_651 : decode c_L_law 651 = .ok (.iaload, 1) := by decide +kernel
theorem d_L_law_652 : decode c_L_law 652 = .ok (.aload_n 3, 1) := by decide +kernel
theorem d_L_law_653 : decode c_L_law 653 = .ok (.invokestatic 104, 3) := by decide +kernel
theorem d_L_law_656 : decode c_L_law 656 = .ok (.istore 5, 2) := by decide +kernel
theorem d_L_law_658 : decode c_L_law 658 = .ok (.aload_n 2, 1) := by decide +kernel
theorem d_L_law_659 : decode c_L_law 659 = .ok (.aload_n 0, 1) := by decide +kernel
theorem d_L_law_660 : decode c_L_law 660 = .ok (.iload 4, 2) := by decide +kernel
theorem d_L_law_662 : decode c_L_law 662 = .ok (.iconst 1, 1) := by decide +kernel
theorem d_L_law_663 : decode c_L_law 663 = .ok (.iadd, 1) := by decide +kernel
theorem d_L_law_664 : decode c_L_law 664 = .ok (.iaload, 1) := by decide +kernel
theorem d_L_law_665 : decode c_L_law 665 = .ok (.i2l, 1) := by decide +kernel
theorem d_L_law_666 : decode c_L_law 666 = .ok (.bipush 32, 2) := by decide +kernel
theorem d_L_law_668 : decode c_L_law 668 = .ok (.lshl, 1) := by decide +kernel
theorem d_L_law_669 : decode c_L_law 669 = .ok (.aload_n 0, 1) := by decide +kernel
theorem d_L_law_670 : decode c_L_law 670 = .ok (.iload 4, 2) := by decide +kernel
theorem d_L_law_672 : decode c_L_law 672 = .ok (.iconst 2, 1) := by decide +kernel
theorem d_L_law_673 : decode c_L_law 673 = .ok (.iadd, 1) := by decide +kernel
theorem d_L_law_674 : decode c_L_law 674 = .ok (.iaload, 1) := by decide +kernel
theorem d_L_law_675 : decode c_L_law 675 = .ok (.i2l, 1) := by decide +kernel
theorem d_L_law_676 : decode c_L_law 676 = .ok (.ldc2_w 102, 3) := by decide +kernel
theorem d_L_law_679 : decode c_L_law 679 = .ok (.land, 1) := by decide +kernel
theorem d_L_law_680 : decode c_L_law 680 = .ok (.lor, 1) := by decide +kernel
theorem d_L_law_681 : decode c_L_law 681 = .ok (.aload_n 0, 1) := by decide +kernel
theorem d_L_law_682 : decode c_L_law 682 = .ok (.iload 4, 2) := by decide +kernel
theorem d_L_law_684 : decode c_L_law 684 = .ok (.iconst 3, 1) := by decide +kernel
theorem d_L_law_685 : decode c_L_law 685 = .ok (.iadd, 1) := by decide +kernel
theorem d_L_law_686 : decode c_L_law 686 = .ok (.iaload, 1) := by decide +kernel
theorem d_L_law_687 : decode c_L_law 687 = .ok (.invokevirtual 107, 3) := by decide +kernel
theorem d_L_law_690 : decode c_L_law 690 = .ok (.istore 6, 2) := by decide +kernel
theorem d_L_law_692 : decode c_L_law 692 = .ok (.aload_n 2, 1) := by decide +kernel
theorem d_L_law_693 : decode c_L_law 693 = .ok (.invokevirtual 67, 3) := by decide +kernel
theorem d_L_law_696 : decode c_L_law 696 = .ok (.iload 5, 2) := by decide +kernel
theorem d_L_law_698 : decode c_L_law 698 = .ok (.if_icmp .eq 5, 3) := by decide +kernel
theorem d_L_law_701 : decode c_L_law 701 = .ok (.iconst 0, 1) := by decide +kernel
theorem d_L_law_702 : decode c_L_law 702 = .ok (.ireturn, 1) := by decide +kernel
theorem d_L_law_703 : decode c_L_law 703 = .ok (.iload 5, 2) := by decide +kernel
theorem d_L_law_705 : decode c_L_law 705 = .ok (.ifCond .ne 22, 3) := by decide +kernel
theorem d_L_law_708 : decode c_L_law 708 = .ok (.aload_n 3, 1) := by decide +kernel
theorem d_L_law_709 : decode c_L_law 709 = .ok (.iconst 0, 1) := by decide +kernel
theorem d_L_law_710 : decode c_L_law 710 = .ok (.laload, 1) := by decide +kernel
theorem d_L_law_711 : decode c_L_law 711 = .ok (.iload 6, 2) := by decide +kernel
theorem d_L_law_713 : decode c_L_law 713 = .ok (.ifCond .eq 7, 3) := by decide +kernel
theorem d_L_law_716 : decode c_L_law 716 = .ok (.lconst 1, 1) := by decide +kernel
theorem d_L_law_717 : decode c_L_law 717 = .ok (.goto 4, 3) := by decide +kernel
theorem d_L_law_720 : decode c_L_law 720 = .ok (.lconst 0, 1) := by decide +kernel
theorem d_L_law_721 : decode c_L_law 721 = .ok (.lcmp, 1) := by decide +kernel
theorem d_L_law_722 : decode c_L_law 722 = .ok (.ifCond .eq 5, 3) := by decide +kernel
theorem d_L_law_725 : decode c_L_law 725 = .ok (.iconst 0, 1) := by decide +kernel
theorem d_L_law_726 : decode c_L_law 726 = .ok (.ireturn, 1) := by decide +kernel
theorem d_L_law_727 : decode c_L_law 727 = .ok (.goto 183, 3) := by decide +kernel
theorem d_L_law_730 : decode c_L_law 730 = .ok (.aload_n 1, 1) := by decide +kernel
theorem d_L_law_731 : decode c_L_law 731 = .ok (.aload_n 3, 1) := by decide +kernel
theorem d_L_law_732 : decode c_L_law 732 = .ok (.invokestatic 108, 3) := by decide +kernel
theorem d_L_law_735 : decode c_L_law 735 = .ok (.istore 5, 2) := by decide +kernel
theorem d_L_law_737 : decode c_L_law 737 = .ok (.aload_n 2, 1) := by decide +kernel
theorem d_L_law_738 : decode c_L_law 738 = .ok (.invokevirtual 111, 3) := by decide +kernel
theorem d_L_law_741 : decode c_L_law 741 = .ok (.istore 6, 2) := by decide +kernel
theorem d_L_law_743 : decode c_L_law 743 = .ok (.aload_n 2, 1) := by decide +kernel
theorem d_L_law_744 : decode c_L_law 744 = .ok (.invokevirtual 67, 3) := by decide +kernel
theorem d_L_law_747 : decode c_L_law 747 = .ok (.iload 5, 2) := by decide +kernel
theorem d_L_law_749 : decode c_L_law 749 = .ok (.if_icmp .eq 5, 3) := by decide +kernel
theorem d_L_law_752 : decode c_L_law 752 = .ok (.iconst 0, 1) := by decide +kernel
theorem d_L_law_753 : decode c_L_law 753 = .ok (.ireturn, 1) := by decide +kernel
theorem d_L_law_754 : decode c_L_law 754 = .ok (.iload 5, 2) := by decide +kernel
theorem d_L_law_756 : decode c_L_law 756 = .ok (.ifCond .ne 15, 3) := by decide +kernel
theorem d_L_law_759 : decode c_L_law 759 = .ok (.aload_n 3, 1) := by decide +kernel
theorem d_L_law_760 : decode c_L_law 760 = .ok (.iconst 0, 1) := by decide +kernel
theorem d_L_law_761 : decode c_L_law 761 = .ok (.laload, 1) := by decide +kernel
theorem d_L_law_762 : decode c_L_law 762 = .ok (.iload 6, 2) := by decide +kernel
theorem d_L_law_764 : decode c_L_law 764 = .ok (.i2l, 1) := by decide +kernel
theorem d_L_law_765 : decode c_L_law 765 = .ok (.lcmp, 1) := by decide +kernel
theorem d_L_law_766 : decode c_L_law 766 = .ok (.ifCond .eq 5, 3) := by decide +kernel
theorem d_L_law_769 : decode c_L_law 769 = .ok (.iconst 0, 1) := by decide +kernel
theorem d_L_law_770 : decode c_L_law 770 = .ok (.ireturn, 1) := by decide +kernel
theorem d_L_law_771 : decode c_L_law 771 = .ok (.goto 139, 3) := by decide +kernel
theorem d_L_law_774 : decode c_L_law 774 = .ok (.aload_n 1, 1) := by decide +kernel
theorem d_L_law_775 : decode c_L_law 775 = .ok (.aload_n 0, 1) := by decide +kernel
theorem d_L_law_776 : decode c_L_law 776 = .ok (.iload 4, 2) := by decide +kernel
theorem d_L_law_778 : decode c_L_law 778 = .ok (.iconst 1, 1) := by decide +kernel
theorem d_L_law_779 : decode c_L_law 779 = .ok (.iadd, 1) := by decide +kernel
theorem d_L_law_780 : decode c_L_law 780 = .ok (.iaload, 1) := by decide +kernel
theorem d_L_law_781 : decode c_L_law 781 = .ok (.aload_n 0, 1) := by decide +kernel
theorem d_L_law_782 : decode c_L_law 782 = .ok (.iload 4, 2) := by decide +kernel
theorem d_L_law_784 : decode c_L_law 784 = .ok (.iconst 2, 1) := by decide +kernel
theorem d_L_law_785 : decode c_L_law 785 = .ok (.iadd, 1) := by decide +kernel
theorem d_L_law_786 : decode c_L_law 786 = .ok (.iaload, 1) := by decide +kernel
theorem d_L_law_787 : decode c_L_law 787 = .ok (.aload_n 3, 1) := by decide +kernel
theorem d_L_law_788 : decode c_L_law 788 = .ok (.invokestatic 112, 3) := by decide +kernel
theorem d_L_law_791 : decode c_L_law 791 = .ok (.istore 5, 2) := by decide +kernel
theorem d_L_law_793 : decode c_L_law 793 = .ok (.aload_n 2, 1) := by decide +kernel
theorem d_L_law_794 : decode c_L_law 794 = .ok (.aload_n 0, 1) := by decide +kernel
theorem d_L_law_795 : decode c_L_law 795 = .ok (.iload 4, 2) := by decide +kernel
theorem d_L_law_797 : decode c_L_law 797 = .ok (.iconst 1, 1) := by decide +kernel
theorem d_L_law_798 : decode c_L_law 798 = .ok (.iadd, 1) := by decide +kernel
theorem d_L_law_799 : decode c_L_law 799 = .ok (.iaload, 1) := by decide +kernel
theorem d_L_law_800 : decode c_L_law 800 = .ok (.aload_n 0, 1) := by decide +kernel
theorem d_L_law_801 : decode c_L_law 801 = .ok (.iload 4, 2) := by decide +kernel
theorem d_L_law_803 : decode c_L_law 803 = .ok (.iconst 2, 1) := by decide +kernel
theorem d_L_law_804 : decode c_L_law 804 = .ok (.iadd, 1) := by decide +kernel
theorem d_L_law_805 : decode c_L_law 805 = .ok (.iaload, 1) := by decide +kernel
theorem d_L_law_806 : decode c_L_law 806 = .ok (.invokevirtual 114, 3) := by decide +kernel
theorem d_L_law_809 : decode c_L_law 809 = .ok (.istore 6, 2) := by decide +kernel
theorem d_L_law_811 : decode c_L_law 811 = .ok (.aload_n 2, 1) := by decide +kernel
theorem d_L_law_812 : decode c_L_law 812 = .ok (.invokevirtual 67, 3) := by decide +kernel
theorem d_L_law_815 : decode c_L_law 815 = .ok (.iload 5, 2) := by decide +kernel
theorem d_L_law_817 : decode c_L_law 817 = .ok (.if_icmp .eq 5, 3) := by decide +kernel
theorem d_L_law_820 : decode c_L_law 820 = .ok (.iconst 0, 1) := by decide +kernel
theorem d_L_law_821 : decode c_L_law 821 = .ok (.ireturn, 1) := by decide +kernel
theorem d_L_law_822 : decode c_L_law 822 = .ok (.iload 5, 2) := by decide +kernel
theorem d_L_law_824 : decode c_L_law 824 = .ok (.ifCond .ne 15, 3) := by decide +kernel
theorem d_L_law_827 : decode c_L_law 827 = .ok (.aload_n 3, 1) := by decide +kernel
theorem d_L_law_828 : decode c_L_law 828 = .ok (.iconst 0, 1) := by decide +kernel
theorem d_L_law_829 : decode c_L_law 829 = .ok (.laload, 1) := by decide +kernel
theorem d_L_law_830 : decode c_L_law 830 = .ok (.iload 6, 2) := by decide +kernel
theorem d_L_law_832 : decode c_L_law 832 = .ok (.i2l, 1) := by decide +kernel
theorem d_L_law_833 : decode c_L_law 833 = .ok (.lcmp, 1) := by decide +kernel
theorem d_L_law_834 : decode c_L_law 834 = .ok (.ifCond .eq 5, 3) := by decide +kernel
theorem d_L_law_837 : decode c_L_law 837 = .ok (.iconst 0, 1) := by decide +kernel
theorem d_L_law_838 : decode c_L_law 838 = .ok (.ireturn, 1) := by decide +kernel
theorem d_L_law_839 : decode c_L_law 839 = .ok (.goto 71, 3) := by decide +kernel
theorem d_L_law_842 : decode c_L_law 842 = .ok (.aload_n 1, 1) := by decide +kernel
theorem d_L_law_843 : decode c_L_law 843 = .ok (.aload_n 0, 1) := by decide +kernel
theorem d_L_law_844 : decode c_L_law 844 = .ok (.iload 4, 2) := by decide +kernel
theorem d_L_law_846 : decode c_L_law 846 = .ok (.iconst 1, 1) := by decide +kernel
theorem d_L_law_847 : decode c_L_law 847 = .ok (.iadd, 1) := by decide +kernel
theorem d_L_law_848 : decode c_L_law 848 = .ok (.iaload, 1) := by decide +kernel
theorem d_L_law_849 : decode c_L_law 849 = .ok (.aload_n 0, 1) := by decide +kernel
theorem d_L_law_850 : decode c_L_law 850 = .ok (.iload 4, 2) := by decide +kernel
theorem d_L_law_852 : decode c_L_law 852 = .ok (.iconst 2, 1) := by decide +kernel
theorem d_L_law_853 : decode c_L_law 853 = .ok (.iadd, 1) := by decide +kernel
theorem d_L_law_854 : decode c_L_law 854 = .ok (.iaload, 1) := by decide +kernel
theorem d_L_law_855 : decode c_L_law 855 = .ok (.aload_n 3, 1) := by decide +kernel
theorem d_L_law_856 : decode c_L_law 856 = .ok (.invokestatic 115, 3) := by decide +kernel
theorem d_L_law_859 : decode c_L_law 859 = .ok (.istore 5, 2) := by decide +kernel
theorem d_L_law_861 : decode c_L_law 861 = .ok (.aload_n 2, 1) := by decide +kernel
theorem d_L_law_862 : decode c_L_law 862 = .ok (.aload_n 0, 1) := by decide +kernel
theorem d_L_law_863 : decode c_L_law 863 = .ok (.iload 4, 2) := by decide +kernel
theorem d_L_law_865 : decode c_L_law 865 = .ok (.iconst 1, 1) := by decide +kernel
theorem d_L_law_866 : decode c_L_law 866 = .ok (.iadd, 1) := by decide +kernel
theorem d_L_law_867 : decode c_L_law 867 = .ok (.iaload, 1) := by decide +kernel
theorem d_L_law_868 : decode c_L_law 868 = .ok (.aload_n 0, 1) := by decide +kernel
theorem d_L_law_869 : decode c_L_law 869 = .ok (.iload 4, 2) := by decide +kernel
theorem d_L_law_871 : decode c_L_law 871 = .ok (.iconst 2, 1) := by decide +kernel
theorem d_L_law_872 : decode c_L_law 872 = .ok (.iadd, 1) := by decide +kernel
theorem d_L_law_873 : decode c_L_law 873 = .ok (.iaload, 1) := by decide +kernel
theorem d_L_law_874 : decode c_L_law 874 = .ok (.invokevirtual 117, 3) := by decide +kernel
theorem d_L_law_877 : decode c_L_law 877 = .ok (.istore 6, 2) := by decide +kernel
theorem d_L_law_879 : decode c_L_law 879 = .ok (.aload_n 2, 1) := by decide +kernel
theorem d_L_law_880 : decode c_L_law 880 = .ok (.invokevirtual 67, 3) := by decide +kernel
theorem d_L_law_883 : decode c_L_law 883 = .ok (.iload 5, 2) := by decide +kernel
theorem d_L_law_885 : decode c_L_law 885 = .ok (.if_icmp .eq 5, 3) := by decide +kernel
theorem d_L_law_888 : decode c_L_law 888 = .ok (.iconst 0, 1) := by decide +kernel
theorem d_L_law_889 : decode c_L_law 889 = .ok (.ireturn, 1) := by decide +kernel
theorem d_L_law_890 : decode c_L_law 890 = .ok (.iload 5, 2) := by decide +kernel
theorem d_L_law_892 : decode c_L_law 892 = .ok (.ifCond .ne 15, 3) := by decide +kernel
theorem d_L_law_895 : decode c_L_law 895 = .ok (.aload_n 3, 1) := by decide +kernel
theorem d_L_law_896 : decode c_L_law 896 = .ok (.iconst 0, 1) := by decide +kernel
theorem d_L_law_897 : decode c_L_law 897 = .ok (.laload, 1) := by decide +kernel
theorem d_L_law_898 : decode c_L_law 898 = .ok (.iload 6, 2) := by decide +kernel
theorem d_L_law_900 : decode c_L_law 900 = .ok (.i2l, 1) := by decide +kernel
theorem d_L_law_901 : decode c_L_law 901 = .ok (.lcmp, 1) := by decide +kernel
theorem d_L_law_902 : decode c_L_law 902 = .ok (.ifCond .eq 5, 3) := by decide +kernel
theorem d_L_law_905 : decode c_L_law 905 = .ok (.iconst 0, 1) := by decide +kernel
theorem d_L_law_906 : decode c_L_law 906 = .ok (.ireturn, 1) := by decide +kernel
theorem d_L_law_907 : decode c_L_law 907 = .ok (.goto 3, 3) := by decide +kernel
theorem d_L_law_910 : decode c_L_law 910 = .ok (.iinc 4 4, 3) := by decide +kernel
theorem d_L_law_913 : decode c_L_law 913 = .ok (.goto (-890), 3) := by decide +kernel
theorem d_L_law_916 : decode c_L_law 916 = .ok (.iconst 1, 1) := by decide +kernel
theorem d_L_law_917 : decode c_L_law 917 = .ok (.ireturn, 1) := by decide +kernel
