/-! names and decode rows: ReadGraph (by program) -/
abbrev c_G_init : ByteArray := prog_1_method_1_code
def y_G_init : MethodName := ⟨"ReadGraph", "<init>", "()V"⟩
theorem d_G_init_0 : decode c_G_init 0 = .ok (.aload_n 0, 1) := by decide +kernel
theorem d_G_init_1 : decode c_G_init 1 = .ok (.invokespecial 3, 3) := by decide +kernel
theorem d_G_init_4 : decode c_G_init 4 = .ok (.aload_n 0, 1) := by decide +kernel
theorem d_G_init_5 : decode c_G_init 5 = .ok (.new 9, 3) := by decide +kernel
theorem d_G_init_8 : decode c_G_init 8 = .ok (.dup, 1) := by decide +kernel
theorem d_G_init_9 : decode c_G_init 9 = .ok (.invokespecial 11, 3) := by decide +kernel
theorem d_G_init_12 : decode c_G_init 12 = .ok (.putfield 12, 3) := by decide +kernel
theorem d_G_init_15 : decode c_G_init 15 = .ok (.aload_n 0, 1) := by decide +kernel
theorem d_G_init_16 : decode c_G_init 16 = .ok (.new 16, 3) := by decide +kernel
theorem d_G_init_19 : decode c_G_init 19 = .ok (.dup, 1) := by decide +kernel
theorem d_G_init_20 : decode c_G_init 20 = .ok (.invokespecial 18, 3) := by decide +kernel
theorem d_G_init_23 : decode c_G_init 23 = .ok (.putfield 19, 3) := by decide +kernel
theorem d_G_init_26 : decode c_G_init 26 = .ok (.aload_n 0, 1) := by decide +kernel
theorem d_G_init_27 : decode c_G_init 27 = .ok (.new 23, 3) := by decide +kernel
theorem d_G_init_30 : decode c_G_init 30 = .ok (.dup, 1) := by decide +kernel
theorem d_G_init_31 : decode c_G_init 31 = .ok (.aload_n 0, 1) := by decide +kernel
theorem d_G_init_32 : decode c_G_init 32 = .ok (.getfield 19, 3) := by decide +kernel
theorem d_G_init_35 : decode c_G_init 35 = .ok (.invokespecial 25, 3) := by decide +kernel
theorem d_G_init_38 : decode c_G_init 38 = .ok (.putfield 28, 3) := by decide +kernel
theorem d_G_init_41 : decode c_G_init 41 = .ok (.return_, 1) := by decide +kernel
abbrev c_G_read : ByteArray := prog_1_method_2_code
def y_G_read : MethodName := ⟨"ReadGraph", "read", "(II)I"⟩
theorem d_G_read_0 : decode c_G_read 0 = .ok (.iload_n 2, 1) := by decide +kernel
theorem d_G_read_1 : decode c_G_read 1 = .ok (.iconst 3, 1) := by decide +kernel
theorem d_G_read_2 : decode c_G_read 2 = .ok (.if_icmp .lt 9, 3) := by decide +kernel
theorem d_G_read_5 : decode c_G_read 5 = .ok (.iload_n 2, 1) := by decide +kernel
theorem d_G_read_6 : decode c_G_read 6 = .ok (.bipush 12, 2) := by decide +kernel
theorem d_G_read_8 : decode c_G_read 8 = .ok (.if_icmp .le 13, 3) := by decide +kernel
theorem d_G_read_11 : decode c_G_read 11 = .ok (.new 32, 3) := by decide +kernel
theorem d_G_read_14 : decode c_G_read 14 = .ok (.dup, 1) := by decide +kernel
theorem d_G_read_15 : decode c_G_read 15 = .ok (.ldc 34, 2) := by decide +kernel
theorem d_G_read_17 : decode c_G_read 17 = .ok (.invokespecial 36, 3) := by decide +kernel
theorem d_G_read_20 : decode c_G_read 20 = .ok (.athrow, 1) := by decide +kernel
theorem d_G_read_21 : decode c_G_read 21 = .ok (.aload_n 0, 1) := by decide +kernel
theorem d_G_read_22 : decode c_G_read 22 = .ok (.getfield 12, 3) := by decide +kernel
theorem d_G_read_25 : decode c_G_read 25 = .ok (.getfield 39, 3) := by decide +kernel
theorem d_G_read_28 : decode c_G_read 28 = .ok (.bipush 9, 2) := by decide +kernel
theorem d_G_read_30 : decode c_G_read 30 = .ok (.if_icmp .ne 13, 3) := by decide +kernel
theorem d_G_read_33 : decode c_G_read 33 = .ok (.new 43, 3) := by decide +kernel
theorem d_G_read_36 : decode c_G_read 36 = .ok (.dup, 1) := by decide +kernel
theorem d_G_read_37 : decode c_G_read 37 = .ok (.ldc 45, 2) := by decide +kernel
theorem d_G_read_39 : decode c_G_read 39 = .ok (.invokespecial 47, 3) := by decide +kernel
theorem d_G_read_42 : decode c_G_read 42 = .ok (.athrow, 1) := by decide +kernel
theorem d_G_read_43 : decode c_G_read 43 = .ok (.aload_n 0, 1) := by decide +kernel
theorem d_G_read_44 : decode c_G_read 44 = .ok (.invokevirtual 48, 3) := by decide +kernel
theorem d_G_read_47 : decode c_G_read 47 = .ok (.aload_n 0, 1) := by decide +kernel
theorem d_G_read_48 : decode c_G_read 48 = .ok (.getfield 12, 3) := by decide +kernel
theorem d_G_read_51 : decode c_G_read 51 = .ok (.iload_n 1, 1) := by decide +kernel
theorem d_G_read_52 : decode c_G_read 52 = .ok (.iload_n 2, 1) := by decide +kernel
theorem d_G_read_53 : decode c_G_read 53 = .ok (.invokevirtual 51, 3) := by decide +kernel
theorem d_G_read_56 : decode c_G_read 56 = .ok (.ireturn, 1) := by decide +kernel
abbrev c_G_clear : ByteArray := prog_1_method_3_code
def y_G_clear : MethodName := ⟨"ReadGraph", "clear", "()V"⟩
theorem d_G_clear_0 : decode c_G_clear 0 = .ok (.aload_n 0, 1) := by decide +kernel
theorem d_G_clear_1 : decode c_G_clear 1 = .ok (.invokevirtual 48, 3) := by decide +kernel
theorem d_G_clear_4 : decode c_G_clear 4 = .ok (.aload_n 0, 1) := by decide +kernel
theorem d_G_clear_5 : decode c_G_clear 5 = .ok (.getfield 12, 3) := by decide +kernel
theorem d_G_clear_8 : decode c_G_clear 8 = .ok (.iconst 0, 1) := by decide +kernel
theorem d_G_clear_9 : decode c_G_clear 9 = .ok (.putfield 39, 3) := by decide +kernel
theorem d_G_clear_12 : decode c_G_clear 12 = .ok (.return_, 1) := by decide +kernel
abbrev c_G_letter : ByteArray := prog_1_method_4_code
def y_G_letter : MethodName := ⟨"ReadGraph", "letter", "(II)I"⟩
theorem d_G_letter_0 : decode c_G_letter 0 = .ok (.aload_n 0, 1) := by decide +kernel
theorem d_G_letter_1 : decode c_G_letter 1 = .ok (.getfield 12, 3) := by decide +kernel
theorem d_G_letter_4 : decode c_G_letter 4 = .ok (.iload_n 1, 1) := by decide +kernel
theorem d_G_letter_5 : decode c_G_letter 5 = .ok (.invokevirtual 55, 3) := by decide +kernel
theorem d_G_letter_8 : decode c_G_letter 8 = .ok (.ifCond .ne 13, 3) := by decide +kernel
theorem d_G_letter_11 : decode c_G_letter 11 = .ok (.new 32, 3) := by decide +kernel
theorem d_G_letter_14 : decode c_G_letter 14 = .ok (.dup, 1) := by decide +kernel
theorem d_G_letter_15 : decode c_G_letter 15 = .ok (.ldc 59, 2) := by decide +kernel
theorem d_G_letter_17 : decode c_G_letter 17 = .ok (.invokespecial 36, 3) := by decide +kernel
theorem d_G_letter_20 : decode c_G_letter 20 = .ok (.athrow, 1) := by decide +kernel
theorem d_G_letter_21 : decode c_G_letter 21 = .ok (.iload_n 2, 1) := by decide +kernel
theorem d_G_letter_22 : decode c_G_letter 22 = .ok (.iconst (-1), 1) := by decide +kernel
theorem d_G_letter_23 : decode c_G_letter 23 = .ok (.if_icmp .lt 16, 3) := by decide +kernel
theorem d_G_letter_26 : decode c_G_letter 26 = .ok (.iload_n 2, 1) := by decide +kernel
theorem d_G_letter_27 : decode c_G_letter 27 = .ok (.aload_n 0, 1) := by decide +kernel
theorem d_G_letter_28 : decode c_G_letter 28 = .ok (.getfield 12, 3) := by decide +kernel
theorem d_G_letter_31 : decode c_G_letter 31 = .ok (.getfield 61, 3) := by decide +kernel
theorem d_G_letter_34 : decode c_G_letter 34 = .ok (.iload_n 1, 1) := by decide +kernel
theorem d_G_letter_35 : decode c_G_letter 35 = .ok (.iaload, 1) := by decide +kernel
theorem d_G_letter_36 : decode c_G_letter 36 = .ok (.if_icmp .lt 13, 3) := by decide +kernel
theorem d_G_letter_39 : decode c_G_letter 39 = .ok (.new 65, 3) := by decide +kernel
theorem d_G_letter_42 : decode c_G_letter 42 = .ok (.dup, 1) := by decide +kernel
theorem d_G_letter_43 : decode c_G_letter 43 = .ok (.ldc 67, 2) := by decide +kernel
theorem d_G_letter_45 : decode c_G_letter 45 = .ok (.invokespecial 69, 3) := by decide +kernel
theorem d_G_letter_48 : decode c_G_letter 48 = .ok (.athrow, 1) := by decide +kernel
theorem d_G_letter_49 : decode c_G_letter 49 = .ok (.iload_n 2, 1) := by decide +kernel
theorem d_G_letter_50 : decode c_G_letter 50 = .ok (.iconst (-1), 1) := by decide +kernel
theorem d_G_letter_51 : decode c_G_letter 51 = .ok (.if_icmp .ne 15, 3) := by decide +kernel
theorem d_G_letter_54 : decode c_G_letter 54 = .ok (.aload_n 0, 1) := by decide +kernel
theorem d_G_letter_55 : decode c_G_letter 55 = .ok (.getfield 12, 3) := by decide +kernel
theorem d_G_letter_58 : decode c_G_letter 58 = .ok (.getfield 61, 3) := by decide +kernel
theorem d_G_letter_61 : decode c_G_letter 61 = .ok (.iload_n 1, 1) := by decide +kernel
theorem d_G_letter_62 : decode c_G_letter 62 = .ok (.iaload, 1) := by decide +kernel
theorem d_G_letter_63 : decode c_G_letter 63 = .ok (.goto 12, 3) := by decide +kernel
theorem d_G_letter_66 : decode c_G_letter 66 = .ok (.aload_n 0, 1) := by decide +kernel
theorem d_G_letter_67 : decode c_G_letter 67 = .ok (.getfield 12, 3) := by decide +kernel
theorem d_G_letter_70 : decode c_G_letter 70 = .ok (.iload_n 1, 1) := by decide +kernel
theorem d_G_letter_71 : decode c_G_letter 71 = .ok (.iload_n 2, 1) := by decide +kernel
theorem d_G_letter_72 : decode c_G_letter 72 = .ok (.invokevirtual 70, 3) := by decide +kernel
theorem d_G_letter_75 : decode c_G_letter 75 = .ok (.ireturn, 1) := by decide +kernel
abbrev c_G_contained : ByteArray := prog_1_method_5_code
def y_G_contained : MethodName := ⟨"ReadGraph", "contained", "(I)Z"⟩
theorem d_G_contained_0 : decode c_G_contained 0 = .ok (.aload_n 0, 1) := by decide +kernel
theorem d_G_contained_1 : decode c_G_contained 1 = .ok (.getfield 12, 3) := by decide +kernel
theorem d_G_contained_4 : decode c_G_contained 4 = .ok (.iload_n 1, 1) := by decide +kernel
theorem d_G_contained_5 : decode c_G_contained 5 = .ok (.invokevirtual 55, 3) := by decide +kernel
theorem d_G_contained_8 : decode c_G_contained 8 = .ok (.ifCond .ne 13, 3) := by decide +kernel
theorem d_G_contained_11 : decode c_G_contained 11 = .ok (.new 32, 3) := by decide +kernel
theorem d_G_contained_14 : decode c_G_contained 14 = .ok (.dup, 1) := by decide +kernel
theorem d_G_contained_15 : decode c_G_contained 15 = .ok (.ldc 59, 2) := by decide +kernel
theorem d_G_contained_17 : decode c_G_contained 17 = .ok (.invokespecial 36, 3) := by decide +kernel
theorem d_G_contained_20 : decode c_G_contained 20 = .ok (.athrow, 1) := by decide +kernel
theorem d_G_contained_21 : decode c_G_contained 21 = .ok (.aload_n 0, 1) := by decide +kernel
theorem d_G_contained_22 : decode c_G_contained 22 = .ok (.getfield 12, 3) := by decide +kernel
theorem d_G_contained_25 : decode c_G_contained 25 = .ok (.iload_n 1, 1) := by decide +kernel
theorem d_G_contained_26 : decode c_G_contained 26 = .ok (.invokevirtual 73, 3) := by decide +kernel
theorem d_G_contained_29 : decode c_G_contained 29 = .ok (.ifCond .ne 7, 3) := by decide +kernel
theorem d_G_contained_32 : decode c_G_contained 32 = .ok (.iconst 1, 1) := by decide +kernel
theorem d_G_contained_33 : decode c_G_contained 33 = .ok (.goto 4, 3) := by decide +kernel
theorem d_G_contained_36 : decode c_G_contained 36 = .ok (.iconst 0, 1) := by decide +kernel
theorem d_G_contained_37 : decode c_G_contained 37 = .ok (.ireturn, 1) := by decide +kernel
abbrev c_G_overlap : ByteArray := prog_1_method_6_code
def y_G_overlap : MethodName := ⟨"ReadGraph", "overlap", "(III)I"⟩
theorem d_G_overlap_0 : decode c_G_overlap 0 = .ok (.aload_n 0, 1) := by decide +kernel
theorem d_G_overlap_1 : decode c_G_overlap 1 = .ok (.getfield 12, 3) := by decide +kernel
theorem d_G_overlap_4 : decode c_G_overlap 4 = .ok (.iload_n 1, 1) := by decide +kernel
theorem d_G_overlap_5 : decode c_G_overlap 5 = .ok (.invokevirtual 73, 3) := by decide +kernel
theorem d_G_overlap_8 : decode c_G_overlap 8 = .ok (.ifCond .eq 19, 3) := by decide +kernel
theorem d_G_overlap_11 : decode c_G_overlap 11 = .ok (.aload_n 0, 1) := by decide +kernel
theorem d_G_overlap_12 : decode c_G_overlap 12 = .ok (.getfield 12, 3) := by decide +kernel
theorem d_G_overlap_15 : decode c_G_overlap 15 = .ok (.iload_n 2, 1) := by decide +kernel
theorem d_G_overlap_16 : decode c_G_overlap 16 = .ok (.invokevirtual 73, 3) := by decide +kernel
theorem d_G_overlap_19 : decode c_G_overlap 19 = .ok (.ifCond .eq 8, 3) := by decide +kernel
theorem d_G_overlap_22 : decode c_G_overlap 22 = .ok (.iload_n 1, 1) := by decide +kernel
theorem d_G_overlap_23 : decode c_G_overlap 23 = .ok (.iload_n 2, 1) := by decide +kernel
theorem d_G_overlap_24 : decode c_G_overlap 24 = .ok (.if_icmp .ne 13, 3) := by decide +kernel
theorem d_G_overlap_27 : decode c_G_overlap 27 = .ok (.new 32, 3) := by decide +kernel
theorem d_G_overlap_30 : decode c_G_overlap 30 = .ok (.dup, 1) := by decide +kernel
theorem d_G_overlap_31 : decode c_G_overlap 31 = .ok (.ldc 76, 2) := by decide +kernel
theorem d_G_overlap_33 : decode c_G_overlap 33 = .ok (.invokespecial 36, 3) := by decide +kernel
theorem d_G_overlap_36 : decode c_G_overlap 36 = .ok (.athrow, 1) := by decide +kernel
theorem d_G_overlap_37 : decode c_G_overlap 37 = .ok (.iload_n 3, 1) := by decide +kernel
theorem d_G_overlap_38 : decode c_G_overlap 38 = .ok (.invokestatic 78, 3) := by decide +kernel
theorem d_G_overlap_41 : decode c_G_overlap 41 = .ok (.ifCond .ne 13, 3) := by decide +kernel
theorem d_G_overlap_44 : decode c_G_overlap 44 = .ok (.new 32, 3) := by decide +kernel
theorem d_G_overlap_47 : decode c_G_overlap 47 = .ok (.dup, 1) := by decide +kernel
theorem d_G_overlap_48 : decode c_G_overlap 48 = .ok (.ldc 81, 2) := by decide +kernel
theorem d_G_overlap_50 : decode c_G_overlap 50 = .ok (.invokespecial 36, 3) := by decide +kernel
theorem d_G_overlap_53 : decode c_G_overlap 53 = .ok (.athrow, 1) := by decide +kernel
theorem d_G_overlap_54 : decode c_G_overlap 54 = .ok (.aload_n 0, 1) := by decide +kernel
theorem d_G_overlap_55 : decode c_G_overlap 55 = .ok (.getfield 12, 3) := by decide +kernel
theorem d_G_overlap_58 : decode c_G_overlap 58 = .ok (.iload_n 1, 1) := by decide +kernel
theorem d_G_overlap_59 : decode c_G_overlap 59 = .ok (.iload_n 2, 1) := by decide +kernel
theorem d_G_overlap_60 : decode c_G_overlap 60 = .ok (.iload_n 3, 1) := by decide +kernel
theorem d_G_overlap_61 : decode c_G_overlap 61 = .ok (.invokevirtual 83, 3) := by decide +kernel
theorem d_G_overlap_64 : decode c_G_overlap 64 = .ok (.ireturn, 1) := by decide +kernel
abbrev c_G_build : ByteArray := prog_1_method_7_code
def y_G_build : MethodName := ⟨"ReadGraph", "build", "(I)I"⟩
theorem d_G_build_0 : decode c_G_build 0 = .ok (.iload_n 1, 1) := by decide +kernel
theorem d_G_build_1 : decode c_G_build 1 = .ok (.invokestatic 78, 3) := by decide +kernel
theorem d_G_build_4 : decode c_G_build 4 = .ok (.ifCond .ne 13, 3) := by decide +kernel
theorem d_G_build_7 : decode c_G_build 7 = .ok (.new 32, 3) := by decide +kernel
theorem d_G_build_10 : decode c_G_build 10 = .ok (.dup, 1) := by decide +kernel
theorem d_G_build_11 : decode c_G_build 11 = .ok (.ldc 81, 2) := by decide +kernel
theorem d_G_build_13 : decode c_G_build 13 = .ok (.invokespecial 36, 3) := by decide +kernel
theorem d_G_build_16 : decode c_G_build 16 = .ok (.athrow, 1) := by decide +kernel
theorem d_G_build_17 : decode c_G_build 17 = .ok (.aload_n 0, 1) := by decide +kernel
theorem d_G_build_18 : decode c_G_build 18 = .ok (.invokevirtual 48, 3) := by decide +kernel
theorem d_G_build_21 : decode c_G_build 21 = .ok (.aload_n 0, 1) := by decide +kernel
theorem d_G_build_22 : decode c_G_build 22 = .ok (.getfield 19, 3) := by decide +kernel
theorem d_G_build_25 : decode c_G_build 25 = .ok (.aload_n 0, 1) := by decide +kernel
theorem d_G_build_26 : decode c_G_build 26 = .ok (.getfield 12, 3) := by decide +kernel
theorem d_G_build_29 : decode c_G_build 29 = .ok (.iload_n 1, 1) := by decide +kernel
theorem d_G_build_30 : decode c_G_build 30 = .ok (.invokevirtual 87, 3) := by decide +kernel
theorem d_G_build_33 : decode c_G_build 33 = .ok (.aload_n 0, 1) := by decide +kernel
theorem d_G_build_34 : decode c_G_build 34 = .ok (.getfield 19, 3) := by decide +kernel
theorem d_G_build_37 : decode c_G_build 37 = .ok (.getfield 91, 3) := by decide +kernel
theorem d_G_build_40 : decode c_G_build 40 = .ok (.ireturn, 1) := by decide +kernel
abbrev c_G_all : ByteArray := prog_1_method_8_code
def y_G_all : MethodName := ⟨"ReadGraph", "all", "()I"⟩
theorem d_G_all_0 : decode c_G_all 0 = .ok (.aload_n 0, 1) := by decide +kernel
theorem d_G_all_1 : decode c_G_all 1 = .ok (.getfield 19, 3) := by decide +kernel
theorem d_G_all_4 : decode c_G_all 4 = .ok (.getfield 92, 3) := by decide +kernel
theorem d_G_all_7 : decode c_G_all 7 = .ok (.ireturn, 1) := by decide +kernel
abbrev c_G_edge : ByteArray := prog_1_method_9_code
def y_G_edge : MethodName := ⟨"ReadGraph", "edge", "(II)I"⟩
theorem d_G_edge_0 : decode c_G_edge 0 = .ok (.iload_n 2, 1) := by decide +kernel
theorem d_G_edge_1 : decode c_G_edge 1 = .ok (.ifCond .lt 8, 3) := by decide +kernel
theorem d_G_edge_4 : decode c_G_edge 4 = .ok (.iload_n 2, 1) := by decide +kernel
theorem d_G_edge_5 : decode c_G_edge 5 = .ok (.iconst 3, 1) := by decide +kernel
theorem d_G_edge_6 : decode c_G_edge 6 = .ok (.if_icmp .le 13, 3) := by decide +kernel
theorem d_G_edge_9 : decode c_G_edge 9 = .ok (.new 32, 3) := by decide +kernel
theorem d_G_edge_12 : decode c_G_edge 12 = .ok (.dup, 1) := by decide +kernel
theorem d_G_edge_13 : decode c_G_edge 13 = .ok (.ldc 95, 2) := by decide +kernel
theorem d_G_edge_15 : decode c_G_edge 15 = .ok (.invokespecial 36, 3) := by decide +kernel
theorem d_G_edge_18 : decode c_G_edge 18 = .ok (.athrow, 1) := by decide +kernel
theorem d_G_edge_19 : decode c_G_edge 19 = .ok (.aload_n 0, 1) := by decide +kernel
theorem d_G_edge_20 : decode c_G_edge 20 = .ok (.getfield 19, 3) := by decide +kernel
theorem d_G_edge_23 : decode c_G_edge 23 = .ok (.iload_n 1, 1) := by decide +kernel
theorem d_G_edge_24 : decode c_G_edge 24 = .ok (.invokevirtual 97, 3) := by decide +kernel
theorem d_G_edge_27 : decode c_G_edge 27 = .ok (.ifCond .ne 13, 3) := by decide +kernel
theorem d_G_edge_30 : decode c_G_edge 30 = .ok (.new 98, 3) := by decide +kernel
theorem d_G_edge_33 : decode c_G_edge 33 = .ok (.dup, 1) := by decide +kernel
theorem d_G_edge_34 : decode c_G_edge 34 = .ok (.ldc 100, 2) := by decide +kernel
theorem d_G_edge_36 : decode c_G_edge 36 = .ok (.invokespecial 102, 3) := by decide +kernel
theorem d_G_edge_39 : decode c_G_edge 39 = .ok (.athrow, 1) := by decide +kernel
theorem d_G_edge_40 : decode c_G_edge 40 = .ok (.iload_n 2, 1) := by decide +kernel
theorem d_G_edge_41 : decode c_G_edge 41 = .ok (.tableswitch 75 0 2 #[27, 37, 47], 27) := by decide +kernel
theorem d_G_edge_68 : decode c_G_edge 68 = .ok (.aload_n 0, 1) := by decide +kernel
theorem d_G_edge_69 : decode c_G_edge 69 = .ok (.getfield 19, 3) := by decide +kernel
theorem d_G_edge_72 : decode c_G_edge 72 = .ok (.getfield 103, 3) := by decide +kernel
theorem d_G_edge_75 : decode c_G_edge 75 = .ok (.iload_n 1, 1) := by decide +kernel
theorem d_G_edge_76 : decode c_G_edge 76 = .ok (.iaload, 1) := by decide +kernel
theorem d_G_edge_77 : decode c_G_edge 77 = .ok (.ireturn, 1) := by decide +kernel
theorem d_G_edge_78 : decode c_G_edge 78 = .ok (.aload_n 0, 1) := by decide +kernel
theorem d_G_edge_79 : decode c_G_edge 79 = .ok (.getfield 19, 3) := by decide +kernel
theorem d_G_edge_82 : decode c_G_edge 82 = .ok (.getfield 106, 3) := by decide +kernel
theorem d_G_edge_85 : decode c_G_edge 85 = .ok (.iload_n 1, 1) := by decide +kernel
theorem d_G_edge_86 : decode c_G_edge 86 = .ok (.iaload, 1) := by decide +kernel
theorem d_G_edge_87 : decode c_G_edge 87 = .ok (.ireturn, 1) := by decide +kernel
theorem d_G_edge_88 : decode c_G_edge 88 = .ok (.aload_n 0, 1) := by decide +kernel
theorem d_G_edge_89 : decode c_G_edge 89 = .ok (.getfield 12, 3) := by decide +kernel
theorem d_G_edge_92 : decode c_G_edge 92 = .ok (.getfield 61, 3) := by decide +kernel
theorem d_G_edge_95 : decode c_G_edge 95 = .ok (.aload_n 0, 1) := by decide +kernel
theorem d_G_edge_96 : decode c_G_edge 96 = .ok (.getfield 19, 3) := by decide +kernel
theorem d_G_edge_99 : decode c_G_edge 99 = .ok (.getfield 106, 3) := by decide +kernel
theorem d_G_edge_102 : decode c_G_edge 102 = .ok (.iload_n 1, 1) := by decide +kernel
theorem d_G_edge_103 : decode c_G_edge 103 = .ok (.iaload, 1) := by decide +kernel
theorem d_G_edge_104 : decode c_G_edge 104 = .ok (.iaload, 1) := by decide +kernel
theorem d_G_edge_105 : decode c_G_edge 105 = .ok (.aload_n 0, 1) := by decide +kernel
theorem d_G_edge_106 : decode c_G_edge 106 = .ok (.getfield 19, 3) := by decide +kernel
theorem d_G_edge_109 : decode c_G_edge 109 = .ok (.getfield 109, 3) := by decide +kernel
theorem d_G_edge_112 : decode c_G_edge 112 = .ok (.iload_n 1, 1) := by decide +kernel
theorem d_G_edge_113 : decode c_G_edge 113 = .ok (.iaload, 1) := by decide +kernel
theorem d_G_edge_114 : decode c_G_edge 114 = .ok (.isub, 1) := by decide +kernel
theorem d_G_edge_115 : decode c_G_edge 115 = .ok (.ireturn, 1) := by decide +kernel
theorem d_G_edge_116 : decode c_G_edge 116 = .ok (.aload_n 0, 1) := by decide +kernel
theorem d_G_edge_117 : decode c_G_edge 117 = .ok (.getfield 19, 3) := by decide +kernel
theorem d_G_edge_120 : decode c_G_edge 120 = .ok (.getfield 109, 3) := by decide +kernel
theorem d_G_edge_123 : decode c_G_edge 123 = .ok (.iload_n 1, 1) := by decide +kernel
theorem d_G_edge_124 : decode c_G_edge 124 = .ok (.iaload, 1) := by decide +kernel
theorem d_G_edge_125 : decode c_G_edge 125 = .ok (.ireturn, 1) := by decide +kernel
abbrev c_G_way : ByteArray := prog_1_method_10_code
def y_G_way : MethodName := ⟨"ReadGraph", "way", "(II)Z"⟩
theorem d_G_way_0 : decode c_G_way 0 = .ok (.aload_n 0, 1) := by decide +kernel
theorem d_G_way_1 : decode c_G_way 1 = .ok (.getfield 12, 3) := by decide +kernel
theorem d_G_way_4 : decode c_G_way 4 = .ok (.iload_n 1, 1) := by decide +kernel
theorem d_G_way_5 : decode c_G_way 5 = .ok (.invokevirtual 73, 3) := by decide +kernel
theorem d_G_way_8 : decode c_G_way 8 = .ok (.ifCond .eq 14, 3) := by decide +kernel
theorem d_G_way_11 : decode c_G_way 11 = .ok (.aload_n 0, 1) := by decide +kernel
theorem d_G_way_12 : decode c_G_way 12 = .ok (.getfield 12, 3) := by decide +kernel
theorem d_G_way_15 : decode c_G_way 15 = .ok (.iload_n 2, 1) := by decide +kernel
theorem d_G_way_16 : decode c_G_way 16 = .ok (.invokevirtual 73, 3) := by decide +kernel
theorem d_G_way_19 : decode c_G_way 19 = .ok (.ifCond .ne 13, 3) := by decide +kernel
theorem d_G_way_22 : decode c_G_way 22 = .ok (.new 32, 3) := by decide +kernel
theorem d_G_way_25 : decode c_G_way 25 = .ok (.dup, 1) := by decide +kernel
theorem d_G_way_26 : decode c_G_way 26 = .ok (.ldc 112, 2) := by decide +kernel
theorem d_G_way_28 : decode c_G_way 28 = .ok (.invokespecial 36, 3) := by decide +kernel
theorem d_G_way_31 : decode c_G_way 31 = .ok (.athrow, 1) := by decide +kernel
theorem d_G_way_32 : decode c_G_way 32 = .ok (.aload_n 0, 1) := by decide +kernel
theorem d_G_way_33 : decode c_G_way 33 = .ok (.getfield 19, 3) := by decide +kernel
theorem d_G_way_36 : decode c_G_way 36 = .ok (.getfield 114, 3) := by decide +kernel
theorem d_G_way_39 : decode c_G_way 39 = .ok (.iload_n 1, 1) := by decide +kernel
theorem d_G_way_40 : decode c_G_way 40 = .ok (.iaload, 1) := by decide +kernel
theorem d_G_way_41 : decode c_G_way 41 = .ok (.iload_n 2, 1) := by decide +kernel
theorem d_G_way_42 : decode c_G_way 42 = .ok (.invokestatic 117, 3) := by decide +kernel
theorem d_G_way_45 : decode c_G_way 45 = .ok (.ireturn, 1) := by decide +kernel
abbrev c_G_kind : ByteArray := prog_1_method_11_code
def y_G_kind : MethodName := ⟨"ReadGraph", "kind", "()I"⟩
theorem d_G_kind_0 : decode c_G_kind 0 = .ok (.aload_n 0, 1) := by decide +kernel
theorem d_G_kind_1 : decode c_G_kind 1 = .ok (.getfield 19, 3) := by decide +kernel
theorem d_G_kind_4 : decode c_G_kind 4 = .ok (.invokevirtual 121, 3) := by decide +kernel
theorem d_G_kind_7 : decode c_G_kind 7 = .ok (.ireturn, 1) := by decide +kernel
abbrev c_G_safe : ByteArray := prog_1_method_12_code
def y_G_safe : MethodName := ⟨"ReadGraph", "safe", "(JI)Z"⟩
theorem d_G_safe_0 : decode c_G_safe 0 = .ok (.iload_n 3, 1) := by decide +kernel
theorem d_G_safe_1 : decode c_G_safe 1 = .ok (.iconst 1, 1) := by decide +kernel
theorem d_G_safe_2 : decode c_G_safe 2 = .ok (.if_icmp .lt 9, 3) := by decide +kernel
theorem d_G_safe_5 : decode c_G_safe 5 = .ok (.iload_n 3, 1) := by decide +kernel
theorem d_G_safe_6 : decode c_G_safe 6 = .ok (.bipush 8, 2) := by decide +kernel
theorem d_G_safe_8 : decode c_G_safe 8 = .ok (.if_icmp .le 13, 3) := by decide +kernel
theorem d_G_safe_11 : decode c_G_safe 11 = .ok (.new 32, 3) := by decide +kernel
theorem d_G_safe_14 : decode c_G_safe 14 = .ok (.dup, 1) := by decide +kernel
theorem d_G_safe_15 : decode c_G_safe 15 = .ok (.ldc 125, 2) := by decide +kernel
theorem d_G_safe_17 : decode c_G_safe 17 = .ok (.invokespecial 36, 3) := by decide +kernel
theorem d_G_safe_20 : decode c_G_safe 20 = .ok (.athrow, 1) := by decide +kernel
theorem d_G_safe_21 : decode c_G_safe 21 = .ok (.aload_n 0, 1) := by decide +kernel
theorem d_G_safe_22 : decode c_G_safe 22 = .ok (.lload_n 1, 1) := by decide +kernel
theorem d_G_safe_23 : decode c_G_safe 23 = .ok (.iload_n 3, 1) := by decide +kernel
theorem d_G_safe_24 : decode c_G_safe 24 = .ok (.invokevirtual 127, 3) := by decide +kernel
theorem d_G_safe_27 : decode c_G_safe 27 = .ok (.ifCond .ne 13, 3) := by decide +kernel
theorem d_G_safe_30 : decode c_G_safe 30 = .ok (.new 32, 3) := by decide +kernel
theorem d_G_safe_33 : decode c_G_safe 33 = .ok (.dup, 1) := by decide +kernel
theorem d_G_safe_34 : decode c_G_safe 34 = .ok (.ldc 131, 2) := by decide +kernel
theorem d_G_safe_36 : decode c_G_safe 36 = .ok (.invokespecial 36, 3) := by decide +kernel
theorem d_G_safe_39 : decode c_G_safe 39 = .ok (.athrow, 1) := by decide +kernel
theorem d_G_safe_40 : decode c_G_safe 40 = .ok (.aload_n 0, 1) := by decide +kernel
theorem d_G_safe_41 : decode c_G_safe 41 = .ok (.lload_n 1, 1) := by decide +kernel
theorem d_G_safe_42 : decode c_G_safe 42 = .ok (.iload_n 3, 1) := by decide +kernel
theorem d_G_safe_43 : decode c_G_safe 43 = .ok (.invokevirtual 133, 3) := by decide +kernel
theorem d_G_safe_46 : decode c_G_safe 46 = .ok (.ireturn, 1) := by decide +kernel
abbrev c_G_walks : ByteArray := prog_1_method_13_code
def y_G_walks : MethodName := ⟨"ReadGraph", "walks", "()I"⟩
theorem d_G_walks_0 : decode c_G_walks 0 = .ok (.aload_n 0, 1) := by decide +kernel
theorem d_G_walks_1 : decode c_G_walks 1 = .ok (.getfield 19, 3) := by decide +kernel
theorem d_G_walks_4 : decode c_G_walks 4 = .ok (.invokevirtual 121, 3) := by decide +kernel
theorem d_G_walks_7 : decode c_G_walks 7 = .ok (.iconst 2, 1) := by decide +kernel
theorem d_G_walks_8 : decode c_G_walks 8 = .ok (.if_icmp .ne 13, 3) := by decide +kernel
theorem d_G_walks_11 : decode c_G_walks 11 = .ok (.aload_n 0, 1) := by decide +kernel
theorem d_G_walks_12 : decode c_G_walks 12 = .ok (.getfield 28, 3) := by decide +kernel
theorem d_G_walks_15 : decode c_G_walks 15 = .ok (.invokevirtual 136, 3) := by decide +kernel
theorem d_G_walks_18 : decode c_G_walks 18 = .ok (.ifCond .ne 21, 3) := by decide +kernel
theorem d_G_walks_21 : decode c_G_walks 21 = .ok (.aload_n 0, 1) := by decide +kernel
theorem d_G_walks_22 : decode c_G_walks 22 = .ok (.getfield 28, 3) := by decide +kernel
theorem d_G_walks_25 : decode c_G_walks 25 = .ok (.iconst 0, 1) := by decide +kernel
theorem d_G_walks_26 : decode c_G_walks 26 = .ok (.putfield 140, 3) := by decide +kernel
theorem d_G_walks_29 : decode c_G_walks 29 = .ok (.new 43, 3) := by decide +kernel
theorem d_G_walks_32 : decode c_G_walks 32 = .ok (.dup, 1) := by decide +kernel
theorem d_G_walks_33 : decode c_G_walks 33 = .ok (.ldc 141, 2) := by decide +kernel
theorem d_G_walks_35 : decode c_G_walks 35 = .ok (.invokespecial 47, 3) := by decide +kernel
theorem d_G_walks_38 : decode c_G_walks 38 = .ok (.athrow, 1) := by decide +kernel
theorem d_G_walks_39 : decode c_G_walks 39 = .ok (.aload_n 0, 1) := by decide +kernel
theorem d_G_walks_40 : decode c_G_walks 40 = .ok (.getfield 28, 3) := by decide +kernel
theorem d_G_walks_43 : decode c_G_walks 43 = .ok (.getfield 140, 3) := by decide +kernel
theorem d_G_walks_46 : decode c_G_walks 46 = .ok (.ireturn, 1) := by decide +kernel
abbrev c_G_walk : ByteArray := prog_1_method_14_code
def y_G_walk : MethodName := ⟨"ReadGraph", "walk", "(II)I"⟩
theorem d_G_walk_0 : decode c_G_walk 0 = .ok (.aload_n 0, 1) := by decide +kernel
theorem d_G_walk_1 : decode c_G_walk 1 = .ok (.getfield 28, 3) := by decide +kernel
theorem d_G_walk_4 : decode c_G_walk 4 = .ok (.iload_n 1, 1) := by decide +kernel
theorem d_G_walk_5 : decode c_G_walk 5 = .ok (.invokevirtual 143, 3) := by decide +kernel
theorem d_G_walk_8 : decode c_G_walk 8 = .ok (.ifCond .ne 13, 3) := by decide +kernel
theorem d_G_walk_11 : decode c_G_walk 11 = .ok (.new 98, 3) := by decide +kernel
theorem d_G_walk_14 : decode c_G_walk 14 = .ok (.dup, 1) := by decide +kernel
theorem d_G_walk_15 : decode c_G_walk 15 = .ok (.ldc 144, 2) := by decide +kernel
theorem d_G_walk_17 : decode c_G_walk 17 = .ok (.invokespecial 102, 3) := by decide +kernel
theorem d_G_walk_20 : decode c_G_walk 20 = .ok (.athrow, 1) := by decide +kernel
theorem d_G_walk_21 : decode c_G_walk 21 = .ok (.iload_n 2, 1) := by decide +kernel
theorem d_G_walk_22 : decode c_G_walk 22 = .ok (.iconst (-1), 1) := by decide +kernel
theorem d_G_walk_23 : decode c_G_walk 23 = .ok (.if_icmp .lt 16, 3) := by decide +kernel
theorem d_G_walk_26 : decode c_G_walk 26 = .ok (.iload_n 2, 1) := by decide +kernel
theorem d_G_walk_27 : decode c_G_walk 27 = .ok (.aload_n 0, 1) := by decide +kernel
theorem d_G_walk_28 : decode c_G_walk 28 = .ok (.getfield 28, 3) := by decide +kernel
theorem d_G_walk_31 : decode c_G_walk 31 = .ok (.getfield 146, 3) := by decide +kernel
theorem d_G_walk_34 : decode c_G_walk 34 = .ok (.iload_n 1, 1) := by decide +kernel
theorem d_G_walk_35 : decode c_G_walk 35 = .ok (.iaload, 1) := by decide +kernel
theorem d_G_walk_36 : decode c_G_walk 36 = .ok (.if_icmp .lt 13, 3) := by decide +kernel
theorem d_G_walk_39 : decode c_G_walk 39 = .ok (.new 65, 3) := by decide +kernel
theorem d_G_walk_42 : decode c_G_walk 42 = .ok (.dup, 1) := by decide +kernel
theorem d_G_walk_43 : decode c_G_walk 43 = .ok (.ldc 100, 2) := by decide +kernel
theorem d_G_walk_45 : decode c_G_walk 45 = .ok (.invokespecial 69, 3) := by decide +kernel
theorem d_G_walk_48 : decode c_G_walk 48 = .ok (.athrow, 1) := by decide +kernel
theorem d_G_walk_49 : decode c_G_walk 49 = .ok (.iload_n 2, 1) := by decide +kernel
theorem d_G_walk_50 : decode c_G_walk 50 = .ok (.iconst (-1), 1) := by decide +kernel
theorem d_G_walk_51 : decode c_G_walk 51 = .ok (.if_icmp .ne 15, 3) := by decide +kernel
theorem d_G_walk_54 : decode c_G_walk 54 = .ok (.aload_n 0, 1) := by decide +kernel
theorem d_G_walk_55 : decode c_G_walk 55 = .ok (.getfield 28, 3) := by decide +kernel
theorem d_G_walk_58 : decode c_G_walk 58 = .ok (.getfield 146, 3) := by decide +kernel
theorem d_G_walk_61 : decode c_G_walk 61 = .ok (.iload_n 1, 1) := by decide +kernel
theorem d_G_walk_62 : decode c_G_walk 62 = .ok (.iaload, 1) := by decide +kernel
theorem d_G_walk_63 : decode c_G_walk 63 = .ok (.goto 12, 3) := by decide +kernel
theorem d_G_walk_66 : decode c_G_walk 66 = .ok (.aload_n 0, 1) := by decide +kernel
theorem d_G_walk_67 : decode c_G_walk 67 = .ok (.getfield 28, 3) := by decide +kernel
theorem d_G_walk_70 : decode c_G_walk 70 = .ok (.iload_n 1, 1) := by decide +kernel
theorem d_G_walk_71 : decode c_G_walk 71 = .ok (.iload_n 2, 1) := by decide +kernel
theorem d_G_walk_72 : decode c_G_walk 72 = .ok (.invokevirtual 147, 3) := by decide +kernel
theorem d_G_walk_75 : decode c_G_walk 75 = .ok (.ireturn, 1) := by decide +kernel
abbrev c_G_spelled : ByteArray := prog_1_method_15_code
def y_G_spelled : MethodName := ⟨"ReadGraph", "spelled", "(II)I"⟩
theorem d_G_spelled_0 : decode c_G_spelled 0 = .ok (.aload_n 0, 1) := by decide +kernel
theorem d_G_spelled_1 : decode c_G_spelled 1 = .ok (.getfield 28, 3) := by decide +kernel
theorem d_G_spelled_4 : decode c_G_spelled 4 = .ok (.iload_n 1, 1) := by decide +kernel
theorem d_G_spelled_5 : decode c_G_spelled 5 = .ok (.invokevirtual 143, 3) := by decide +kernel
theorem d_G_spelled_8 : decode c_G_spelled 8 = .ok (.ifCond .ne 13, 3) := by decide +kernel
theorem d_G_spelled_11 : decode c_G_spelled 11 = .ok (.new 98, 3) := by decide +kernel
theorem d_G_spelled_14 : decode c_G_spelled 14 = .ok (.dup, 1) := by decide +kernel
theorem d_G_spelled_15 : decode c_G_spelled 15 = .ok (.ldc 144, 2) := by decide +kernel
theorem d_G_spelled_17 : decode c_G_spelled 17 = .ok (.invokespecial 102, 3) := by decide +kernel
theorem d_G_spelled_20 : decode c_G_spelled 20 = .ok (.athrow, 1) := by decide +kernel
theorem d_G_spelled_21 : decode c_G_spelled 21 = .ok (.aload_n 0, 1) := by decide +kernel
theorem d_G_spelled_22 : decode c_G_spelled 22 = .ok (.iload_n 1, 1) := by decide +kernel
theorem d_G_spelled_23 : decode c_G_spelled 23 = .ok (.invokevirtual 150, 3) := by decide +kernel
theorem d_G_spelled_26 : decode c_G_spelled 26 = .ok (.istore_n 3, 1) := by decide +kernel
theorem d_G_spelled_27 : decode c_G_spelled 27 = .ok (.iload_n 2, 1) := by decide +kernel
theorem d_G_spelled_28 : decode c_G_spelled 28 = .ok (.iconst (-1), 1) := by decide +kernel
theorem d_G_spelled_29 : decode c_G_spelled 29 = .ok (.if_icmp .lt 8, 3) := by decide +kernel
theorem d_G_spelled_32 : decode c_G_spelled 32 = .ok (.iload_n 2, 1) := by decide +kernel
theorem d_G_spelled_33 : decode c_G_spelled 33 = .ok (.iload_n 3, 1) := by decide +kernel
theorem d_G_spelled_34 : decode c_G_spelled 34 = .ok (.if_icmp .lt 13, 3) := by decide +kernel
theorem d_G_spelled_37 : decode c_G_spelled 37 = .ok (.new 65, 3) := by decide +kernel
theorem d_G_spelled_40 : decode c_G_spelled 40 = .ok (.dup, 1) := by decide +kernel
theorem d_G_spelled_41 : decode c_G_spelled 41 = .ok (.ldc 67, 2) := by decide +kernel
theorem d_G_spelled_43 : decode c_G_spelled 43 = .ok (.invokespecial 69, 3) := by decide +kernel
theorem d_G_spelled_46 : decode c_G_spelled 46 = .ok (.athrow, 1) := by decide +kernel
theorem d_G_spelled_47 : decode c_G_spelled 47 = .ok (.iload_n 2, 1) := by decide +kernel
theorem d_G_spelled_48 : decode c_G_spelled 48 = .ok (.iconst (-1), 1) := by decide +kernel
theorem d_G_spelled_49 : decode c_G_spelled 49 = .ok (.if_icmp .ne 7, 3) := by decide +kernel
theorem d_G_spelled_52 : decode c_G_spelled 52 = .ok (.iload_n 3, 1) := by decide +kernel
theorem d_G_spelled_53 : decode c_G_spelled 53 = .ok (.goto 9, 3) := by decide +kernel
theorem d_G_spelled_56 : decode c_G_spelled 56 = .ok (.aload_n 0, 1) := by decide +kernel
theorem d_G_spelled_57 : decode c_G_spelled 57 = .ok (.iload_n 1, 1) := by decide +kernel
theorem d_G_spelled_58 : decode c_G_spelled 58 = .ok (.iload_n 2, 1) := by decide +kernel
theorem d_G_spelled_59 : decode c_G_spelled 59 = .ok (.invokevirtual 154, 3) := by decide +kernel
theorem d_G_spelled_62 : decode c_G_spelled 62 = .ok (.ireturn, 1) := by decide +kernel
abbrev c_G_forgetGraph : ByteArray := prog_1_method_16_code
def y_G_forgetGraph : MethodName := ⟨"ReadGraph", "forgetGraph", "()V"⟩
theorem d_G_forgetGraph_0 : decode c_G_forgetGraph 0 = .ok (.aload_n 0, 1) := by decide +kernel
theorem d_G_forgetGraph_1 : decode c_G_forgetGraph 1 = .ok (.getfield 19, 3) := by decide +kernel
theorem d_G_forgetGraph_4 : decode c_G_forgetGraph 4 = .ok (.invokevirtual 157, 3) := by decide +kernel
theorem d_G_forgetGraph_7 : decode c_G_forgetGraph 7 = .ok (.aload_n 0, 1) := by decide +kernel
theorem d_G_forgetGraph_8 : decode c_G_forgetGraph 8 = .ok (.getfield 28, 3) := by decide +kernel
theorem d_G_forgetGraph_11 : decode c_G_forgetGraph 11 = .ok (.iconst 0, 1) := by decide +kernel
theorem d_G_forgetGraph_12 : decode c_G_forgetGraph 12 = .ok (.putfield 140, 3) := by decide +kernel
theorem d_G_forgetGraph_15 : decode c_G_forgetGraph 15 = .ok (.return_, 1) := by decide +kernel
abbrev c_G_isLeast : ByteArray := prog_1_method_17_code
def y_G_isLeast : MethodName := ⟨"ReadGraph", "isLeast", "(I)Z"⟩
theorem d_G_isLeast_0 : decode c_G_isLeast 0 = .ok (.iload_n 0, 1) := by decide +kernel
theorem d_G_isLeast_1 : decode c_G_isLeast 1 = .ok (.iconst 1, 1) := by decide +kernel
theorem d_G_isLeast_2 : decode c_G_isLeast 2 = .ok (.if_icmp .lt 13, 3) := by decide +kernel
theorem d_G_isLeast_5 : decode c_G_isLeast 5 = .ok (.iload_n 0, 1) := by decide +kernel
theorem d_G_isLeast_6 : decode c_G_isLeast 6 = .ok (.bipush 12, 2) := by decide +kernel
theorem d_G_isLeast_8 : decode c_G_isLeast 8 = .ok (.if_icmp .gt 7, 3) := by decide +kernel
theorem d_G_isLeast_11 : decode c_G_isLeast 11 = .ok (.iconst 1, 1) := by decide +kernel
theorem d_G_isLeast_12 : decode c_G_isLeast 12 = .ok (.goto 4, 3) := by decide +kernel
theorem d_G_isLeast_15 : decode c_G_isLeast 15 = .ok (.iconst 0, 1) := by decide +kernel
theorem d_G_isLeast_16 : decode c_G_isLeast 16 = .ok (.ireturn, 1) := by decide +kernel
abbrev c_G_isPackedWalk : ByteArray := prog_1_method_18_code
def y_G_isPackedWalk : MethodName := ⟨"ReadGraph", "isPackedWalk", "(JI)Z"⟩
theorem d_G_isPackedWalk_0 : decode c_G_isPackedWalk 0 = .ok (.iconst 0, 1) := by decide +kernel
theorem d_G_isPackedWalk_1 : decode c_G_isPackedWalk 1 = .ok (.istore 4, 2) := by decide +kernel
theorem d_G_isPackedWalk_3 : decode c_G_isPackedWalk 3 = .ok (.iload 4, 2) := by decide +kernel
theorem d_G_isPackedWalk_5 : decode c_G_isPackedWalk 5 = .ok (.iload_n 3, 1) := by decide +kernel
theorem d_G_isPackedWalk_6 : decode c_G_isPackedWalk 6 = .ok (.if_icmp .ge 67, 3) := by decide +kernel
theorem d_G_isPackedWalk_9 : decode c_G_isPackedWalk 9 = .ok (.lload_n 1, 1) := by decide +kernel
theorem d_G_isPackedWalk_10 : decode c_G_isPackedWalk 10 = .ok (.iload_n 3, 1) := by decide +kernel
theorem d_G_isPackedWalk_11 : decode c_G_isPackedWalk 11 = .ok (.iload 4, 2) := by decide +kernel
theorem d_G_isPackedWalk_13 : decode c_G_isPackedWalk 13 = .ok (.invokestatic 160, 3) := by decide +kernel
theorem d_G_isPackedWalk_16 : decode c_G_isPackedWalk 16 = .ok (.istore 5, 2) := by decide +kernel
theorem d_G_isPackedWalk_18 : decode c_G_isPackedWalk 18 = .ok (.aload_n 0, 1) := by decide +kernel
theorem d_G_isPackedWalk_19 : decode c_G_isPackedWalk 19 = .ok (.getfield 19, 3) := by decide +kernel
theorem d_G_isPackedWalk_22 : decode c_G_isPackedWalk 22 = .ok (.iload 5, 2) := by decide +kernel
theorem d_G_isPackedWalk_24 : decode c_G_isPackedWalk 24 = .ok (.invokevirtual 97, 3) := by decide +kernel
theorem d_G_isPackedWalk_27 : decode c_G_isPackedWalk 27 = .ok (.ifCond .eq 38, 3) := by decide +kernel
theorem d_G_isPackedWalk_30 : decode c_G_isPackedWalk 30 = .ok (.iload 4, 2) := by decide +kernel
theorem d_G_isPackedWalk_32 : decode c_G_isPackedWalk 32 = .ok (.ifCond .le 35, 3) := by decide +kernel
theorem d_G_isPackedWalk_35 : decode c_G_isPackedWalk 35 = .ok (.aload_n 0, 1) := by decide +kernel
theorem d_G_isPackedWalk_36 : decode c_G_isPackedWalk 36 = .ok (.getfield 19, 3) := by decide +kernel
theorem d_G_isPackedWalk_39 : decode c_G_isPackedWalk 39 = .ok (.getfield 103, 3) := by decide +kernel
theorem d_G_isPackedWalk_42 : decode c_G_isPackedWalk 42 = .ok (.iload 5, 2) := by decide +kernel
theorem d_G_isPackedWalk_44 : decode c_G_isPackedWalk 44 = .ok (.iaload, 1) := by decide +kernel
theorem d_G_isPackedWalk_45 : decode c_G_isPackedWalk 45 = .ok (.aload_n 0, 1) := by decide +kernel
theorem d_G_isPackedWalk_46 : decode c_G_isPackedWalk 46 = .ok (.getfield 19, 3) := by decide +kernel
theorem d_G_isPackedWalk_49 : decode c_G_isPackedWalk 49 = .ok (.getfield 106, 3) := by decide +kernel
theorem d_G_isPackedWalk_52 : decode c_G_isPackedWalk 52 = .ok (.lload_n 1, 1) := by decide +kernel
theorem d_G_isPackedWalk_53 : decode c_G_isPackedWalk 53 = .ok (.iload_n 3, 1) := by decide +kernel
theorem d_G_isPackedWalk_54 : decode c_G_isPackedWalk 54 = .ok (.iload 4, 2) := by decide +kernel
theorem d_G_isPackedWalk_56 : decode c_G_isPackedWalk 56 = .ok (.iconst 1, 1) := by decide +kernel
theorem d_G_isPackedWalk_57 : decode c_G_isPackedWalk 57 = .ok (.isub, 1) := by decide +kernel
theorem d_G_isPackedWalk_58 : decode c_G_isPackedWalk 58 = .ok (.invokestatic 160, 3) := by decide +kernel
theorem d_G_isPackedWalk_61 : decode c_G_isPackedWalk 61 = .ok (.iaload, 1) := by decide +kernel
theorem d_G_isPackedWalk_62 : decode c_G_isPackedWalk 62 = .ok (.if_icmp .eq 5, 3) := by decide +kernel
theorem d_G_isPackedWalk_65 : decode c_G_isPackedWalk 65 = .ok (.iconst 0, 1) := by decide +kernel
theorem d_G_isPackedWalk_66 : decode c_G_isPackedWalk 66 = .ok (.ireturn, 1) := by decide +kernel
theorem d_G_isPackedWalk_67 : decode c_G_isPackedWalk 67 = .ok (.iinc 4 1, 3) := by decide +kernel
theorem d_G_isPackedWalk_70 : decode c_G_isPackedWalk 70 = .ok (.goto (-67), 3) := by decide +kernel
theorem d_G_isPackedWalk_73 : decode c_G_isPackedWalk 73 = .ok (.iconst 1, 1) := by decide +kernel
theorem d_G_isPackedWalk_74 : decode c_G_isPackedWalk 74 = .ok (.ireturn, 1) := by decide +kernel
abbrev c_G_isPackedWalkSafe : ByteArray := prog_1_method_19_code
def y_G_isPackedWalkSafe : MethodName := ⟨"ReadGraph", "isPackedWalkSafe", "(JI)Z"⟩
theorem d_G_isPackedWalkSafe_0 : decode c_G_isPackedWalkSafe 0 = .ok (.iconst 1, 1) := by decide +kernel
theorem d_G_isPackedWalkSafe_1 : decode c_G_isPackedWalkSafe 1 = .ok (.istore 4, 2) := by decide +kernel
theorem d_G_isPackedWalkSafe_3 : decode c_G_isPackedWalkSafe 3 = .ok (.iload 4, 2) := by decide +kernel
theorem d_G_isPackedWalkSafe_5 : decode c_G_isPackedWalkSafe 5 = .ok (.iload_n 3, 1) := by decide +kernel
theorem d_G_isPackedWalkSafe_6 : decode c_G_isPackedWalkSafe 6 = .ok (.if_icmp .ge 51, 3) := by decide +kernel
theorem d_G_isPackedWalkSafe_9 : decode c_G_isPackedWalkSafe 9 = .ok (.iconst 0, 1) := by decide +kernel
theorem d_G_isPackedWalkSafe_10 : decode c_G_isPackedWalkSafe 10 = .ok (.istore 5, 2) := by decide +kernel
theorem d_G_isPackedWalkSafe_12 : decode c_G_isPackedWalkSafe 12 = .ok (.iload 5, 2) := by decide +kernel
theorem d_G_isPackedWalkSafe_14 : decode c_G_isPackedWalkSafe 14 = .ok (.iload 4, 2) := by decide +kernel
theorem d_G_isPackedWalkSafe_16 : decode c_G_isPackedWalkSafe 16 = .ok (.if_icmp .ge 35, 3) := by decide +kernel
theorem d_G_isPackedWalkSafe_19 : decode c_G_isPackedWalkSafe 19 = .ok (.aload_n 0, 1) := by decide +kernel
theorem d_G_isPackedWalkSafe_20 : decode c_G_isPackedWalkSafe 20 = .ok (.getfield 19, 3) := by decide +kernel
theorem d_G_isPackedWalkSafe_23 : decode c_G_isPackedWalkSafe 23 = .ok (.lload_n 1, 1) := by decide +kernel
theorem d_G_isPackedWalkSafe_24 : decode c_G_isPackedWalkSafe 24 = .ok (.iload_n 3, 1) := by decide +kernel
theorem d_G_isPackedWalkSafe_25 : decode c_G_isPackedWalkSafe 25 = .ok (.iload 5, 2) := by decide +kernel
theorem d_G_isPackedWalkSafe_27 : decode c_G_isPackedWalkSafe 27 = .ok (.invokestatic 160, 3) := by decide +kernel
theorem d_G_isPackedWalkSafe_30 : decode c_G_isPackedWalkSafe 30 = .ok (.lload_n 1, 1) := by decide +kernel
theorem d_G_isPackedWalkSafe_31 : decode c_G_isPackedWalkSafe 31 = .ok (.iload_n 3, 1) := by decide +kernel
theorem d_G_isPackedWalkSafe_32 : decode c_G_isPackedWalkSafe 32 = .ok (.iload 4, 2) := by decide +kernel
theorem d_G_isPackedWalkSafe_34 : decode c_G_isPackedWalkSafe 34 = .ok (.invokestatic 160, 3) := by decide +kernel
theorem d_G_isPackedWalkSafe_37 : decode c_G_isPackedWalkSafe 37 = .ok (.invokevirtual 164, 3) := by decide +kernel
theorem d_G_isPackedWalkSafe_40 : decode c_G_isPackedWalkSafe 40 = .ok (.ifCond .eq 5, 3) := by decide +kernel
theorem d_G_isPackedWalkSafe_43 : decode c_G_isPackedWalkSafe 43 = .ok (.iconst 0, 1) := by decide +kernel
theorem d_G_isPackedWalkSafe_44 : decode c_G_isPackedWalkSafe 44 = .ok (.ireturn, 1) := by decide +kernel
theorem d_G_isPackedWalkSafe_45 : decode c_G_isPackedWalkSafe 45 = .ok (.iinc 5 1, 3) := by decide +kernel
theorem d_G_isPackedWalkSafe_48 : decode c_G_isPackedWalkSafe 48 = .ok (.goto (-36), 3) := by decide +kernel
theorem d_G_isPackedWalkSafe_51 : decode c_G_isPackedWalkSafe 51 = .ok (.iinc 4 1, 3) := by decide +kernel
theorem d_G_isPackedWalkSafe_54 : decode c_G_isPackedWalkSafe 54 = .ok (.goto (-51), 3) := by decide +kernel
theorem d_G_isPackedWalkSafe_57 : decode c_G_isPackedWalkSafe 57 = .ok (.iconst 1, 1) := by decide +kernel
theorem d_G_isPackedWalkSafe_58 : decode c_G_isPackedWalkSafe 58 = .ok (.ireturn, 1) := by decide +kernel
abbrev c_G_packedEdge : ByteArray := prog_1_method_20_code
def y_G_packedEdge : MethodName := ⟨"ReadGraph", "packedEdge", "(JII)I"⟩
theorem d_G_packedEdge_0 : decode c_G_packedEdge 0 = .ok (.lload_n 0, 1) := by decide +kernel
theorem d_G_packedEdge_1 : decode c_G_packedEdge 1 = .ok (.bipush 8, 2) := by decide +kernel
theorem d_G_packedEdge_3 : decode c_G_packedEdge 3 = .ok (.iload_n 2, 1) := by decide +kernel
theorem d_G_packedEdge_4 : decode c_G_packedEdge 4 = .ok (.iconst 1, 1) := by decide +kernel
theorem d_G_packedEdge_5 : decode c_G_packedEdge 5 = .ok (.isub, 1) := by decide +kernel
theorem d_G_packedEdge_6 : decode c_G_packedEdge 6 = .ok (.iload_n 3, 1) := by decide +kernel
theorem d_G_packedEdge_7 : decode c_G_packedEdge 7 = .ok (.isub, 1) := by decide +kernel
theorem d_G_packedEdge_8 : decode c_G_packedEdge 8 = .ok (.imul, 1) := by decide +kernel
theorem d_G_packedEdge_9 : decode c_G_packedEdge 9 = .ok (.lushr, 1) := by decide +kernel
theorem d_G_packedEdge_10 : decode c_G_packedEdge 10 = .ok (.l2i, 1) := by decide +kernel
theorem d_G_packedEdge_11 : decode c_G_packedEdge 11 = .ok (.sipush 255, 3) := by decide +kernel
theorem d_G_packedEdge_14 : decode c_G_packedEdge 14 = .ok (.iand, 1) := by decide +kernel
theorem d_G_packedEdge_15 : decode c_G_packedEdge 15 = .ok (.ireturn, 1) := by decide +kernel
abbrev c_G_spelledLength : ByteArray := prog_1_method_21_code
def y_G_spelledLength : MethodName := ⟨"ReadGraph", "spelledLength", "(I)I"⟩
theorem d_G_spelledLength_0 : decode c_G_spelledLength 0 = .ok (.aload_n 0, 1) := by decide +kernel
theorem d_G_spelledLength_1 : decode c_G_spelledLength 1 = .ok (.getfield 12, 3) := by decide +kernel
theorem d_G_spelledLength_4 : decode c_G_spelledLength 4 = .ok (.getfield 61, 3) := by decide +kernel
theorem d_G_spelledLength_7 : decode c_G_spelledLength 7 = .ok (.aload_n 0, 1) := by decide +kernel
theorem d_G_spelledLength_8 : decode c_G_spelledLength 8 = .ok (.getfield 19, 3) := by decide +kernel
theorem d_G_spelledLength_11 : decode c_G_spelledLength 11 = .ok (.getfield 103, 3) := by decide +kernel
theorem d_G_spelledLength_14 : decode c_G_spelledLength 14 = .ok (.aload_n 0, 1) := by decide +kernel
theorem d_G_spelledLength_15 : decode c_G_spelledLength 15 = .ok (.getfield 28, 3) := by decide +kernel
theorem d_G_spelledLength_18 : decode c_G_spelledLength 18 = .ok (.iload_n 1, 1) := by decide +kernel
theorem d_G_spelledLength_19 : decode c_G_spelledLength 19 = .ok (.iconst 0, 1) := by decide +kernel
theorem d_G_spelledLength_20 : decode c_G_spelledLength 20 = .ok (.invokevirtual 147, 3) := by decide +kernel
theorem d_G_spelledLength_23 : decode c_G_spelledLength 23 = .ok (.iaload, 1) := by decide +kernel
theorem d_G_spelledLength_24 : decode c_G_spelledLength 24 = .ok (.iaload, 1) := by decide +kernel
theorem d_G_spelledLength_25 : decode c_G_spelledLength 25 = .ok (.istore_n 2, 1) := by decide +kernel
theorem d_G_spelledLength_26 : decode c_G_spelledLength 26 = .ok (.iconst 0, 1) := by decide +kernel
theorem d_G_spelledLength_27 : decode c_G_spelledLength 27 = .ok (.istore_n 3, 1) := by decide +kernel
theorem d_G_spelledLength_28 : decode c_G_spelledLength 28 = .ok (.iload_n 3, 1) := by decide +kernel
theorem d_G_spelledLength_29 : decode c_G_spelledLength 29 = .ok (.aload_n 0, 1) := by decide +kernel
theorem d_G_spelledLength_30 : decode c_G_spelledLength 30 = .ok (.getfield 28, 3) := by decide +kernel
theorem d_G_spelledLength_33 : decode c_G_spelledLength 33 = .ok (.getfield 146, 3) := by decide +kernel
theorem d_G_spelledLength_36 : decode c_G_spelledLength 36 = .ok (.iload_n 1, 1) := by decide +kernel
theorem d_G_spelledLength_37 : decode c_G_spelledLength 37 = .ok (.iaload, 1) := by decide +kernel
theorem d_G_spelledLength_38 : decode c_G_spelledLength 38 = .ok (.if_icmp .ge 29, 3) := by decide +kernel
theorem d_G_spelledLength_41 : decode c_G_spelledLength 41 = .ok (.iload_n 2, 1) := by decide +kernel
theorem d_G_spelledLength_42 : decode c_G_spelledLength 42 = .ok (.aload_n 0, 1) := by decide +kernel
theorem d_G_spelledLength_43 : decode c_G_spelledLength 43 = .ok (.getfield 19, 3) := by decide +kernel
theorem d_G_spelledLength_46 : decode c_G_spelledLength 46 = .ok (.getfield 109, 3) := by decide +kernel
theorem d_G_spelledLength_49 : decode c_G_spelledLength 49 = .ok (.aload_n 0, 1) := by decide +kernel
theorem d_G_spelledLength_50 : decode c_G_spelledLength 50 = .ok (.getfield 28, 3) := by decide +kernel
theorem d_G_spelledLength_53 : decode c_G_spelledLength 53 = .ok (.iload_n 1, 1) := by decide +kernel
theorem d_G_spelledLength_54 : decode c_G_spelledLength 54 = .ok (.iload_n 3, 1) := by decide +kernel
theorem d_G_spelledLength_55 : decode c_G_spelledLength 55 = .ok (.invokevirtual 147, 3) := by decide +kernel
theorem d_G_spelledLength_58 : decode c_G_spelledLength 58 = .ok (.iaload, 1) := by decide +kernel
theorem d_G_spelledLength_59 : decode c_G_spelledLength 59 = .ok (.iadd, 1) := by decide +kernel
theorem d_G_spelledLength_60 : decode c_G_spelledLength 60 = .ok (.istore_n 2, 1) := by decide +kernel
theorem d_G_spelledLength_61 : decode c_G_spelledLength 61 = .ok (.iinc 3 1, 3) := by decide +kernel
theorem d_G_spelledLength_64 : decode c_G_spelledLength 64 = .ok (.goto (-36), 3) := by decide +kernel
theorem d_G_spelledLength_67 : decode c_G_spelledLength 67 = .ok (.iload_n 2, 1) := by decide +kernel
theorem d_G_spelledLength_68 : decode c_G_spelledLength 68 = .ok (.ireturn, 1) := by decide +kernel
abbrev c_G_spelledLetter : ByteArray := prog_1_method_22_code
def y_G_spelledLetter : MethodName := ⟨"ReadGraph", "spelledLetter", "(II)I"⟩
theorem d_G_spelledLetter_0 : decode c_G_spelledLetter 0 = .ok (.aload_n 0, 1) := by decide +kernel
theorem d_G_spelledLetter_1 : decode c_G_spelledLetter 1 = .ok (.getfield 19, 3) := by decide +kernel
theorem d_G_spelledLetter_4 : decode c_G_spelledLetter 4 = .ok (.getfield 103, 3) := by decide +kernel
theorem d_G_spelledLetter_7 : decode c_G_spelledLetter 7 = .ok (.aload_n 0, 1) := by decide +kernel
theorem d_G_spelledLetter_8 : decode c_G_spelledLetter 8 = .ok (.getfield 28, 3) := by decide +kernel
theorem d_G_spelledLetter_11 : decode c_G_spelledLetter 11 = .ok (.iload_n 1, 1) := by decide +kernel
theorem d_G_spelledLetter_12 : decode c_G_spelledLetter 12 = .ok (.iconst 0, 1) := by decide +kernel
theorem d_G_spelledLetter_13 : decode c_G_spelledLetter 13 = .ok (.invokevirtual 147, 3) := by decide +kernel
theorem d_G_spelledLetter_16 : decode c_G_spelledLetter 16 = .ok (.iaload, 1) := by decide +kernel
theorem d_G_spelledLetter_17 : decode c_G_spelledLetter 17 = .ok (.istore_n 3, 1) := by decide +kernel
theorem d_G_spelledLetter_18 : decode c_G_spelledLetter 18 = .ok (.iload_n 2, 1) := by decide +kernel
theorem d_G_spelledLetter_19 : decode c_G_spelledLetter 19 = .ok (.aload_n 0, 1) := by decide +kernel
theorem d_G_spelledLetter_20 : decode c_G_spelledLetter 20 = .ok (.getfield 12, 3) := by decide +kernel
theorem d_G_spelledLetter_23 : decode c_G_spelledLetter 23 = .ok (.getfield 61, 3) := by decide +kernel
theorem d_G_spelledLetter_26 : decode c_G_spelledLetter 26 = .ok (.iload_n 3, 1) := by decide +kernel
theorem d_G_spelledLetter_27 : decode c_G_spelledLetter 27 = .ok (.iaload, 1) := by decide +kernel
theorem d_G_spelledLetter_28 : decode c_G_spelledLetter 28 = .ok (.if_icmp .ge 13, 3) := by decide +kernel
theorem d_G_spelledLetter_31 : decode c_G_spelledLetter 31 = .ok (.aload_n 0, 1) := by decide +kernel
theorem d_G_spelledLetter_32 : decode c_G_spelledLetter 32 = .ok (.getfield 12, 3) := by decide +kernel
theorem d_G_spelledLetter_35 : decode c_G_spelledLetter 35 = .ok (.iload_n 3, 1) := by decide +kernel
theorem d_G_spelledLetter_36 : decode c_G_spelledLetter 36 = .ok (.iload_n 2, 1) := by decide +kernel
theorem d_G_spelledLetter_37 : decode c_G_spelledLetter 37 = .ok (.invokevirtual 70, 3) := by decide +kernel
theorem d_G_spelledLetter_40 : decode c_G_spelledLetter 40 = .ok (.ireturn, 1) := by decide +kernel
theorem d_G_spelledLetter_41 : decode c_G_spelledLetter 41 = .ok (.iload_n 2, 1) := by decide +kernel
theorem d_G_spelledLetter_42 : decode c_G_spelledLetter 42 = .ok (.aload_n 0, 1) := by decide +kernel
theorem d_G_spelledLetter_43 : decode c_G_spelledLetter 43 = .ok (.getfield 12, 3) := by decide +kernel
theorem d_G_spelledLetter_46 : decode c_G_spelledLetter 46 = .ok (.getfield 61, 3) := by decide +kernel
theorem d_G_spelledLetter_49 : decode c_G_spelledLetter 49 = .ok (.iload_n 3, 1) := by decide +kernel
theorem d_G_spelledLetter_50 : decode c_G_spelledLetter 50 = .ok (.iaload, 1) := by decide +kernel
theorem d_G_spelledLetter_51 : decode c_G_spelledLetter 51 = .ok (.isub, 1) := by decide +kernel
theorem d_G_spelledLetter_52 : decode c_G_spelledLetter 52 = .ok (.istore 4, 2) := by decide +kernel
theorem d_G_spelledLetter_54 : decode c_G_spelledLetter 54 = .ok (.iconst 0, 1) := by decide +kernel
theorem d_G_spelledLetter_55 : decode c_G_spelledLetter 55 = .ok (.istore 5, 2) := by decide +kernel
theorem d_G_spelledLetter_57 : decode c_G_spelledLetter 57 = .ok (.iload 5, 2) := by decide +kernel
theorem d_G_spelledLetter_59 : decode c_G_spelledLetter 59 = .ok (.aload_n 0, 1) := by decide +kernel
theorem d_G_spelledLetter_60 : decode c_G_spelledLetter 60 = .ok (.getfield 28, 3) := by decide +kernel
theorem d_G_spelledLetter_63 : decode c_G_spelledLetter 63 = .ok (.getfield 146, 3) := by decide +kernel
theorem d_G_spelledLetter_66 : decode c_G_spelledLetter 66 = .ok (.iload_n 1, 1) := by decide +kernel
theorem d_G_spelledLetter_67 : decode c_G_spelledLetter 67 = .ok (.iaload, 1) := by decide +kernel
theorem d_G_spelledLetter_68 : decode c_G_spelledLetter 68 = .ok (.if_icmp .ge 97, 3) := by decide +kernel
theorem d_G_spelledLetter_71 : decode c_G_spelledLetter 71 = .ok (.aload_n 0, 1) := by decide +kernel
theorem d_G_spelledLetter_72 : decode c_G_spelledLetter 72 = .ok (.getfield 28, 3) := by decide +kernel
theorem d_G_spelledLetter_75 : decode c_G_spelledLetter 75 = .ok (.iload_n 1, 1) := by decide +kernel
theorem d_G_spelledLetter_76 : decode c_G_spelledLetter 76 = .ok (.iload 5, 2) := by decide +kernel
theorem d_G_spelledLetter_78 : decode c_G_spelledLetter 78 = .ok (.invokevirtual 147, 3) := by decide +kernel
theorem d_G_spelledLetter_81 : decode c_G_spelledLetter 81 = .ok (.istore 6, 2) := by decide +kernel
theorem d_G_spelledLetter_83 : decode c_G_spelledLetter 83 = .ok (.aload_n 0, 1) := by decide +kernel
theorem d_G_spelledLetter_84 : decode c_G_spelledLetter 84 = .ok (.getfield 19, 3) := by decide +kernel
theorem d_G_spelledLetter_87 : decode c_G_spelledLetter 87 = .ok (.getfield 106, 3) := by decide +kernel
theorem d_G_spelledLetter_90 : decode c_G_spelledLetter 90 = .ok (.iload 6, 2) := by decide +kernel
theorem d_G_spelledLetter_92 : decode c_G_spelledLetter 92 = .ok (.iaload, 1) := by decide +kernel
theorem d_G_spelledLetter_93 : decode c_G_spelledLetter 93 = .ok (.istore 7, 2) := by decide +kernel
theorem d_G_spelledLetter_95 : decode c_G_spelledLetter 95 = .ok (.iload 4, 2) := by decide +kernel
theorem d_G_spelledLetter_97 : decode c_G_spelledLetter 97 = .ok (.aload_n 0, 1) := by decide +kernel
theorem d_G_spelledLetter_98 : decode c_G_spelledLetter 98 = .ok (.getfield 19, 3) := by decide +kernel
theorem d_G_spelledLetter_101 : decode c_G_spelledLetter 101 = .ok (.getfield 109, 3) := by decide +kernel
theorem d_G_spelledLetter_104 : decode c_G_spelledLetter 104 = .ok (.iload 6, 2) := by decide +kernel
theorem d_G_spelledLetter_106 : decode c_G_spelledLetter 106 = .ok (.iaload, 1) := by decide +kernel
theorem d_G_spelledLetter_107 : decode c_G_spelledLetter 107 = .ok (.if_icmp .ge 37, 3) := by decide +kernel
theorem d_G_spelledLetter_110 : decode c_G_spelledLetter 110 = .ok (.aload_n 0, 1) := by decide +kernel
theorem d_G_spelledLetter_111 : decode c_G_spelledLetter 111 = .ok (.getfield 12, 3) := by decide +kernel
theorem d_G_spelledLetter_114 : decode c_G_spelledLetter 114 = .ok (.iload 7, 2) := by decide +kernel
theorem d_G_spelledLetter_116 : decode c_G_spelledLetter 116 = .ok (.aload_n 0, 1) := by decide +kernel
theorem d_G_spelledLetter_117 : decode c_G_spelledLetter 117 = .ok (.getfield 12, 3) := by decide +kernel
theorem d_G_spelledLetter_120 : decode c_G_spelledLetter 120 = .ok (.getfield 61, 3) := by decide +kernel
theorem d_G_spelledLetter_123 : decode c_G_spelledLetter 123 = .ok (.iload 7, 2) := by decide +kernel
theorem d_G_spelledLetter_125 : decode c_G_spelledLetter 125 = .ok (.iaload, 1) := by decide +kernel
theorem d_G_spelledLetter_126 : decode c_G_spelledLetter 126 = .ok (.aload_n 0, 1) := by decide +kernel
theorem d_G_spelledLetter_127 : decode c_G_spelledLetter 127 = .ok (.getfield 19, 3) := by decide +kernel
theorem d_G_spelledLetter_130 : decode c_G_spelledLetter 130 = .ok (.getfield 109, 3) := by decide +kernel
theorem d_G_spelledLetter_133 : decode c_G_spelledLetter 133 = .ok (.iload 6, 2) := by decide +kernel
theorem d_G_spelledLetter_135 : decode c_G_spelledLetter 135 = .ok (.iaload, 1) := by decide +kernel
theorem d_G_spelledLetter_136 : decode c_G_spelledLetter 136 = .ok (.isub, 1) := by decide +kernel
theorem d_G_spelledLetter_137 : decode c_G_spelledLetter 137 = .ok (.iload 4, 2) := by decide +kernel
theorem d_G_spelledLetter_139 : decode c_G_spelledLetter 139 = .ok (.iadd, 1) := by decide +kernel
theorem d_G_spelledLetter_140 : decode c_G_spelledLetter 140 = .ok (.invokevirtual 70, 3) := by decide +kernel
theorem d_G_spelledLetter_143 : decode c_G_spelledLetter 143 = .ok (.ireturn, 1) := by decide +kernel
theorem d_G_spelledLetter_144 : decode c_G_spelledLetter 144 = .ok (.iload 4, 2) := by decide +kernel
theorem d_G_spelledLetter_146 : decode c_G_spelledLetter 146 = .ok (.aload_n 0, 1) := by decide +kernel
theorem d_G_spelledLetter_147 : decode c_G_spelledLetter 147 = .ok (.getfield 19, 3) := by decide +kernel
theorem d_G_spelledLetter_150 : decode c_G_spelledLetter 150 = .ok (.getfield 109, 3) := by decide +kernel
theorem d_G_spelledLetter_153 : decode c_G_spelledLetter 153 = .ok (.iload 6, 2) := by decide +kernel
theorem d_G_spelledLetter_155 : decode c_G_spelledLetter 155 = .ok (.iaload, 1) := by decide +kernel
theorem d_G_spelledLetter_156 : decode c_G_spelledLetter 156 = .ok (.isub, 1) := by decide +kernel
theorem d_G_spelledLetter_157 : decode c_G_spelledLetter 157 = .ok (.istore 4, 2) := by decide +kernel
theorem d_G_spelledLetter_159 : decode c_G_spelledLetter 159 = .ok (.iinc 5 1, 3) := by decide +kernel
theorem d_G_spelledLetter_162 : decode c_G_spelledLetter 162 = .ok (.goto (-105), 3) := by decide +kernel
theorem d_G_spelledLetter_165 : decode c_G_spelledLetter 165 = .ok (.iconst 0, 1) := by decide +kernel
theorem d_G_spelledLetter_166 : decode c_G_spelledLetter 166 = .ok (.ireturn, 1) := by decide +kernel
abbrev c_G_holds : ByteArray := prog_1_method_23_code
def y_G_holds : MethodName := ⟨"ReadGraph", "holds", "(II)Z"⟩
theorem d_G_holds_0 : decode c_G_holds 0 = .ok (.iload_n 0, 1) := by decide +kernel
theorem d_G_holds_1 : decode c_G_holds 1 = .ok (.iload_n 1, 1) := by decide +kernel
theorem d_G_holds_2 : decode c_G_holds 2 = .ok (.ishr, 1) := by decide +kernel
theorem d_G_holds_3 : decode c_G_holds 3 = .ok (.iconst 1, 1) := by decide +kernel
theorem d_G_holds_4 : decode c_G_holds 4 = .ok (.iand, 1) := by decide +kernel
theorem d_G_holds_5 : decode c_G_holds 5 = .ok (.ifCond .eq 7, 3) := by decide +kernel
theorem d_G_holds_8 : decode c_G_holds 8 = .ok (.iconst 1, 1) := by decide +kernel
theorem d_G_holds_9 : decode c_G_holds 9 = .ok (.goto 4, 3) := by decide +kernel
theorem d_G_holds_12 : decode c_G_holds 12 = .ok (.iconst 0, 1) := by decide +kernel
theorem d_G_holds_13 : decode c_G_holds 13 = .ok (.ireturn, 1) := by decide +kernel
abbrev c_R_init : ByteArray := prog_3_method_1_code
def y_R_init : MethodName := ⟨"ReadGraph$Reads", "<init>", "()V"⟩
theorem d_R_init_0 : decode c_R_init 0 = .ok (.aload_n 0, 1) := by decide +kernel
theorem d_R_init_1 : decode c_R_init 1 = .ok (.invokespecial 3, 3) := by decide +kernel
theorem d_R_init_4 : decode c_R_init 4 = .ok (.aload_n 0, 1) := by decide +kernel
theorem d_R_init_5 : decode c_R_init 5 = .ok (.bipush 9, 2) := by decide +kernel
theorem d_R_init_7 : decode c_R_init 7 = .ok (.newarray .int, 2) := by decide +kernel
theorem d_R_init_9 : decode c_R_init 9 = .ok (.putfield 9, 3) := by decide +kernel
theorem d_R_init_12 : decode c_R_init 12 = .ok (.aload_n 0, 1) := by decide +kernel
theorem d_R_init_13 : decode c_R_init 13 = .ok (.bipush 9, 2) := by decide +kernel
theorem d_R_init_15 : decode c_R_init 15 = .ok (.newarray .int, 2) := by decide +kernel
theorem d_R_init_17 : decode c_R_init 17 = .ok (.putfield 15, 3) := by decide +kernel
theorem d_R_init_20 : decode c_R_init 20 = .ok (.return_, 1) := by decide +kernel
abbrev c_R_add : ByteArray := prog_3_method_2_code
def y_R_add : MethodName := ⟨"ReadGraph$Reads", "add", "(II)I"⟩
theorem d_R_add_0 : decode c_R_add 0 = .ok (.aload_n 0, 1) := by decide +kernel
theorem d_R_add_1 : decode c_R_add 1 = .ok (.getfield 9, 3) := by decide +kernel
theorem d_R_add_4 : decode c_R_add 4 = .ok (.aload_n 0, 1) := by decide +kernel
theorem d_R_add_5 : decode c_R_add 5 = .ok (.getfield 18, 3) := by decide +kernel
theorem d_R_add_8 : decode c_R_add 8 = .ok (.iload_n 1, 1) := by decide +kernel
theorem d_R_add_9 : decode c_R_add 9 = .ok (.iload_n 2, 1) := by decide +kernel
theorem d_R_add_10 : decode c_R_add 10 = .ok (.invokestatic 22, 3) := by decide +kernel
theorem d_R_add_13 : decode c_R_add 13 = .ok (.iastore, 1) := by decide +kernel
theorem d_R_add_14 : decode c_R_add 14 = .ok (.aload_n 0, 1) := by decide +kernel
theorem d_R_add_15 : decode c_R_add 15 = .ok (.getfield 15, 3) := by decide +kernel
theorem d_R_add_18 : decode c_R_add 18 = .ok (.aload_n 0, 1) := by decide +kernel
theorem d_R_add_19 : decode c_R_add 19 = .ok (.getfield 18, 3) := by decide +kernel
theorem d_R_add_22 : decode c_R_add 22 = .ok (.iload_n 2, 1) := by decide +kernel
theorem d_R_add_23 : decode c_R_add 23 = .ok (.iastore, 1) := by decide +kernel
theorem d_R_add_24 : decode c_R_add 24 = .ok (.aload_n 0, 1) := by decide +kernel
theorem d_R_add_25 : decode c_R_add 25 = .ok (.dup, 1) := by decide +kernel
theorem d_R_add_26 : decode c_R_add 26 = .ok (.getfield 18, 3) := by decide +kernel
theorem d_R_add_29 : decode c_R_add 29 = .ok (.iconst 1, 1) := by decide +kernel
theorem d_R_add_30 : decode c_R_add 30 = .ok (.iadd, 1) := by decide +kernel
theorem d_R_add_31 : decode c_R_add 31 = .ok (.putfield 18, 3) := by decide +kernel
theorem d_R_add_34 : decode c_R_add 34 = .ok (.aload_n 0, 1) := by decide +kernel
theorem d_R_add_35 : decode c_R_add 35 = .ok (.getfield 18, 3) := by decide +kernel
theorem d_R_add_38 : decode c_R_add 38 = .ok (.iconst 1, 1) := by decide +kernel
theorem d_R_add_39 : decode c_R_add 39 = .ok (.isub, 1) := by decide +kernel
theorem d_R_add_40 : decode c_R_add 40 = .ok (.ireturn, 1) := by decide +kernel
abbrev c_R_has : ByteArray := prog_3_method_3_code
def y_R_has : MethodName := ⟨"ReadGraph$Reads", "has", "(I)Z"⟩
theorem d_R_has_0 : decode c_R_has 0 = .ok (.iload_n 1, 1) := by decide +kernel
theorem d_R_has_1 : decode c_R_has 1 = .ok (.ifCond .lt 15, 3) := by decide +kernel
theorem d_R_has_4 : decode c_R_has 4 = .ok (.iload_n 1, 1) := by decide +kernel
theorem d_R_has_5 : decode c_R_has 5 = .ok (.aload_n 0, 1) := by decide +kernel
theorem d_R_has_6 : decode c_R_has 6 = .ok (.getfield 18, 3) := by decide +kernel
theorem d_R_has_9 : decode c_R_has 9 = .ok (.if_icmp .ge 7, 3) := by decide +kernel
theorem d_R_has_12 : decode c_R_has 12 = .ok (.iconst 1, 1) := by decide +kernel
theorem d_R_has_13 : decode c_R_has 13 = .ok (.goto 4, 3) := by decide +kernel
theorem d_R_has_16 : decode c_R_has 16 = .ok (.iconst 0, 1) := by decide +kernel
theorem d_R_has_17 : decode c_R_has 17 = .ok (.ireturn, 1) := by decide +kernel
abbrev c_R_letterAt : ByteArray := prog_3_method_4_code
def y_R_letterAt : MethodName := ⟨"ReadGraph$Reads", "letterAt", "(II)I"⟩
theorem d_R_letterAt_0 : decode c_R_letterAt 0 = .ok (.aload_n 0, 1) := by decide +kernel
theorem d_R_letterAt_1 : decode c_R_letterAt 1 = .ok (.getfield 9, 3) := by decide +kernel
theorem d_R_letterAt_4 : decode c_R_letterAt 4 = .ok (.iload_n 1, 1) := by decide +kernel
theorem d_R_letterAt_5 : decode c_R_letterAt 5 = .ok (.iaload, 1) := by decide +kernel
theorem d_R_letterAt_6 : decode c_R_letterAt 6 = .ok (.iconst 2, 1) := by decide +kernel
theorem d_R_letterAt_7 : decode c_R_letterAt 7 = .ok (.aload_n 0, 1) := by decide +kernel
theorem d_R_letterAt_8 : decode c_R_letterAt 8 = .ok (.getfield 15, 3) := by decide +kernel
theorem d_R_letterAt_11 : decode c_R_letterAt 11 = .ok (.iload_n 1, 1) := by decide +kernel
theorem d_R_letterAt_12 : decode c_R_letterAt 12 = .ok (.iaload, 1) := by decide +kernel
theorem d_R_letterAt_13 : decode c_R_letterAt 13 = .ok (.iconst 1, 1) := by decide +kernel
theorem d_R_letterAt_14 : decode c_R_letterAt 14 = .ok (.isub, 1) := by decide +kernel
theorem d_R_letterAt_15 : decode c_R_letterAt 15 = .ok (.iload_n 2, 1) := by decide +kernel
theorem d_R_letterAt_16 : decode c_R_letterAt 16 = .ok (.isub, 1) := by decide +kernel
theorem d_R_letterAt_17 : decode c_R_letterAt 17 = .ok (.imul, 1) := by decide +kernel
theorem d_R_letterAt_18 : decode c_R_letterAt 18 = .ok (.ishr, 1) := by decide +kernel
theorem d_R_letterAt_19 : decode c_R_letterAt 19 = .ok (.iconst 3, 1) := by decide +kernel
theorem d_R_letterAt_20 : decode c_R_letterAt 20 = .ok (.iand, 1) := by decide +kernel
theorem d_R_letterAt_21 : decode c_R_letterAt 21 = .ok (.ireturn, 1) := by decide +kernel
abbrev c_R_isNode : ByteArray := prog_3_method_5_code
def y_R_isNode : MethodName := ⟨"ReadGraph$Reads", "isNode", "(I)Z"⟩
theorem d_R_isNode_0 : decode c_R_isNode 0 = .ok (.aload_n 0, 1) := by decide +kernel
theorem d_R_isNode_1 : decode c_R_isNode 1 = .ok (.iload_n 1, 1) := by decide +kernel
theorem d_R_isNode_2 : decode c_R_isNode 2 = .ok (.invokevirtual 26, 3) := by decide +kernel
theorem d_R_isNode_5 : decode c_R_isNode 5 = .ok (.ifCond .ne 5, 3) := by decide +kernel
theorem d_R_isNode_8 : decode c_R_isNode 8 = .ok (.iconst 0, 1) := by decide +kernel
theorem d_R_isNode_9 : decode c_R_isNode 9 = .ok (.ireturn, 1) := by decide +kernel
theorem d_R_isNode_10 : decode c_R_isNode 10 = .ok (.iconst 0, 1) := by decide +kernel
theorem d_R_isNode_11 : decode c_R_isNode 11 = .ok (.istore_n 2, 1) := by decide +kernel
theorem d_R_isNode_12 : decode c_R_isNode 12 = .ok (.iload_n 2, 1) := by decide +kernel
theorem d_R_isNode_13 : decode c_R_isNode 13 = .ok (.aload_n 0, 1) := by decide +kernel
theorem d_R_isNode_14 : decode c_R_isNode 14 = .ok (.getfield 18, 3) := by decide +kernel
theorem d_R_isNode_17 : decode c_R_isNode 17 = .ok (.if_icmp .ge 20, 3) := by decide +kernel
theorem d_R_isNode_20 : decode c_R_isNode 20 = .ok (.aload_n 0, 1) := by decide +kernel
theorem d_R_isNode_21 : decode c_R_isNode 21 = .ok (.iload_n 1, 1) := by decide +kernel
theorem d_R_isNode_22 : decode c_R_isNode 22 = .ok (.iload_n 2, 1) := by decide +kernel
theorem d_R_isNode_23 : decode c_R_isNode 23 = .ok (.invokevirtual 30, 3) := by decide +kernel
theorem d_R_isNode_26 : decode c_R_isNode 26 = .ok (.ifCond .eq 5, 3) := by decide +kernel
theorem d_R_isNode_29 : decode c_R_isNode 29 = .ok (.iconst 0, 1) := by decide +kernel
theorem d_R_isNode_30 : decode c_R_isNode 30 = .ok (.ireturn, 1) := by decide +kernel
theorem d_R_isNode_31 : decode c_R_isNode 31 = .ok (.iinc 2 1, 3) := by decide +kernel
theorem d_R_isNode_34 : decode c_R_isNode 34 = .ok (.goto (-22), 3) := by decide +kernel
theorem d_R_isNode_37 : decode c_R_isNode 37 = .ok (.iconst 1, 1) := by decide +kernel
theorem d_R_isNode_38 : decode c_R_isNode 38 = .ok (.ireturn, 1) := by decide +kernel
abbrev c_R_isSaidBy : ByteArray := prog_3_method_6_code
def y_R_isSaidBy : MethodName := ⟨"ReadGraph$Reads", "isSaidBy", "(II)Z"⟩
theorem d_R_isSaidBy_0 : decode c_R_isSaidBy 0 = .ok (.aload_n 0, 1) := by decide +kernel
theorem d_R_isSaidBy_1 : decode c_R_isSaidBy 1 = .ok (.getfield 15, 3) := by decide +kernel
theorem d_R_isSaidBy_4 : decode c_R_isSaidBy 4 = .ok (.iload_n 2, 1) := by decide +kernel
theorem d_R_isSaidBy_5 : decode c_R_isSaidBy 5 = .ok (.iaload, 1) := by decide +kernel
theorem d_R_isSaidBy_6 : decode c_R_isSaidBy 6 = .ok (.aload_n 0, 1) := by decide +kernel
theorem d_R_isSaidBy_7 : decode c_R_isSaidBy 7 = .ok (.getfield 15, 3) := by decide +kernel
theorem d_R_isSaidBy_10 : decode c_R_isSaidBy 10 = .ok (.iload_n 1, 1) := by decide +kernel
theorem d_R_isSaidBy_11 : decode c_R_isSaidBy 11 = .ok (.iaload, 1) := by decide +kernel
theorem d_R_isSaidBy_12 : decode c_R_isSaidBy 12 = .ok (.if_icmp .ne 29, 3) := by decide +kernel
theorem d_R_isSaidBy_15 : decode c_R_isSaidBy 15 = .ok (.iload_n 2, 1) := by decide +kernel
theorem d_R_isSaidBy_16 : decode c_R_isSaidBy 16 = .ok (.iload_n 1, 1) := by decide +kernel
theorem d_R_isSaidBy_17 : decode c_R_isSaidBy 17 = .ok (.if_icmp .ge 22, 3) := by decide +kernel
theorem d_R_isSaidBy_20 : decode c_R_isSaidBy 20 = .ok (.aload_n 0, 1) := by decide +kernel
theorem d_R_isSaidBy_21 : decode c_R_isSaidBy 21 = .ok (.getfield 9, 3) := by decide +kernel
theorem d_R_isSaidBy_24 : decode c_R_isSaidBy 24 = .ok (.iload_n 2, 1) := by decide +kernel
theorem d_R_isSaidBy_25 : decode c_R_isSaidBy 25 = .ok (.iaload, 1) := by decide +kernel
theorem d_R_isSaidBy_26 : decode c_R_isSaidBy 26 = .ok (.aload_n 0, 1) := by decide +kernel
theorem d_R_isSaidBy_27 : decode c_R_isSaidBy 27 = .ok (.getfield 9, 3) := by decide +kernel
theorem d_R_isSaidBy_30 : decode c_R_isSaidBy 30 = .ok (.iload_n 1, 1) := by decide +kernel
theorem d_R_isSaidBy_31 : decode c_R_isSaidBy 31 = .ok (.iaload, 1) := by decide +kernel
theorem d_R_isSaidBy_32 : decode c_R_isSaidBy 32 = .ok (.if_icmp .ne 7, 3) := by decide +kernel
theorem d_R_isSaidBy_35 : decode c_R_isSaidBy 35 = .ok (.iconst 1, 1) := by decide +kernel
theorem d_R_isSaidBy_36 : decode c_R_isSaidBy 36 = .ok (.goto 4, 3) := by decide +kernel
theorem d_R_isSaidBy_39 : decode c_R_isSaidBy 39 = .ok (.iconst 0, 1) := by decide +kernel
theorem d_R_isSaidBy_40 : decode c_R_isSaidBy 40 = .ok (.ireturn, 1) := by decide +kernel
theorem d_R_isSaidBy_41 : decode c_R_isSaidBy 41 = .ok (.aload_n 0, 1) := by decide +kernel
theorem d_R_isSaidBy_42 : decode c_R_isSaidBy 42 = .ok (.getfield 15, 3) := by decide +kernel
theorem d_R_isSaidBy_45 : decode c_R_isSaidBy 45 = .ok (.iload_n 2, 1) := by decide +kernel
theorem d_R_isSaidBy_46 : decode c_R_isSaidBy 46 = .ok (.iaload, 1) := by decide +kernel
theorem d_R_isSaidBy_47 : decode c_R_isSaidBy 47 = .ok (.aload_n 0, 1) := by decide +kernel
theorem d_R_isSaidBy_48 : decode c_R_isSaidBy 48 = .ok (.getfield 15, 3) := by decide +kernel
theorem d_R_isSaidBy_51 : decode c_R_isSaidBy 51 = .ok (.iload_n 1, 1) := by decide +kernel
theorem d_R_isSaidBy_52 : decode c_R_isSaidBy 52 = .ok (.iaload, 1) := by decide +kernel
theorem d_R_isSaidBy_53 : decode c_R_isSaidBy 53 = .ok (.isub, 1) := by decide +kernel
theorem d_R_isSaidBy_54 : decode c_R_isSaidBy 54 = .ok (.istore_n 3, 1) := by decide +kernel
theorem d_R_isSaidBy_55 : decode c_R_isSaidBy 55 = .ok (.iload_n 3, 1) := by decide +kernel
theorem d_R_isSaidBy_56 : decode c_R_isSaidBy 56 = .ok (.ifCond .lt 39, 3) := by decide +kernel
theorem d_R_isSaidBy_59 : decode c_R_isSaidBy 59 = .ok (.aload_n 0, 1) := by decide +kernel
theorem d_R_isSaidBy_60 : decode c_R_isSaidBy 60 = .ok (.getfield 9, 3) := by decide +kernel
theorem d_R_isSaidBy_63 : decode c_R_isSaidBy 63 = .ok (.iload_n 2, 1) := by decide +kernel
theorem d_R_isSaidBy_64 : decode c_R_isSaidBy 64 = .ok (.iaload, 1) := by decide +kernel
theorem d_R_isSaidBy_65 : decode c_R_isSaidBy 65 = .ok (.iconst 2, 1) := by decide +kernel
theorem d_R_isSaidBy_66 : decode c_R_isSaidBy 66 = .ok (.iload_n 3, 1) := by decide +kernel
theorem d_R_isSaidBy_67 : decode c_R_isSaidBy 67 = .ok (.imul, 1) := by decide +kernel
theorem d_R_isSaidBy_68 : decode c_R_isSaidBy 68 = .ok (.ishr, 1) := by decide +kernel
theorem d_R_isSaidBy_69 : decode c_R_isSaidBy 69 = .ok (.aload_n 0, 1) := by decide +kernel
theorem d_R_isSaidBy_70 : decode c_R_isSaidBy 70 = .ok (.getfield 15, 3) := by decide +kernel
theorem d_R_isSaidBy_73 : decode c_R_isSaidBy 73 = .ok (.iload_n 1, 1) := by decide +kernel
theorem d_R_isSaidBy_74 : decode c_R_isSaidBy 74 = .ok (.iaload, 1) := by decide +kernel
theorem d_R_isSaidBy_75 : decode c_R_isSaidBy 75 = .ok (.invokestatic 22, 3) := by decide +kernel
theorem d_R_isSaidBy_78 : decode c_R_isSaidBy 78 = .ok (.aload_n 0, 1) := by decide +kernel
theorem d_R_isSaidBy_79 : decode c_R_isSaidBy 79 = .ok (.getfield 9, 3) := by decide +kernel
theorem d_R_isSaidBy_82 : decode c_R_isSaidBy 82 = .ok (.iload_n 1, 1) := by decide +kernel
theorem d_R_isSaidBy_83 : decode c_R_isSaidBy 83 = .ok (.iaload, 1) := by decide +kernel
theorem d_R_isSaidBy_84 : decode c_R_isSaidBy 84 = .ok (.if_icmp .ne 5, 3) := by decide +kernel
theorem d_R_isSaidBy_87 : decode c_R_isSaidBy 87 = .ok (.iconst 1, 1) := by decide +kernel
theorem d_R_isSaidBy_88 : decode c_R_isSaidBy 88 = .ok (.ireturn, 1) := by decide +kernel
theorem d_R_isSaidBy_89 : decode c_R_isSaidBy 89 = .ok (.iinc 3 (-1), 3) := by decide +kernel
theorem d_R_isSaidBy_92 : decode c_R_isSaidBy 92 = .ok (.goto (-37), 3) := by decide +kernel
theorem d_R_isSaidBy_95 : decode c_R_isSaidBy 95 = .ok (.iconst 0, 1) := by decide +kernel
theorem d_R_isSaidBy_96 : decode c_R_isSaidBy 96 = .ok (.ireturn, 1) := by decide +kernel
abbrev c_R_lettersShared : ByteArray := prog_3_method_7_code
def y_R_lettersShared : MethodName := ⟨"ReadGraph$Reads", "lettersShared", "(III)I"⟩
theorem d_R_lettersShared_0 : decode c_R_lettersShared 0 = .ok (.aload_n 0, 1) := by decide +kernel
theorem d_R_lettersShared_1 : decode c_R_lettersShared 1 = .ok (.getfield 15, 3) := by decide +kernel
theorem d_R_lettersShared_4 : decode c_R_lettersShared 4 = .ok (.iload_n 1, 1) := by decide +kernel
theorem d_R_lettersShared_5 : decode c_R_lettersShared 5 = .ok (.iaload, 1) := by decide +kernel
theorem d_R_lettersShared_6 : decode c_R_lettersShared 6 = .ok (.aload_n 0, 1) := by decide +kernel
theorem d_R_lettersShared_7 : decode c_R_lettersShared 7 = .ok (.getfield 15, 3) := by decide +kernel
theorem d_R_lettersShared_10 : decode c_R_lettersShared 10 = .ok (.iload_n 2, 1) := by decide +kernel
theorem d_R_lettersShared_11 : decode c_R_lettersShared 11 = .ok (.iaload, 1) := by decide +kernel
theorem d_R_lettersShared_12 : decode c_R_lettersShared 12 = .ok (.invokestatic 34, 3) := by decide +kernel
theorem d_R_lettersShared_15 : decode c_R_lettersShared 15 = .ok (.iconst 1, 1) := by decide +kernel
theorem d_R_lettersShared_16 : decode c_R_lettersShared 16 = .ok (.isub, 1) := by decide +kernel
theorem d_R_lettersShared_17 : decode c_R_lettersShared 17 = .ok (.istore 4, 2) := by decide +kernel
theorem d_R_lettersShared_19 : decode c_R_lettersShared 19 = .ok (.iload 4, 2) := by decide +kernel
theorem d_R_lettersShared_21 : decode c_R_lettersShared 21 = .ok (.iload_n 3, 1) := by decide +kernel
theorem d_R_lettersShared_22 : decode c_R_lettersShared 22 = .ok (.if_icmp .lt 44, 3) := by decide +kernel
theorem d_R_lettersShared_25 : decode c_R_lettersShared 25 = .ok (.aload_n 0, 1) := by decide +kernel
theorem d_R_lettersShared_26 : decode c_R_lettersShared 26 = .ok (.getfield 9, 3) := by decide +kernel
theorem d_R_lettersShared_29 : decode c_R_lettersShared 29 = .ok (.iload_n 1, 1) := by decide +kernel
theorem d_R_lettersShared_30 : decode c_R_lettersShared 30 = .ok (.iaload, 1) := by decide +kernel
theorem d_R_lettersShared_31 : decode c_R_lettersShared 31 = .ok (.iload 4, 2) := by decide +kernel
theorem d_R_lettersShared_33 : decode c_R_lettersShared 33 = .ok (.invokestatic 22, 3) := by decide +kernel
theorem d_R_lettersShared_36 : decode c_R_lettersShared 36 = .ok (.aload_n 0, 1) := by decide +kernel
theorem d_R_lettersShared_37 : decode c_R_lettersShared 37 = .ok (.getfield 9, 3) := by decide +kernel
theorem d_R_lettersShared_40 : decode c_R_lettersShared 40 = .ok (.iload_n 2, 1) := by decide +kernel
theorem d_R_lettersShared_41 : decode c_R_lettersShared 41 = .ok (.iaload, 1) := by decide +kernel
theorem d_R_lettersShared_42 : decode c_R_lettersShared 42 = .ok (.iconst 2, 1) := by decide +kernel
theorem d_R_lettersShared_43 : decode c_R_lettersShared 43 = .ok (.aload_n 0, 1) := by decide +kernel
theorem d_R_lettersShared_44 : decode c_R_lettersShared 44 = .ok (.getfield 15, 3) := by decide +kernel
theorem d_R_lettersShared_47 : decode c_R_lettersShared 47 = .ok (.iload_n 2, 1) := by decide +kernel
theorem d_R_lettersShared_48 : decode c_R_lettersShared 48 = .ok (.iaload, 1) := by decide +kernel
theorem d_R_lettersShared_49 : decode c_R_lettersShared 49 = .ok (.iload 4, 2) := by decide +kernel
theorem d_R_lettersShared_51 : decode c_R_lettersShared 51 = .ok (.isub, 1) := by decide +kernel
theorem d_R_lettersShared_52 : decode c_R_lettersShared 52 = .ok (.imul, 1) := by decide +kernel
theorem d_R_lettersShared_53 : decode c_R_lettersShared 53 = .ok (.ishr, 1) := by decide +kernel
theorem d_R_lettersShared_54 : decode c_R_lettersShared 54 = .ok (.if_icmp .ne 6, 3) := by decide +kernel
theorem d_R_lettersShared_57 : decode c_R_lettersShared 57 = .ok (.iload 4, 2) := by decide +kernel
theorem d_R_lettersShared_59 : decode c_R_lettersShared 59 = .ok (.ireturn, 1) := by decide +kernel
theorem d_R_lettersShared_60 : decode c_R_lettersShared 60 = .ok (.iinc 4 (-1), 3) := by decide +kernel
theorem d_R_lettersShared_63 : decode c_R_lettersShared 63 = .ok (.goto (-44), 3) := by decide +kernel
theorem d_R_lettersShared_66 : decode c_R_lettersShared 66 = .ok (.iconst 0, 1) := by decide +kernel
theorem d_R_lettersShared_67 : decode c_R_lettersShared 67 = .ok (.ireturn, 1) := by decide +kernel
abbrev c_R_lowest : ByteArray := prog_3_method_8_code
def y_R_lowest : MethodName := ⟨"ReadGraph$Reads", "lowest", "(II)I"⟩
theorem d_R_lowest_0 : decode c_R_lowest 0 = .ok (.iload_n 0, 1) := by decide +kernel
theorem d_R_lowest_1 : decode c_R_lowest 1 = .ok (.iconst 1, 1) := by decide +kernel
theorem d_R_lowest_2 : decode c_R_lowest 2 = .ok (.iconst 2, 1) := by decide +kernel
theorem d_R_lowest_3 : decode c_R_lowest 3 = .ok (.iload_n 1, 1) := by decide +kernel
theorem d_R_lowest_4 : decode c_R_lowest 4 = .ok (.imul, 1) := by decide +kernel
theorem d_R_lowest_5 : decode c_R_lowest 5 = .ok (.ishl, 1) := by decide +kernel
theorem d_R_lowest_6 : decode c_R_lowest 6 = .ok (.iconst 1, 1) := by decide +kernel
theorem d_R_lowest_7 : decode c_R_lowest 7 = .ok (.isub, 1) := by decide +kernel
theorem d_R_lowest_8 : decode c_R_lowest 8 = .ok (.iand, 1) := by decide +kernel
theorem d_R_lowest_9 : decode c_R_lowest 9 = .ok (.ireturn, 1) := by decide +kernel
abbrev c_J_bitCount : ByteArray := prog_11_method_49_code
def y_J_bitCount : MethodName := ⟨"java/lang/Integer", "bitCount", "(I)I"⟩
theorem d_J_bitCount_0 : decode c_J_bitCount 0 = .ok (.iload_n 0, 1) := by decide +kernel
theorem d_J_bitCount_1 : decode c_J_bitCount 1 = .ok (.iload_n 0, 1) := by decide +kernel
theorem d_J_bitCount_2 : decode c_J_bitCount 2 = .ok (.iconst 1, 1) := by decide +kernel
theorem d_J_bitCount_3 : decode c_J_bitCount 3 = .ok (.iushr, 1) := by decide +kernel
theorem d_J_bitCount_4 : decode c_J_bitCount 4 = .ok (.ldc_w 265, 3) := by decide +kernel
theorem d_J_bitCount_7 : decode c_J_bitCount 7 = .ok (.iand, 1) := by decide +kernel
theorem d_J_bitCount_8 : decode c_J_bitCount 8 = .ok (.isub, 1) := by decide +kernel
theorem d_J_bitCount_9 : decode c_J_bitCount 9 = .ok (.istore_n 0, 1) := by decide +kernel
theorem d_J_bitCount_10 : decode c_J_bitCount 10 = .ok (.iload_n 0, 1) := by decide +kernel
theorem d_J_bitCount_11 : decode c_J_bitCount 11 = .ok (.ldc_w 266, 3) := by decide +kernel
theorem d_J_bitCount_14 : decode c_J_bitCount 14 = .ok (.iand, 1) := by decide +kernel
theorem d_J_bitCount_15 : decode c_J_bitCount 15 = .ok (.iload_n 0, 1) := by decide +kernel
theorem d_J_bitCount_16 : decode c_J_bitCount 16 = .ok (.iconst 2, 1) := by decide +kernel
theorem d_J_bitCount_17 : decode c_J_bitCount 17 = .ok (.iushr, 1) := by decide +kernel
theorem d_J_bitCount_18 : decode c_J_bitCount 18 = .ok (.ldc_w 266, 3) := by decide +kernel
theorem d_J_bitCount_21 : decode c_J_bitCount 21 = .ok (.iand, 1) := by decide +kernel
theorem d_J_bitCount_22 : decode c_J_bitCount 22 = .ok (.iadd, 1) := by decide +kernel
theorem d_J_bitCount_23 : decode c_J_bitCount 23 = .ok (.istore_n 0, 1) := by decide +kernel
theorem d_J_bitCount_24 : decode c_J_bitCount 24 = .ok (.iload_n 0, 1) := by decide +kernel
theorem d_J_bitCount_25 : decode c_J_bitCount 25 = .ok (.iload_n 0, 1) := by decide +kernel
theorem d_J_bitCount_26 : decode c_J_bitCount 26 = .ok (.iconst 4, 1) := by decide +kernel
theorem d_J_bitCount_27 : decode c_J_bitCount 27 = .ok (.iushr, 1) := by decide +kernel
theorem d_J_bitCount_28 : decode c_J_bitCount 28 = .ok (.iadd, 1) := by decide +kernel
theorem d_J_bitCount_29 : decode c_J_bitCount 29 = .ok (.ldc_w 267, 3) := by decide +kernel
theorem d_J_bitCount_32 : decode c_J_bitCount 32 = .ok (.iand, 1) := by decide +kernel
theorem d_J_bitCount_33 : decode c_J_bitCount 33 = .ok (.istore_n 0, 1) := by decide +kernel
theorem d_J_bitCount_34 : decode c_J_bitCount 34 = .ok (.iload_n 0, 1) := by decide +kernel
theorem d_J_bitCount_35 : decode c_J_bitCount 35 = .ok (.iload_n 0, 1) := by decide +kernel
theorem d_J_bitCount_36 : decode c_J_bitCount 36 = .ok (.bipush 8, 2) := by decide +kernel
theorem d_J_bitCount_38 : decode c_J_bitCount 38 = .ok (.iushr, 1) := by decide +kernel
theorem d_J_bitCount_39 : decode c_J_bitCount 39 = .ok (.iadd, 1) := by decide +kernel
theorem d_J_bitCount_40 : decode c_J_bitCount 40 = .ok (.istore_n 0, 1) := by decide +kernel
theorem d_J_bitCount_41 : decode c_J_bitCount 41 = .ok (.iload_n 0, 1) := by decide +kernel
theorem d_J_bitCount_42 : decode c_J_bitCount 42 = .ok (.iload_n 0, 1) := by decide +kernel
theorem d_J_bitCount_43 : decode c_J_bitCount 43 = .ok (.bipush 16, 2) := by decide +kernel
theorem d_J_bitCount_45 : decode c_J_bitCount 45 = .ok (.iushr, 1) := by decide +kernel
theorem d_J_bitCount_46 : decode c_J_bitCount 46 = .ok (.iadd, 1) := by decide +kernel
theorem d_J_bitCount_47 : decode c_J_bitCount 47 = .ok (.istore_n 0, 1) := by decide +kernel
theorem d_J_bitCount_48 : decode c_J_bitCount 48 = .ok (.iload_n 0, 1) := by decide +kernel
theorem d_J_bitCount_49 : decode c_J_bitCount 49 = .ok (.bipush 63, 2) := by decide +kernel
theorem d_J_bitCount_51 : decode c_J_bitCount 51 = .ok (.iand, 1) := by decide +kernel
theorem d_J_bitCount_52 : decode c_J_bitCount 52 = .ok (.ireturn, 1) := by decide +kernel
abbrev c_J_min : ByteArray := prog_12_method_69_code
def y_J_min : MethodName := ⟨"java/lang/Math", "min", "(II)I"⟩
theorem d_J_min_0 : decode c_J_min 0 = .ok (.iload_n 0, 1) := by decide +kernel
theorem d_J_min_1 : decode c_J_min 1 = .ok (.iload_n 1, 1) := by decide +kernel
theorem d_J_min_2 : decode c_J_min 2 = .ok (.if_icmp .gt 7, 3) := by decide +kernel
theorem d_J_min_5 : decode c_J_min 5 = .ok (.iload_n 0, 1) := by decide +kernel
theorem d_J_min_6 : decode c_J_min 6 = .ok (.goto 4, 3) := by decide +kernel
theorem d_J_min_9 : decode c_J_min 9 = .ok (.iload_n 1, 1) := by decide +kernel
theorem d_J_min_10 : decode c_J_min 10 = .ok (.ireturn, 1) := by decide +kernel
