/-! names and decode rows: the reference (by program) -/
abbrev c_M_init : ByteArray := prog_6_method_1_code
def y_M_init : MethodName := ⟨"ReadGraphModel", "<init>", "()V"⟩
theorem d_M_init_0 : decode c_M_init 0 = .ok (.aload_n 0, 1) := by decide +kernel
theorem d_M_init_1 : decode c_M_init 1 = .ok (.invokespecial 1, 3) := by decide +kernel
theorem d_M_init_4 : decode c_M_init 4 = .ok (.aload_n 0, 1) := by decide +kernel
theorem d_M_init_5 : decode c_M_init 5 = .ok (.bipush 9, 2) := by decide +kernel
theorem d_M_init_7 : decode c_M_init 7 = .ok (.newarray .int, 2) := by decide +kernel
theorem d_M_init_9 : decode c_M_init 9 = .ok (.putfield 7, 3) := by decide +kernel
theorem d_M_init_12 : decode c_M_init 12 = .ok (.aload_n 0, 1) := by decide +kernel
theorem d_M_init_13 : decode c_M_init 13 = .ok (.bipush 108, 2) := by decide +kernel
theorem d_M_init_15 : decode c_M_init 15 = .ok (.newarray .int, 2) := by decide +kernel
theorem d_M_init_17 : decode c_M_init 17 = .ok (.putfield 13, 3) := by decide +kernel
theorem d_M_init_20 : decode c_M_init 20 = .ok (.aload_n 0, 1) := by decide +kernel
theorem d_M_init_21 : decode c_M_init 21 = .ok (.bipush 9, 2) := by decide +kernel
theorem d_M_init_23 : decode c_M_init 23 = .ok (.newarray .boolean, 2) := by decide +kernel
theorem d_M_init_25 : decode c_M_init 25 = .ok (.putfield 16, 3) := by decide +kernel
theorem d_M_init_28 : decode c_M_init 28 = .ok (.aload_n 0, 1) := by decide +kernel
theorem d_M_init_29 : decode c_M_init 29 = .ok (.bipush 81, 2) := by decide +kernel
theorem d_M_init_31 : decode c_M_init 31 = .ok (.newarray .int, 2) := by decide +kernel
theorem d_M_init_33 : decode c_M_init 33 = .ok (.putfield 20, 3) := by decide +kernel
theorem d_M_init_36 : decode c_M_init 36 = .ok (.aload_n 0, 1) := by decide +kernel
theorem d_M_init_37 : decode c_M_init 37 = .ok (.bipush 81, 2) := by decide +kernel
theorem d_M_init_39 : decode c_M_init 39 = .ok (.newarray .int, 2) := by decide +kernel
theorem d_M_init_41 : decode c_M_init 41 = .ok (.putfield 23, 3) := by decide +kernel
theorem d_M_init_44 : decode c_M_init 44 = .ok (.aload_n 0, 1) := by decide +kernel
theorem d_M_init_45 : decode c_M_init 45 = .ok (.bipush 81, 2) := by decide +kernel
theorem d_M_init_47 : decode c_M_init 47 = .ok (.newarray .int, 2) := by decide +kernel
theorem d_M_init_49 : decode c_M_init 49 = .ok (.putfield 26, 3) := by decide +kernel
theorem d_M_init_52 : decode c_M_init 52 = .ok (.aload_n 0, 1) := by decide +kernel
theorem d_M_init_53 : decode c_M_init 53 = .ok (.bipush 81, 2) := by decide +kernel
theorem d_M_init_55 : decode c_M_init 55 = .ok (.newarray .int, 2) := by decide +kernel
theorem d_M_init_57 : decode c_M_init 57 = .ok (.putfield 29, 3) := by decide +kernel
theorem d_M_init_60 : decode c_M_init 60 = .ok (.aload_n 0, 1) := by decide +kernel
theorem d_M_init_61 : decode c_M_init 61 = .ok (.bipush 81, 2) := by decide +kernel
theorem d_M_init_63 : decode c_M_init 63 = .ok (.newarray .int, 2) := by decide +kernel
theorem d_M_init_65 : decode c_M_init 65 = .ok (.putfield 32, 3) := by decide +kernel
theorem d_M_init_68 : decode c_M_init 68 = .ok (.aload_n 0, 1) := by decide +kernel
theorem d_M_init_69 : decode c_M_init 69 = .ok (.bipush 81, 2) := by decide +kernel
theorem d_M_init_71 : decode c_M_init 71 = .ok (.newarray .int, 2) := by decide +kernel
theorem d_M_init_73 : decode c_M_init 73 = .ok (.putfield 35, 3) := by decide +kernel
theorem d_M_init_76 : decode c_M_init 76 = .ok (.aload_n 0, 1) := by decide +kernel
theorem d_M_init_77 : decode c_M_init 77 = .ok (.bipush 81, 2) := by decide +kernel
theorem d_M_init_79 : decode c_M_init 79 = .ok (.newarray .boolean, 2) := by decide +kernel
theorem d_M_init_81 : decode c_M_init 81 = .ok (.putfield 38, 3) := by decide +kernel
theorem d_M_init_84 : decode c_M_init 84 = .ok (.aload_n 0, 1) := by decide +kernel
theorem d_M_init_85 : decode c_M_init 85 = .ok (.sipush 6561, 3) := by decide +kernel
theorem d_M_init_88 : decode c_M_init 88 = .ok (.newarray .int, 2) := by decide +kernel
theorem d_M_init_90 : decode c_M_init 90 = .ok (.putfield 41, 3) := by decide +kernel
theorem d_M_init_93 : decode c_M_init 93 = .ok (.aload_n 0, 1) := by decide +kernel
theorem d_M_init_94 : decode c_M_init 94 = .ok (.bipush 44, 2) := by decide +kernel
theorem d_M_init_96 : decode c_M_init 96 = .ok (.newarray .int, 2) := by decide +kernel
theorem d_M_init_98 : decode c_M_init 98 = .ok (.putfield 44, 3) := by decide +kernel
theorem d_M_init_101 : decode c_M_init 101 = .ok (.aload_n 0, 1) := by decide +kernel
theorem d_M_init_102 : decode c_M_init 102 = .ok (.bipush 44, 2) := by decide +kernel
theorem d_M_init_104 : decode c_M_init 104 = .ok (.newarray .int, 2) := by decide +kernel
theorem d_M_init_106 : decode c_M_init 106 = .ok (.putfield 47, 3) := by decide +kernel
theorem d_M_init_109 : decode c_M_init 109 = .ok (.aload_n 0, 1) := by decide +kernel
theorem d_M_init_110 : decode c_M_init 110 = .ok (.bipush 50, 2) := by decide +kernel
theorem d_M_init_112 : decode c_M_init 112 = .ok (.newarray .int, 2) := by decide +kernel
theorem d_M_init_114 : decode c_M_init 114 = .ok (.putfield 50, 3) := by decide +kernel
theorem d_M_init_117 : decode c_M_init 117 = .ok (.aload_n 0, 1) := by decide +kernel
theorem d_M_init_118 : decode c_M_init 118 = .ok (.sipush 2000, 3) := by decide +kernel
theorem d_M_init_121 : decode c_M_init 121 = .ok (.newarray .int, 2) := by decide +kernel
theorem d_M_init_123 : decode c_M_init 123 = .ok (.putfield 53, 3) := by decide +kernel
theorem d_M_init_126 : decode c_M_init 126 = .ok (.return_, 1) := by decide +kernel
abbrev c_M_thrown : ByteArray := prog_6_method_2_code
def y_M_thrown : MethodName := ⟨"ReadGraphModel", "thrown", "()I"⟩
theorem d_M_thrown_0 : decode c_M_thrown 0 = .ok (.aload_n 0, 1) := by decide +kernel
theorem d_M_thrown_1 : decode c_M_thrown 1 = .ok (.getfield 56, 3) := by decide +kernel
theorem d_M_thrown_4 : decode c_M_thrown 4 = .ok (.ireturn, 1) := by decide +kernel
abbrev c_M_throwing : ByteArray := prog_6_method_3_code
def y_M_throwing : MethodName := ⟨"ReadGraphModel", "throwing", "(ZZ)Z"⟩
theorem d_M_throwing_0 : decode c_M_throwing 0 = .ok (.aload_n 0, 1) := by decide +kernel
theorem d_M_throwing_1 : decode c_M_throwing 1 = .ok (.iload_n 1, 1) := by decide +kernel
theorem d_M_throwing_2 : decode c_M_throwing 2 = .ok (.ifCond .eq 7, 3) := by decide +kernel
theorem d_M_throwing_5 : decode c_M_throwing 5 = .ok (.iconst 1, 1) := by decide +kernel
theorem d_M_throwing_6 : decode c_M_throwing 6 = .ok (.goto 12, 3) := by decide +kernel
theorem d_M_throwing_9 : decode c_M_throwing 9 = .ok (.iload_n 2, 1) := by decide +kernel
theorem d_M_throwing_10 : decode c_M_throwing 10 = .ok (.ifCond .eq 7, 3) := by decide +kernel
theorem d_M_throwing_13 : decode c_M_throwing 13 = .ok (.iconst 2, 1) := by decide +kernel
theorem d_M_throwing_14 : decode c_M_throwing 14 = .ok (.goto 4, 3) := by decide +kernel
theorem d_M_throwing_17 : decode c_M_throwing 17 = .ok (.iconst 0, 1) := by decide +kernel
theorem d_M_throwing_18 : decode c_M_throwing 18 = .ok (.putfield 56, 3) := by decide +kernel
theorem d_M_throwing_21 : decode c_M_throwing 21 = .ok (.aload_n 0, 1) := by decide +kernel
theorem d_M_throwing_22 : decode c_M_throwing 22 = .ok (.getfield 56, 3) := by decide +kernel
theorem d_M_throwing_25 : decode c_M_throwing 25 = .ok (.ifCond .le 7, 3) := by decide +kernel
theorem d_M_throwing_28 : decode c_M_throwing 28 = .ok (.iconst 1, 1) := by decide +kernel
theorem d_M_throwing_29 : decode c_M_throwing 29 = .ok (.goto 4, 3) := by decide +kernel
theorem d_M_throwing_32 : decode c_M_throwing 32 = .ok (.iconst 0, 1) := by decide +kernel
theorem d_M_throwing_33 : decode c_M_throwing 33 = .ok (.ireturn, 1) := by decide +kernel
abbrev c_M_out : ByteArray := prog_6_method_4_code
def y_M_out : MethodName := ⟨"ReadGraphModel", "out", "(II)Z"⟩
theorem d_M_out_0 : decode c_M_out 0 = .ok (.iload_n 0, 1) := by decide +kernel
theorem d_M_out_1 : decode c_M_out 1 = .ok (.ifCond .lt 8, 3) := by decide +kernel
theorem d_M_out_4 : decode c_M_out 4 = .ok (.iload_n 0, 1) := by decide +kernel
theorem d_M_out_5 : decode c_M_out 5 = .ok (.iload_n 1, 1) := by decide +kernel
theorem d_M_out_6 : decode c_M_out 6 = .ok (.if_icmp .lt 7, 3) := by decide +kernel
theorem d_M_out_9 : decode c_M_out 9 = .ok (.iconst 1, 1) := by decide +kernel
theorem d_M_out_10 : decode c_M_out 10 = .ok (.goto 4, 3) := by decide +kernel
theorem d_M_out_13 : decode c_M_out 13 = .ok (.iconst 0, 1) := by decide +kernel
theorem d_M_out_14 : decode c_M_out 14 = .ok (.ireturn, 1) := by decide +kernel
abbrev c_M_again : ByteArray := prog_6_method_5_code
def y_M_again : MethodName := ⟨"ReadGraphModel", "again", "()V"⟩
theorem d_M_again_0 : decode c_M_again 0 = .ok (.aload_n 0, 1) := by decide +kernel
theorem d_M_again_1 : decode c_M_again 1 = .ok (.iconst 0, 1) := by decide +kernel
theorem d_M_again_2 : decode c_M_again 2 = .ok (.putfield 60, 3) := by decide +kernel
theorem d_M_again_5 : decode c_M_again 5 = .ok (.aload_n 0, 1) := by decide +kernel
theorem d_M_again_6 : decode c_M_again 6 = .ok (.iconst 0, 1) := by decide +kernel
theorem d_M_again_7 : decode c_M_again 7 = .ok (.putfield 63, 3) := by decide +kernel
theorem d_M_again_10 : decode c_M_again 10 = .ok (.aload_n 0, 1) := by decide +kernel
theorem d_M_again_11 : decode c_M_again 11 = .ok (.iconst 0, 1) := by decide +kernel
theorem d_M_again_12 : decode c_M_again 12 = .ok (.putfield 66, 3) := by decide +kernel
theorem d_M_again_15 : decode c_M_again 15 = .ok (.iconst 0, 1) := by decide +kernel
theorem d_M_again_16 : decode c_M_again 16 = .ok (.istore_n 1, 1) := by decide +kernel
theorem d_M_again_17 : decode c_M_again 17 = .ok (.iload_n 1, 1) := by decide +kernel
theorem d_M_again_18 : decode c_M_again 18 = .ok (.bipush 81, 2) := by decide +kernel
theorem d_M_again_20 : decode c_M_again 20 = .ok (.if_icmp .ge 16, 3) := by decide +kernel
theorem d_M_again_23 : decode c_M_again 23 = .ok (.aload_n 0, 1) := by decide +kernel
theorem d_M_again_24 : decode c_M_again 24 = .ok (.getfield 38, 3) := by decide +kernel
theorem d_M_again_27 : decode c_M_again 27 = .ok (.iload_n 1, 1) := by decide +kernel
theorem d_M_again_28 : decode c_M_again 28 = .ok (.iconst 0, 1) := by decide +kernel
theorem d_M_again_29 : decode c_M_again 29 = .ok (.bastore, 1) := by decide +kernel
theorem d_M_again_30 : decode c_M_again 30 = .ok (.iinc 1 1, 3) := by decide +kernel
theorem d_M_again_33 : decode c_M_again 33 = .ok (.goto (-16), 3) := by decide +kernel
theorem d_M_again_36 : decode c_M_again 36 = .ok (.iconst 0, 1) := by decide +kernel
theorem d_M_again_37 : decode c_M_again 37 = .ok (.istore_n 1, 1) := by decide +kernel
theorem d_M_again_38 : decode c_M_again 38 = .ok (.iload_n 1, 1) := by decide +kernel
theorem d_M_again_39 : decode c_M_again 39 = .ok (.sipush 6561, 3) := by decide +kernel
theorem d_M_again_42 : decode c_M_again 42 = .ok (.if_icmp .ge 16, 3) := by decide +kernel
theorem d_M_again_45 : decode c_M_again 45 = .ok (.aload_n 0, 1) := by decide +kernel
theorem d_M_again_46 : decode c_M_again 46 = .ok (.getfield 41, 3) := by decide +kernel
theorem d_M_again_49 : decode c_M_again 49 = .ok (.iload_n 1, 1) := by decide +kernel
theorem d_M_again_50 : decode c_M_again 50 = .ok (.iconst 0, 1) := by decide +kernel
theorem d_M_again_51 : decode c_M_again 51 = .ok (.iastore, 1) := by decide +kernel
theorem d_M_again_52 : decode c_M_again 52 = .ok (.iinc 1 1, 3) := by decide +kernel
theorem d_M_again_55 : decode c_M_again 55 = .ok (.goto (-17), 3) := by decide +kernel
theorem d_M_again_58 : decode c_M_again 58 = .ok (.return_, 1) := by decide +kernel
abbrev c_M_same : ByteArray := prog_6_method_6_code
def y_M_same : MethodName := ⟨"ReadGraphModel", "same", "(IIIII)Z"⟩
theorem d_M_same_0 : decode c_M_same 0 = .ok (.iconst 1, 1) := by decide +kernel
theorem d_M_same_1 : decode c_M_same 1 = .ok (.istore 6, 2) := by decide +kernel
theorem d_M_same_3 : decode c_M_same 3 = .ok (.iconst 0, 1) := by decide +kernel
theorem d_M_same_4 : decode c_M_same 4 = .ok (.istore 7, 2) := by decide +kernel
theorem d_M_same_6 : decode c_M_same 6 = .ok (.iload 7, 2) := by decide +kernel
theorem d_M_same_8 : decode c_M_same 8 = .ok (.iload 5, 2) := by decide +kernel
theorem d_M_same_10 : decode c_M_same 10 = .ok (.if_icmp .ge 53, 3) := by decide +kernel
theorem d_M_same_13 : decode c_M_same 13 = .ok (.iload 6, 2) := by decide +kernel
theorem d_M_same_15 : decode c_M_same 15 = .ok (.ifCond .eq 39, 3) := by decide +kernel
theorem d_M_same_18 : decode c_M_same 18 = .ok (.aload_n 0, 1) := by decide +kernel
theorem d_M_same_19 : decode c_M_same 19 = .ok (.getfield 13, 3) := by decide +kernel
theorem d_M_same_22 : decode c_M_same 22 = .ok (.bipush 12, 2) := by decide +kernel
theorem d_M_same_24 : decode c_M_same 24 = .ok (.iload_n 1, 1) := by decide +kernel
theorem d_M_same_25 : decode c_M_same 25 = .ok (.imul, 1) := by decide +kernel
theorem d_M_same_26 : decode c_M_same 26 = .ok (.iload_n 2, 1) := by decide +kernel
theorem d_M_same_27 : decode c_M_same 27 = .ok (.iadd, 1) := by decide +kernel
theorem d_M_same_28 : decode c_M_same 28 = .ok (.iload 7, 2) := by decide +kernel
theorem d_M_same_30 : decode c_M_same 30 = .ok (.iadd, 1) := by decide +kernel
theorem d_M_same_31 : decode c_M_same 31 = .ok (.iaload, 1) := by decide +kernel
theorem d_M_same_32 : decode c_M_same 32 = .ok (.aload_n 0, 1) := by decide +kernel
theorem d_M_same_33 : decode c_M_same 33 = .ok (.getfield 13, 3) := by decide +kernel
theorem d_M_same_36 : decode c_M_same 36 = .ok (.bipush 12, 2) := by decide +kernel
theorem d_M_same_38 : decode c_M_same 38 = .ok (.iload_n 3, 1) := by decide +kernel
theorem d_M_same_39 : decode c_M_same 39 = .ok (.imul, 1) := by decide +kernel
theorem d_M_same_40 : decode c_M_same 40 = .ok (.iload 4, 2) := by decide +kernel
theorem d_M_same_42 : decode c_M_same 42 = .ok (.iadd, 1) := by decide +kernel
theorem d_M_same_43 : decode c_M_same 43 = .ok (.iload 7, 2) := by decide +kernel
theorem d_M_same_45 : decode c_M_same 45 = .ok (.iadd, 1) := by decide +kernel
theorem d_M_same_46 : decode c_M_same 46 = .ok (.iaload, 1) := by decide +kernel
theorem d_M_same_47 : decode c_M_same 47 = .ok (.if_icmp .ne 7, 3) := by decide +kernel
theorem d_M_same_50 : decode c_M_same 50 = .ok (.iconst 1, 1) := by decide +kernel
theorem d_M_same_51 : decode c_M_same 51 = .ok (.goto 4, 3) := by decide +kernel
theorem d_M_same_54 : decode c_M_same 54 = .ok (.iconst 0, 1) := by decide +kernel
theorem d_M_same_55 : decode c_M_same 55 = .ok (.istore 6, 2) := by decide +kernel
theorem d_M_same_57 : decode c_M_same 57 = .ok (.iinc 7 1, 3) := by decide +kernel
theorem d_M_same_60 : decode c_M_same 60 = .ok (.goto (-54), 3) := by decide +kernel
theorem d_M_same_63 : decode c_M_same 63 = .ok (.iload 6, 2) := by decide +kernel
theorem d_M_same_65 : decode c_M_same 65 = .ok (.ireturn, 1) := by decide +kernel
abbrev c_M_isIn : ByteArray := prog_6_method_7_code
def y_M_isIn : MethodName := ⟨"ReadGraphModel", "isIn", "(II)Z"⟩
theorem d_M_isIn_0 : decode c_M_isIn 0 = .ok (.iload_n 1, 1) := by decide +kernel
theorem d_M_isIn_1 : decode c_M_isIn 1 = .ok (.iload_n 2, 1) := by decide +kernel
theorem d_M_isIn_2 : decode c_M_isIn 2 = .ok (.if_icmp .eq 38, 3) := by decide +kernel
theorem d_M_isIn_5 : decode c_M_isIn 5 = .ok (.aload_n 0, 1) := by decide +kernel
theorem d_M_isIn_6 : decode c_M_isIn 6 = .ok (.getfield 7, 3) := by decide +kernel
theorem d_M_isIn_9 : decode c_M_isIn 9 = .ok (.iload_n 1, 1) := by decide +kernel
theorem d_M_isIn_10 : decode c_M_isIn 10 = .ok (.iaload, 1) := by decide +kernel
theorem d_M_isIn_11 : decode c_M_isIn 11 = .ok (.aload_n 0, 1) := by decide +kernel
theorem d_M_isIn_12 : decode c_M_isIn 12 = .ok (.getfield 7, 3) := by decide +kernel
theorem d_M_isIn_15 : decode c_M_isIn 15 = .ok (.iload_n 2, 1) := by decide +kernel
theorem d_M_isIn_16 : decode c_M_isIn 16 = .ok (.iaload, 1) := by decide +kernel
theorem d_M_isIn_17 : decode c_M_isIn 17 = .ok (.if_icmp .gt 23, 3) := by decide +kernel
theorem d_M_isIn_20 : decode c_M_isIn 20 = .ok (.aload_n 0, 1) := by decide +kernel
theorem d_M_isIn_21 : decode c_M_isIn 21 = .ok (.getfield 7, 3) := by decide +kernel
theorem d_M_isIn_24 : decode c_M_isIn 24 = .ok (.iload_n 1, 1) := by decide +kernel
theorem d_M_isIn_25 : decode c_M_isIn 25 = .ok (.iaload, 1) := by decide +kernel
theorem d_M_isIn_26 : decode c_M_isIn 26 = .ok (.aload_n 0, 1) := by decide +kernel
theorem d_M_isIn_27 : decode c_M_isIn 27 = .ok (.getfield 7, 3) := by decide +kernel
theorem d_M_isIn_30 : decode c_M_isIn 30 = .ok (.iload_n 2, 1) := by decide +kernel
theorem d_M_isIn_31 : decode c_M_isIn 31 = .ok (.iaload, 1) := by decide +kernel
theorem d_M_isIn_32 : decode c_M_isIn 32 = .ok (.if_icmp .ne 10, 3) := by decide +kernel
theorem d_M_isIn_35 : decode c_M_isIn 35 = .ok (.iload_n 2, 1) := by decide +kernel
theorem d_M_isIn_36 : decode c_M_isIn 36 = .ok (.iload_n 1, 1) := by decide +kernel
theorem d_M_isIn_37 : decode c_M_isIn 37 = .ok (.if_icmp .le 5, 3) := by decide +kernel
theorem d_M_isIn_40 : decode c_M_isIn 40 = .ok (.iconst 0, 1) := by decide +kernel
theorem d_M_isIn_41 : decode c_M_isIn 41 = .ok (.ireturn, 1) := by decide +kernel
theorem d_M_isIn_42 : decode c_M_isIn 42 = .ok (.iconst 0, 1) := by decide +kernel
theorem d_M_isIn_43 : decode c_M_isIn 43 = .ok (.istore_n 3, 1) := by decide +kernel
theorem d_M_isIn_44 : decode c_M_isIn 44 = .ok (.iconst 0, 1) := by decide +kernel
theorem d_M_isIn_45 : decode c_M_isIn 45 = .ok (.istore 4, 2) := by decide +kernel
theorem d_M_isIn_47 : decode c_M_isIn 47 = .ok (.iload 4, 2) := by decide +kernel
theorem d_M_isIn_49 : decode c_M_isIn 49 = .ok (.aload_n 0, 1) := by decide +kernel
theorem d_M_isIn_50 : decode c_M_isIn 50 = .ok (.getfield 7, 3) := by decide +kernel
theorem d_M_isIn_53 : decode c_M_isIn 53 = .ok (.iload_n 1, 1) := by decide +kernel
theorem d_M_isIn_54 : decode c_M_isIn 54 = .ok (.iaload, 1) := by decide +kernel
theorem d_M_isIn_55 : decode c_M_isIn 55 = .ok (.iadd, 1) := by decide +kernel
theorem d_M_isIn_56 : decode c_M_isIn 56 = .ok (.aload_n 0, 1) := by decide +kernel
theorem d_M_isIn_57 : decode c_M_isIn 57 = .ok (.getfield 7, 3) := by decide +kernel
theorem d_M_isIn_60 : decode c_M_isIn 60 = .ok (.iload_n 2, 1) := by decide +kernel
theorem d_M_isIn_61 : decode c_M_isIn 61 = .ok (.iaload, 1) := by decide +kernel
theorem d_M_isIn_62 : decode c_M_isIn 62 = .ok (.if_icmp .gt 37, 3) := by decide +kernel
theorem d_M_isIn_65 : decode c_M_isIn 65 = .ok (.iload_n 3, 1) := by decide +kernel
theorem d_M_isIn_66 : decode c_M_isIn 66 = .ok (.ifCond .ne 21, 3) := by decide +kernel
theorem d_M_isIn_69 : decode c_M_isIn 69 = .ok (.aload_n 0, 1) := by decide +kernel
theorem d_M_isIn_70 : decode c_M_isIn 70 = .ok (.iload_n 1, 1) := by decide +kernel
theorem d_M_isIn_71 : decode c_M_isIn 71 = .ok (.iconst 0, 1) := by decide +kernel
theorem d_M_isIn_72 : decode c_M_isIn 72 = .ok (.iload_n 2, 1) := by decide +kernel
theorem d_M_isIn_73 : decode c_M_isIn 73 = .ok (.iload 4, 2) := by decide +kernel
theorem d_M_isIn_75 : decode c_M_isIn 75 = .ok (.aload_n 0, 1) := by decide +kernel
theorem d_M_isIn_76 : decode c_M_isIn 76 = .ok (.getfield 7, 3) := by decide +kernel
theorem d_M_isIn_79 : decode c_M_isIn 79 = .ok (.iload_n 1, 1) := by decide +kernel
theorem d_M_isIn_80 : decode c_M_isIn 80 = .ok (.iaload, 1) := by decide +kernel
theorem d_M_isIn_81 : decode c_M_isIn 81 = .ok (.invokevirtual 69, 3) := by decide +kernel
theorem d_M_isIn_84 : decode c_M_isIn 84 = .ok (.ifCond .eq 7, 3) := by decide +kernel
theorem d_M_isIn_87 : decode c_M_isIn 87 = .ok (.iconst 1, 1) := by decide +kernel
theorem d_M_isIn_88 : decode c_M_isIn 88 = .ok (.goto 4, 3) := by decide +kernel
theorem d_M_isIn_91 : decode c_M_isIn 91 = .ok (.iconst 0, 1) := by decide +kernel
theorem d_M_isIn_92 : decode c_M_isIn 92 = .ok (.istore_n 3, 1) := by decide +kernel
theorem d_M_isIn_93 : decode c_M_isIn 93 = .ok (.iinc 4 1, 3) := by decide +kernel
theorem d_M_isIn_96 : decode c_M_isIn 96 = .ok (.goto (-49), 3) := by decide +kernel
theorem d_M_isIn_99 : decode c_M_isIn 99 = .ok (.iload_n 3, 1) := by decide +kernel
theorem d_M_isIn_100 : decode c_M_isIn 100 = .ok (.ireturn, 1) := by decide +kernel
abbrev c_M_read : ByteArray := prog_6_method_8_code
def y_M_read : MethodName := ⟨"ReadGraphModel", "read", "(II)I"⟩
theorem d_M_read_0 : decode c_M_read 0 = .ok (.iload_n 2, 1) := by decide +kernel
theorem d_M_read_1 : decode c_M_read 1 = .ok (.iconst 3, 1) := by decide +kernel
theorem d_M_read_2 : decode c_M_read 2 = .ok (.isub, 1) := by decide +kernel
theorem d_M_read_3 : decode c_M_read 3 = .ok (.bipush 10, 2) := by decide +kernel
theorem d_M_read_5 : decode c_M_read 5 = .ok (.invokestatic 73, 3) := by decide +kernel
theorem d_M_read_8 : decode c_M_read 8 = .ok (.istore_n 3, 1) := by decide +kernel
theorem d_M_read_9 : decode c_M_read 9 = .ok (.aload_n 0, 1) := by decide +kernel
theorem d_M_read_10 : decode c_M_read 10 = .ok (.iload_n 3, 1) := by decide +kernel
theorem d_M_read_11 : decode c_M_read 11 = .ok (.iload_n 3, 1) := by decide +kernel
theorem d_M_read_12 : decode c_M_read 12 = .ok (.ifCond .ne 16, 3) := by decide +kernel
theorem d_M_read_15 : decode c_M_read 15 = .ok (.aload_n 0, 1) := by decide +kernel
theorem d_M_read_16 : decode c_M_read 16 = .ok (.getfield 77, 3) := by decide +kernel
theorem d_M_read_19 : decode c_M_read 19 = .ok (.bipush 9, 2) := by decide +kernel
theorem d_M_read_21 : decode c_M_read 21 = .ok (.if_icmp .ne 7, 3) := by decide +kernel
theorem d_M_read_24 : decode c_M_read 24 = .ok (.iconst 1, 1) := by decide +kernel
theorem d_M_read_25 : decode c_M_read 25 = .ok (.goto 4, 3) := by decide +kernel
theorem d_M_read_28 : decode c_M_read 28 = .ok (.iconst 0, 1) := by decide +kernel
theorem d_M_read_29 : decode c_M_read 29 = .ok (.invokevirtual 80, 3) := by decide +kernel
theorem d_M_read_32 : decode c_M_read 32 = .ok (.ifCond .eq 5, 3) := by decide +kernel
theorem d_M_read_35 : decode c_M_read 35 = .ok (.iconst 0, 1) := by decide +kernel
theorem d_M_read_36 : decode c_M_read 36 = .ok (.ireturn, 1) := by decide +kernel
theorem d_M_read_37 : decode c_M_read 37 = .ok (.aload_n 0, 1) := by decide +kernel
theorem d_M_read_38 : decode c_M_read 38 = .ok (.invokevirtual 84, 3) := by decide +kernel
theorem d_M_read_41 : decode c_M_read 41 = .ok (.aload_n 0, 1) := by decide +kernel
theorem d_M_read_42 : decode c_M_read 42 = .ok (.getfield 7, 3) := by decide +kernel
theorem d_M_read_45 : decode c_M_read 45 = .ok (.aload_n 0, 1) := by decide +kernel
theorem d_M_read_46 : decode c_M_read 46 = .ok (.getfield 77, 3) := by decide +kernel
theorem d_M_read_49 : decode c_M_read 49 = .ok (.iload_n 2, 1) := by decide +kernel
theorem d_M_read_50 : decode c_M_read 50 = .ok (.iastore, 1) := by decide +kernel
theorem d_M_read_51 : decode c_M_read 51 = .ok (.iconst 0, 1) := by decide +kernel
theorem d_M_read_52 : decode c_M_read 52 = .ok (.istore 4, 2) := by decide +kernel
theorem d_M_read_54 : decode c_M_read 54 = .ok (.iload 4, 2) := by decide +kernel
theorem d_M_read_56 : decode c_M_read 56 = .ok (.iload_n 2, 1) := by decide +kernel
theorem d_M_read_57 : decode c_M_read 57 = .ok (.if_icmp .ge 36, 3) := by decide +kernel
theorem d_M_read_60 : decode c_M_read 60 = .ok (.aload_n 0, 1) := by decide +kernel
theorem d_M_read_61 : decode c_M_read 61 = .ok (.getfield 13, 3) := by decide +kernel
theorem d_M_read_64 : decode c_M_read 64 = .ok (.bipush 12, 2) := by decide +kernel
theorem d_M_read_66 : decode c_M_read 66 = .ok (.aload_n 0, 1) := by decide +kernel
theorem d_M_read_67 : decode c_M_read 67 = .ok (.getfield 77, 3) := by decide +kernel
theorem d_M_read_70 : decode c_M_read 70 = .ok (.imul, 1) := by decide +kernel
theorem d_M_read_71 : decode c_M_read 71 = .ok (.iload 4, 2) := by decide +kernel
theorem d_M_read_73 : decode c_M_read 73 = .ok (.iadd, 1) := by decide +kernel
theorem d_M_read_74 : decode c_M_read 74 = .ok (.iload_n 1, 1) := by decide +kernel
theorem d_M_read_75 : decode c_M_read 75 = .ok (.iconst 2, 1) := by decide +kernel
theorem d_M_read_76 : decode c_M_read 76 = .ok (.iload_n 2, 1) := by decide +kernel
theorem d_M_read_77 : decode c_M_read 77 = .ok (.iconst 1, 1) := by decide +kernel
theorem d_M_read_78 : decode c_M_read 78 = .ok (.isub, 1) := by decide +kernel
theorem d_M_read_79 : decode c_M_read 79 = .ok (.iload 4, 2) := by decide +kernel
theorem d_M_read_81 : decode c_M_read 81 = .ok (.isub, 1) := by decide +kernel
theorem d_M_read_82 : decode c_M_read 82 = .ok (.imul, 1) := by decide +kernel
theorem d_M_read_83 : decode c_M_read 83 = .ok (.ishr, 1) := by decide +kernel
theorem d_M_read_84 : decode c_M_read 84 = .ok (.iconst 3, 1) := by decide +kernel
theorem d_M_read_85 : decode c_M_read 85 = .ok (.iand, 1) := by decide +kernel
theorem d_M_read_86 : decode c_M_read 86 = .ok (.iastore, 1) := by decide +kernel
theorem d_M_read_87 : decode c_M_read 87 = .ok (.iinc 4 1, 3) := by decide +kernel
theorem d_M_read_90 : decode c_M_read 90 = .ok (.goto (-36), 3) := by decide +kernel
theorem d_M_read_93 : decode c_M_read 93 = .ok (.aload_n 0, 1) := by decide +kernel
theorem d_M_read_94 : decode c_M_read 94 = .ok (.dup, 1) := by decide +kernel
theorem d_M_read_95 : decode c_M_read 95 = .ok (.getfield 77, 3) := by decide +kernel
theorem d_M_read_98 : decode c_M_read 98 = .ok (.iconst 1, 1) := by decide +kernel
theorem d_M_read_99 : decode c_M_read 99 = .ok (.iadd, 1) := by decide +kernel
theorem d_M_read_100 : decode c_M_read 100 = .ok (.putfield 77, 3) := by decide +kernel
theorem d_M_read_103 : decode c_M_read 103 = .ok (.iconst 0, 1) := by decide +kernel
theorem d_M_read_104 : decode c_M_read 104 = .ok (.istore 4, 2) := by decide +kernel
theorem d_M_read_106 : decode c_M_read 106 = .ok (.iload 4, 2) := by decide +kernel
theorem d_M_read_108 : decode c_M_read 108 = .ok (.aload_n 0, 1) := by decide +kernel
theorem d_M_read_109 : decode c_M_read 109 = .ok (.getfield 77, 3) := by decide +kernel
theorem d_M_read_112 : decode c_M_read 112 = .ok (.if_icmp .ge 68, 3) := by decide +kernel
theorem d_M_read_115 : decode c_M_read 115 = .ok (.aload_n 0, 1) := by decide +kernel
theorem d_M_read_116 : decode c_M_read 116 = .ok (.getfield 16, 3) := by decide +kernel
theorem d_M_read_119 : decode c_M_read 119 = .ok (.iload 4, 2) := by decide +kernel
theorem d_M_read_121 : decode c_M_read 121 = .ok (.iconst 0, 1) := by decide +kernel
theorem d_M_read_122 : decode c_M_read 122 = .ok (.bastore, 1) := by decide +kernel
theorem d_M_read_123 : decode c_M_read 123 = .ok (.iconst 0, 1) := by decide +kernel
theorem d_M_read_124 : decode c_M_read 124 = .ok (.istore 5, 2) := by decide +kernel
theorem d_M_read_126 : decode c_M_read 126 = .ok (.iload 5, 2) := by decide +kernel
theorem d_M_read_128 : decode c_M_read 128 = .ok (.aload_n 0, 1) := by decide +kernel
theorem d_M_read_129 : decode c_M_read 129 = .ok (.getfield 77, 3) := by decide +kernel
theorem d_M_read_132 : decode c_M_read 132 = .ok (.if_icmp .ge 42, 3) := by decide +kernel
theorem d_M_read_135 : decode c_M_read 135 = .ok (.aload_n 0, 1) := by decide +kernel
theorem d_M_read_136 : decode c_M_read 136 = .ok (.getfield 16, 3) := by decide +kernel
theorem d_M_read_139 : decode c_M_read 139 = .ok (.iload 4, 2) := by decide +kernel
theorem d_M_read_141 : decode c_M_read 141 = .ok (.aload_n 0, 1) := by decide +kernel
theorem d_M_read_142 : decode c_M_read 142 = .ok (.getfield 16, 3) := by decide +kernel
theorem d_M_read_145 : decode c_M_read 145 = .ok (.iload 4, 2) := by decide +kernel
theorem d_M_read_147 : decode c_M_read 147 = .ok (.baload, 1) := by decide +kernel
theorem d_M_read_148 : decode c_M_read 148 = .ok (.ifCond .ne 14, 3) := by decide +kernel
theorem d_M_read_151 : decode c_M_read 151 = .ok (.aload_n 0, 1) := by decide +kernel
theorem d_M_read_152 : decode c_M_read 152 = .ok (.iload 4, 2) := by decide +kernel
theorem d_M_read_154 : decode c_M_read 154 = .ok (.iload 5, 2) := by decide +kernel
theorem d_M_read_156 : decode c_M_read 156 = .ok (.invokevirtual 87, 3) := by decide +kernel
theorem d_M_read_159 : decode c_M_read 159 = .ok (.ifCond .eq 7, 3) := by decide +kernel
theorem d_M_read_162 : decode c_M_read 162 = .ok (.iconst 1, 1) := by decide +kernel
theorem d_M_read_163 : decode c_M_read 163 = .ok (.goto 4, 3) := by decide +kernel
theorem d_M_read_166 : decode c_M_read 166 = .ok (.iconst 0, 1) := by decide +kernel
theorem d_M_read_167 : decode c_M_read 167 = .ok (.bastore, 1) := by decide +kernel
theorem d_M_read_168 : decode c_M_read 168 = .ok (.iinc 5 1, 3) := by decide +kernel
theorem d_M_read_171 : decode c_M_read 171 = .ok (.goto (-45), 3) := by decide +kernel
theorem d_M_read_174 : decode c_M_read 174 = .ok (.iinc 4 1, 3) := by decide +kernel
theorem d_M_read_177 : decode c_M_read 177 = .ok (.goto (-71), 3) := by decide +kernel
theorem d_M_read_180 : decode c_M_read 180 = .ok (.aload_n 0, 1) := by decide +kernel
theorem d_M_read_181 : decode c_M_read 181 = .ok (.getfield 77, 3) := by decide +kernel
theorem d_M_read_184 : decode c_M_read 184 = .ok (.iconst 1, 1) := by decide +kernel
theorem d_M_read_185 : decode c_M_read 185 = .ok (.isub, 1) := by decide +kernel
theorem d_M_read_186 : decode c_M_read 186 = .ok (.ireturn, 1) := by decide +kernel
abbrev c_M_clear : ByteArray := prog_6_method_9_code
def y_M_clear : MethodName := ⟨"ReadGraphModel", "clear", "()V"⟩
theorem d_M_clear_0 : decode c_M_clear 0 = .ok (.aload_n 0, 1) := by decide +kernel
theorem d_M_clear_1 : decode c_M_clear 1 = .ok (.iconst 0, 1) := by decide +kernel
theorem d_M_clear_2 : decode c_M_clear 2 = .ok (.putfield 56, 3) := by decide +kernel
theorem d_M_clear_5 : decode c_M_clear 5 = .ok (.aload_n 0, 1) := by decide +kernel
theorem d_M_clear_6 : decode c_M_clear 6 = .ok (.invokevirtual 84, 3) := by decide +kernel
theorem d_M_clear_9 : decode c_M_clear 9 = .ok (.aload_n 0, 1) := by decide +kernel
theorem d_M_clear_10 : decode c_M_clear 10 = .ok (.iconst 0, 1) := by decide +kernel
theorem d_M_clear_11 : decode c_M_clear 11 = .ok (.putfield 77, 3) := by decide +kernel
theorem d_M_clear_14 : decode c_M_clear 14 = .ok (.return_, 1) := by decide +kernel
abbrev c_M_letter : ByteArray := prog_6_method_10_code
def y_M_letter : MethodName := ⟨"ReadGraphModel", "letter", "(II)I"⟩
theorem d_M_letter_0 : decode c_M_letter 0 = .ok (.iload_n 1, 1) := by decide +kernel
theorem d_M_letter_1 : decode c_M_letter 1 = .ok (.aload_n 0, 1) := by decide +kernel
theorem d_M_letter_2 : decode c_M_letter 2 = .ok (.getfield 77, 3) := by decide +kernel
theorem d_M_letter_5 : decode c_M_letter 5 = .ok (.invokestatic 73, 3) := by decide +kernel
theorem d_M_letter_8 : decode c_M_letter 8 = .ok (.istore_n 3, 1) := by decide +kernel
theorem d_M_letter_9 : decode c_M_letter 9 = .ok (.aload_n 0, 1) := by decide +kernel
theorem d_M_letter_10 : decode c_M_letter 10 = .ok (.iload_n 3, 1) := by decide +kernel
theorem d_M_letter_11 : decode c_M_letter 11 = .ok (.iload_n 3, 1) := by decide +kernel
theorem d_M_letter_12 : decode c_M_letter 12 = .ok (.ifCond .ne 22, 3) := by decide +kernel
theorem d_M_letter_15 : decode c_M_letter 15 = .ok (.iload_n 2, 1) := by decide +kernel
theorem d_M_letter_16 : decode c_M_letter 16 = .ok (.iconst (-1), 1) := by decide +kernel
theorem d_M_letter_17 : decode c_M_letter 17 = .ok (.if_icmp .lt 13, 3) := by decide +kernel
theorem d_M_letter_20 : decode c_M_letter 20 = .ok (.iload_n 2, 1) := by decide +kernel
theorem d_M_letter_21 : decode c_M_letter 21 = .ok (.aload_n 0, 1) := by decide +kernel
theorem d_M_letter_22 : decode c_M_letter 22 = .ok (.getfield 7, 3) := by decide +kernel
theorem d_M_letter_25 : decode c_M_letter 25 = .ok (.iload_n 1, 1) := by decide +kernel
theorem d_M_letter_26 : decode c_M_letter 26 = .ok (.iaload, 1) := by decide +kernel
theorem d_M_letter_27 : decode c_M_letter 27 = .ok (.if_icmp .lt 7, 3) := by decide +kernel
theorem d_M_letter_30 : decode c_M_letter 30 = .ok (.iconst 1, 1) := by decide +kernel
theorem d_M_letter_31 : decode c_M_letter 31 = .ok (.goto 4, 3) := by decide +kernel
theorem d_M_letter_34 : decode c_M_letter 34 = .ok (.iconst 0, 1) := by decide +kernel
theorem d_M_letter_35 : decode c_M_letter 35 = .ok (.invokevirtual 80, 3) := by decide +kernel
theorem d_M_letter_38 : decode c_M_letter 38 = .ok (.ifCond .eq 5, 3) := by decide +kernel
theorem d_M_letter_41 : decode c_M_letter 41 = .ok (.iconst 0, 1) := by decide +kernel
theorem d_M_letter_42 : decode c_M_letter 42 = .ok (.ireturn, 1) := by decide +kernel
theorem d_M_letter_43 : decode c_M_letter 43 = .ok (.iload_n 2, 1) := by decide +kernel
theorem d_M_letter_44 : decode c_M_letter 44 = .ok (.ifCond .ge 12, 3) := by decide +kernel
theorem d_M_letter_47 : decode c_M_letter 47 = .ok (.aload_n 0, 1) := by decide +kernel
theorem d_M_letter_48 : decode c_M_letter 48 = .ok (.getfield 7, 3) := by decide +kernel
theorem d_M_letter_51 : decode c_M_letter 51 = .ok (.iload_n 1, 1) := by decide +kernel
theorem d_M_letter_52 : decode c_M_letter 52 = .ok (.iaload, 1) := by decide +kernel
theorem d_M_letter_53 : decode c_M_letter 53 = .ok (.goto 14, 3) := by decide +kernel
theorem d_M_letter_56 : decode c_M_letter 56 = .ok (.aload_n 0, 1) := by decide +kernel
theorem d_M_letter_57 : decode c_M_letter 57 = .ok (.getfield 13, 3) := by decide +kernel
theorem d_M_letter_60 : decode c_M_letter 60 = .ok (.bipush 12, 2) := by decide +kernel
theorem d_M_letter_62 : decode c_M_letter 62 = .ok (.iload_n 1, 1) := by decide +kernel
theorem d_M_letter_63 : decode c_M_letter 63 = .ok (.imul, 1) := by decide +kernel
theorem d_M_letter_64 : decode c_M_letter 64 = .ok (.iload_n 2, 1) := by decide +kernel
theorem d_M_letter_65 : decode c_M_letter 65 = .ok (.iadd, 1) := by decide +kernel
theorem d_M_letter_66 : decode c_M_letter 66 = .ok (.iaload, 1) := by decide +kernel
theorem d_M_letter_67 : decode c_M_letter 67 = .ok (.ireturn, 1) := by decide +kernel
abbrev c_M_contained : ByteArray := prog_6_method_11_code
def y_M_contained : MethodName := ⟨"ReadGraphModel", "contained", "(I)Z"⟩
theorem d_M_contained_0 : decode c_M_contained 0 = .ok (.aload_n 0, 1) := by decide +kernel
theorem d_M_contained_1 : decode c_M_contained 1 = .ok (.iload_n 1, 1) := by decide +kernel
theorem d_M_contained_2 : decode c_M_contained 2 = .ok (.aload_n 0, 1) := by decide +kernel
theorem d_M_contained_3 : decode c_M_contained 3 = .ok (.getfield 77, 3) := by decide +kernel
theorem d_M_contained_6 : decode c_M_contained 6 = .ok (.invokestatic 73, 3) := by decide +kernel
theorem d_M_contained_9 : decode c_M_contained 9 = .ok (.iconst 0, 1) := by decide +kernel
theorem d_M_contained_10 : decode c_M_contained 10 = .ok (.invokevirtual 80, 3) := by decide +kernel
theorem d_M_contained_13 : decode c_M_contained 13 = .ok (.ifCond .ne 16, 3) := by decide +kernel
theorem d_M_contained_16 : decode c_M_contained 16 = .ok (.aload_n 0, 1) := by decide +kernel
theorem d_M_contained_17 : decode c_M_contained 17 = .ok (.getfield 16, 3) := by decide +kernel
theorem d_M_contained_20 : decode c_M_contained 20 = .ok (.iload_n 1, 1) := by decide +kernel
theorem d_M_contained_21 : decode c_M_contained 21 = .ok (.baload, 1) := by decide +kernel
theorem d_M_contained_22 : decode c_M_contained 22 = .ok (.ifCond .eq 7, 3) := by decide +kernel
theorem d_M_contained_25 : decode c_M_contained 25 = .ok (.iconst 1, 1) := by decide +kernel
theorem d_M_contained_26 : decode c_M_contained 26 = .ok (.goto 4, 3) := by decide +kernel
theorem d_M_contained_29 : decode c_M_contained 29 = .ok (.iconst 0, 1) := by decide +kernel
theorem d_M_contained_30 : decode c_M_contained 30 = .ok (.ireturn, 1) := by decide +kernel
abbrev c_M_isNode : ByteArray := prog_6_method_12_code
def y_M_isNode : MethodName := ⟨"ReadGraphModel", "isNode", "(I)Z"⟩
theorem d_M_isNode_0 : decode c_M_isNode 0 = .ok (.iload_n 1, 1) := by decide +kernel
theorem d_M_isNode_1 : decode c_M_isNode 1 = .ok (.aload_n 0, 1) := by decide +kernel
theorem d_M_isNode_2 : decode c_M_isNode 2 = .ok (.getfield 77, 3) := by decide +kernel
theorem d_M_isNode_5 : decode c_M_isNode 5 = .ok (.invokestatic 73, 3) := by decide +kernel
theorem d_M_isNode_8 : decode c_M_isNode 8 = .ok (.ifCond .ne 16, 3) := by decide +kernel
theorem d_M_isNode_11 : decode c_M_isNode 11 = .ok (.aload_n 0, 1) := by decide +kernel
theorem d_M_isNode_12 : decode c_M_isNode 12 = .ok (.getfield 16, 3) := by decide +kernel
theorem d_M_isNode_15 : decode c_M_isNode 15 = .ok (.iload_n 1, 1) := by decide +kernel
theorem d_M_isNode_16 : decode c_M_isNode 16 = .ok (.baload, 1) := by decide +kernel
theorem d_M_isNode_17 : decode c_M_isNode 17 = .ok (.ifCond .ne 7, 3) := by decide +kernel
theorem d_M_isNode_20 : decode c_M_isNode 20 = .ok (.iconst 1, 1) := by decide +kernel
theorem d_M_isNode_21 : decode c_M_isNode 21 = .ok (.goto 4, 3) := by decide +kernel
theorem d_M_isNode_24 : decode c_M_isNode 24 = .ok (.iconst 0, 1) := by decide +kernel
theorem d_M_isNode_25 : decode c_M_isNode 25 = .ok (.ireturn, 1) := by decide +kernel
abbrev c_M_overlapOf : ByteArray := prog_6_method_13_code
def y_M_overlapOf : MethodName := ⟨"ReadGraphModel", "overlapOf", "(III)I"⟩
theorem d_M_overlapOf_0 : decode c_M_overlapOf 0 = .ok (.iconst 0, 1) := by decide +kernel
theorem d_M_overlapOf_1 : decode c_M_overlapOf 1 = .ok (.istore 4, 2) := by decide +kernel
theorem d_M_overlapOf_3 : decode c_M_overlapOf 3 = .ok (.iload_n 3, 1) := by decide +kernel
theorem d_M_overlapOf_4 : decode c_M_overlapOf 4 = .ok (.istore 5, 2) := by decide +kernel
theorem d_M_overlapOf_6 : decode c_M_overlapOf 6 = .ok (.iload 5, 2) := by decide +kernel
theorem d_M_overlapOf_8 : decode c_M_overlapOf 8 = .ok (.aload_n 0, 1) := by decide +kernel
theorem d_M_overlapOf_9 : decode c_M_overlapOf 9 = .ok (.getfield 7, 3) := by decide +kernel
theorem d_M_overlapOf_12 : decode c_M_overlapOf 12 = .ok (.iload_n 1, 1) := by decide +kernel
theorem d_M_overlapOf_13 : decode c_M_overlapOf 13 = .ok (.iaload, 1) := by decide +kernel
theorem d_M_overlapOf_14 : decode c_M_overlapOf 14 = .ok (.if_icmp .ge 50, 3) := by decide +kernel
theorem d_M_overlapOf_17 : decode c_M_overlapOf 17 = .ok (.iload 5, 2) := by decide +kernel
theorem d_M_overlapOf_19 : decode c_M_overlapOf 19 = .ok (.aload_n 0, 1) := by decide +kernel
theorem d_M_overlapOf_20 : decode c_M_overlapOf 20 = .ok (.getfield 7, 3) := by decide +kernel
theorem d_M_overlapOf_23 : decode c_M_overlapOf 23 = .ok (.iload_n 2, 1) := by decide +kernel
theorem d_M_overlapOf_24 : decode c_M_overlapOf 24 = .ok (.iaload, 1) := by decide +kernel
theorem d_M_overlapOf_25 : decode c_M_overlapOf 25 = .ok (.if_icmp .ge 39, 3) := by decide +kernel
theorem d_M_overlapOf_28 : decode c_M_overlapOf 28 = .ok (.aload_n 0, 1) := by decide +kernel
theorem d_M_overlapOf_29 : decode c_M_overlapOf 29 = .ok (.iload_n 1, 1) := by decide +kernel
theorem d_M_overlapOf_30 : decode c_M_overlapOf 30 = .ok (.aload_n 0, 1) := by decide +kernel
theorem d_M_overlapOf_31 : decode c_M_overlapOf 31 = .ok (.getfield 7, 3) := by decide +kernel
theorem d_M_overlapOf_34 : decode c_M_overlapOf 34 = .ok (.iload_n 1, 1) := by decide +kernel
theorem d_M_overlapOf_35 : decode c_M_overlapOf 35 = .ok (.iaload, 1) := by decide +kernel
theorem d_M_overlapOf_36 : decode c_M_overlapOf 36 = .ok (.iload 5, 2) := by decide +kernel
theorem d_M_overlapOf_38 : decode c_M_overlapOf 38 = .ok (.isub, 1) := by decide +kernel
theorem d_M_overlapOf_39 : decode c_M_overlapOf 39 = .ok (.iload_n 2, 1) := by decide +kernel
theorem d_M_overlapOf_40 : decode c_M_overlapOf 40 = .ok (.iconst 0, 1) := by decide +kernel
theorem d_M_overlapOf_41 : decode c_M_overlapOf 41 = .ok (.iload 5, 2) := by decide +kernel
theorem d_M_overlapOf_43 : decode c_M_overlapOf 43 = .ok (.invokevirtual 69, 3) := by decide +kernel
theorem d_M_overlapOf_46 : decode c_M_overlapOf 46 = .ok (.ifCond .eq 8, 3) := by decide +kernel
theorem d_M_overlapOf_49 : decode c_M_overlapOf 49 = .ok (.iload 5, 2) := by decide +kernel
theorem d_M_overlapOf_51 : decode c_M_overlapOf 51 = .ok (.goto 5, 3) := by decide +kernel
theorem d_M_overlapOf_54 : decode c_M_overlapOf 54 = .ok (.iload 4, 2) := by decide +kernel
theorem d_M_overlapOf_56 : decode c_M_overlapOf 56 = .ok (.istore 4, 2) := by decide +kernel
theorem d_M_overlapOf_58 : decode c_M_overlapOf 58 = .ok (.iinc 5 1, 3) := by decide +kernel
theorem d_M_overlapOf_61 : decode c_M_overlapOf 61 = .ok (.goto (-55), 3) := by decide +kernel
theorem d_M_overlapOf_64 : decode c_M_overlapOf 64 = .ok (.iload 4, 2) := by decide +kernel
theorem d_M_overlapOf_66 : decode c_M_overlapOf 66 = .ok (.ireturn, 1) := by decide +kernel
abbrev c_M_overlap : ByteArray := prog_6_method_14_code
def y_M_overlap : MethodName := ⟨"ReadGraphModel", "overlap", "(III)I"⟩
theorem d_M_overlap_0 : decode c_M_overlap 0 = .ok (.aload_n 0, 1) := by decide +kernel
theorem d_M_overlap_1 : decode c_M_overlap 1 = .ok (.aload_n 0, 1) := by decide +kernel
theorem d_M_overlap_2 : decode c_M_overlap 2 = .ok (.iload_n 1, 1) := by decide +kernel
theorem d_M_overlap_3 : decode c_M_overlap 3 = .ok (.invokevirtual 90, 3) := by decide +kernel
theorem d_M_overlap_6 : decode c_M_overlap 6 = .ok (.ifCond .eq 27, 3) := by decide +kernel
theorem d_M_overlap_9 : decode c_M_overlap 9 = .ok (.aload_n 0, 1) := by decide +kernel
theorem d_M_overlap_10 : decode c_M_overlap 10 = .ok (.iload_n 2, 1) := by decide +kernel
theorem d_M_overlap_11 : decode c_M_overlap 11 = .ok (.invokevirtual 90, 3) := by decide +kernel
theorem d_M_overlap_14 : decode c_M_overlap 14 = .ok (.ifCond .eq 19, 3) := by decide +kernel
theorem d_M_overlap_17 : decode c_M_overlap 17 = .ok (.iload_n 1, 1) := by decide +kernel
theorem d_M_overlap_18 : decode c_M_overlap 18 = .ok (.iload_n 2, 1) := by decide +kernel
theorem d_M_overlap_19 : decode c_M_overlap 19 = .ok (.if_icmp .eq 14, 3) := by decide +kernel
theorem d_M_overlap_22 : decode c_M_overlap 22 = .ok (.iload_n 3, 1) := by decide +kernel
theorem d_M_overlap_23 : decode c_M_overlap 23 = .ok (.iconst 1, 1) := by decide +kernel
theorem d_M_overlap_24 : decode c_M_overlap 24 = .ok (.isub, 1) := by decide +kernel
theorem d_M_overlap_25 : decode c_M_overlap 25 = .ok (.bipush 12, 2) := by decide +kernel
theorem d_M_overlap_27 : decode c_M_overlap 27 = .ok (.invokestatic 73, 3) := by decide +kernel
theorem d_M_overlap_30 : decode c_M_overlap 30 = .ok (.ifCond .eq 7, 3) := by decide +kernel
theorem d_M_overlap_33 : decode c_M_overlap 33 = .ok (.iconst 1, 1) := by decide +kernel
theorem d_M_overlap_34 : decode c_M_overlap 34 = .ok (.goto 4, 3) := by decide +kernel
theorem d_M_overlap_37 : decode c_M_overlap 37 = .ok (.iconst 0, 1) := by decide +kernel
theorem d_M_overlap_38 : decode c_M_overlap 38 = .ok (.iconst 0, 1) := by decide +kernel
theorem d_M_overlap_39 : decode c_M_overlap 39 = .ok (.invokevirtual 80, 3) := by decide +kernel
theorem d_M_overlap_42 : decode c_M_overlap 42 = .ok (.ifCond .eq 5, 3) := by decide +kernel
theorem d_M_overlap_45 : decode c_M_overlap 45 = .ok (.iconst 0, 1) := by decide +kernel
theorem d_M_overlap_46 : decode c_M_overlap 46 = .ok (.ireturn, 1) := by decide +kernel
theorem d_M_overlap_47 : decode c_M_overlap 47 = .ok (.aload_n 0, 1) := by decide +kernel
theorem d_M_overlap_48 : decode c_M_overlap 48 = .ok (.iload_n 1, 1) := by decide +kernel
theorem d_M_overlap_49 : decode c_M_overlap 49 = .ok (.iload_n 2, 1) := by decide +kernel
theorem d_M_overlap_50 : decode c_M_overlap 50 = .ok (.iload_n 3, 1) := by decide +kernel
theorem d_M_overlap_51 : decode c_M_overlap 51 = .ok (.invokevirtual 94, 3) := by decide +kernel
theorem d_M_overlap_54 : decode c_M_overlap 54 = .ok (.ireturn, 1) := by decide +kernel
abbrev c_M_between : ByteArray := prog_6_method_15_code
def y_M_between : MethodName := ⟨"ReadGraphModel", "between", "(II)I"⟩
theorem d_M_between_0 : decode c_M_between 0 = .ok (.iconst 0, 1) := by decide +kernel
theorem d_M_between_1 : decode c_M_between 1 = .ok (.istore_n 3, 1) := by decide +kernel
theorem d_M_between_2 : decode c_M_between 2 = .ok (.iload_n 3, 1) := by decide +kernel
theorem d_M_between_3 : decode c_M_between 3 = .ok (.aload_n 0, 1) := by decide +kernel
theorem d_M_between_4 : decode c_M_between 4 = .ok (.getfield 60, 3) := by decide +kernel
theorem d_M_between_7 : decode c_M_between 7 = .ok (.if_icmp .ge 36, 3) := by decide +kernel
theorem d_M_between_10 : decode c_M_between 10 = .ok (.aload_n 0, 1) := by decide +kernel
theorem d_M_between_11 : decode c_M_between 11 = .ok (.getfield 20, 3) := by decide +kernel
theorem d_M_between_14 : decode c_M_between 14 = .ok (.iload_n 3, 1) := by decide +kernel
theorem d_M_between_15 : decode c_M_between 15 = .ok (.iaload, 1) := by decide +kernel
theorem d_M_between_16 : decode c_M_between 16 = .ok (.iload_n 1, 1) := by decide +kernel
theorem d_M_between_17 : decode c_M_between 17 = .ok (.if_icmp .ne 20, 3) := by decide +kernel
theorem d_M_between_20 : decode c_M_between 20 = .ok (.aload_n 0, 1) := by decide +kernel
theorem d_M_between_21 : decode c_M_between 21 = .ok (.getfield 23, 3) := by decide +kernel
theorem d_M_between_24 : decode c_M_between 24 = .ok (.iload_n 3, 1) := by decide +kernel
theorem d_M_between_25 : decode c_M_between 25 = .ok (.iaload, 1) := by decide +kernel
theorem d_M_between_26 : decode c_M_between 26 = .ok (.iload_n 2, 1) := by decide +kernel
theorem d_M_between_27 : decode c_M_between 27 = .ok (.if_icmp .ne 10, 3) := by decide +kernel
theorem d_M_between_30 : decode c_M_between 30 = .ok (.aload_n 0, 1) := by decide +kernel
theorem d_M_between_31 : decode c_M_between 31 = .ok (.getfield 26, 3) := by decide +kernel
theorem d_M_between_34 : decode c_M_between 34 = .ok (.iload_n 3, 1) := by decide +kernel
theorem d_M_between_35 : decode c_M_between 35 = .ok (.iaload, 1) := by decide +kernel
theorem d_M_between_36 : decode c_M_between 36 = .ok (.ireturn, 1) := by decide +kernel
theorem d_M_between_37 : decode c_M_between 37 = .ok (.iinc 3 1, 3) := by decide +kernel
theorem d_M_between_40 : decode c_M_between 40 = .ok (.goto (-38), 3) := by decide +kernel
theorem d_M_between_43 : decode c_M_between 43 = .ok (.iconst 0, 1) := by decide +kernel
theorem d_M_between_44 : decode c_M_between 44 = .ok (.ireturn, 1) := by decide +kernel
abbrev c_M_isSaid : ByteArray := prog_6_method_16_code
def y_M_isSaid : MethodName := ⟨"ReadGraphModel", "isSaid", "(I)Z"⟩
theorem d_M_isSaid_0 : decode c_M_isSaid 0 = .ok (.aload_n 0, 1) := by decide +kernel
theorem d_M_isSaid_1 : decode c_M_isSaid 1 = .ok (.getfield 20, 3) := by decide +kernel
theorem d_M_isSaid_4 : decode c_M_isSaid 4 = .ok (.iload_n 1, 1) := by decide +kernel
theorem d_M_isSaid_5 : decode c_M_isSaid 5 = .ok (.iaload, 1) := by decide +kernel
theorem d_M_isSaid_6 : decode c_M_isSaid 6 = .ok (.istore_n 2, 1) := by decide +kernel
theorem d_M_isSaid_7 : decode c_M_isSaid 7 = .ok (.aload_n 0, 1) := by decide +kernel
theorem d_M_isSaid_8 : decode c_M_isSaid 8 = .ok (.getfield 23, 3) := by decide +kernel
theorem d_M_isSaid_11 : decode c_M_isSaid 11 = .ok (.iload_n 1, 1) := by decide +kernel
theorem d_M_isSaid_12 : decode c_M_isSaid 12 = .ok (.iaload, 1) := by decide +kernel
theorem d_M_isSaid_13 : decode c_M_isSaid 13 = .ok (.istore_n 3, 1) := by decide +kernel
theorem d_M_isSaid_14 : decode c_M_isSaid 14 = .ok (.iconst 0, 1) := by decide +kernel
theorem d_M_isSaid_15 : decode c_M_isSaid 15 = .ok (.istore 4, 2) := by decide +kernel
theorem d_M_isSaid_17 : decode c_M_isSaid 17 = .ok (.iconst 0, 1) := by decide +kernel
theorem d_M_isSaid_18 : decode c_M_isSaid 18 = .ok (.istore 5, 2) := by decide +kernel
theorem d_M_isSaid_20 : decode c_M_isSaid 20 = .ok (.iload 5, 2) := by decide +kernel
theorem d_M_isSaid_22 : decode c_M_isSaid 22 = .ok (.aload_n 0, 1) := by decide +kernel
theorem d_M_isSaid_23 : decode c_M_isSaid 23 = .ok (.getfield 77, 3) := by decide +kernel
theorem d_M_isSaid_26 : decode c_M_isSaid 26 = .ok (.if_icmp .ge 109, 3) := by decide +kernel
theorem d_M_isSaid_29 : decode c_M_isSaid 29 = .ok (.aload_n 0, 1) := by decide +kernel
theorem d_M_isSaid_30 : decode c_M_isSaid 30 = .ok (.iload_n 2, 1) := by decide +kernel
theorem d_M_isSaid_31 : decode c_M_isSaid 31 = .ok (.iload 5, 2) := by decide +kernel
theorem d_M_isSaid_33 : decode c_M_isSaid 33 = .ok (.invokevirtual 98, 3) := by decide +kernel
theorem d_M_isSaid_36 : decode c_M_isSaid 36 = .ok (.istore 6, 2) := by decide +kernel
theorem d_M_isSaid_38 : decode c_M_isSaid 38 = .ok (.aload_n 0, 1) := by decide +kernel
theorem d_M_isSaid_39 : decode c_M_isSaid 39 = .ok (.iload 5, 2) := by decide +kernel
theorem d_M_isSaid_41 : decode c_M_isSaid 41 = .ok (.iload_n 3, 1) := by decide +kernel
theorem d_M_isSaid_42 : decode c_M_isSaid 42 = .ok (.invokevirtual 98, 3) := by decide +kernel
theorem d_M_isSaid_45 : decode c_M_isSaid 45 = .ok (.istore 7, 2) := by decide +kernel
theorem d_M_isSaid_47 : decode c_M_isSaid 47 = .ok (.iload 5, 2) := by decide +kernel
theorem d_M_isSaid_49 : decode c_M_isSaid 49 = .ok (.iload_n 2, 1) := by decide +kernel
theorem d_M_isSaid_50 : decode c_M_isSaid 50 = .ok (.if_icmp .eq 13, 3) := by decide +kernel
theorem d_M_isSaid_53 : decode c_M_isSaid 53 = .ok (.iload 5, 2) := by decide +kernel
theorem d_M_isSaid_55 : decode c_M_isSaid 55 = .ok (.iload_n 3, 1) := by decide +kernel
theorem d_M_isSaid_56 : decode c_M_isSaid 56 = .ok (.if_icmp .eq 7, 3) := by decide +kernel
theorem d_M_isSaid_59 : decode c_M_isSaid 59 = .ok (.iconst 1, 1) := by decide +kernel
theorem d_M_isSaid_60 : decode c_M_isSaid 60 = .ok (.goto 4, 3) := by decide +kernel
theorem d_M_isSaid_63 : decode c_M_isSaid 63 = .ok (.iconst 0, 1) := by decide +kernel
theorem d_M_isSaid_64 : decode c_M_isSaid 64 = .ok (.istore 8, 2) := by decide +kernel
theorem d_M_isSaid_66 : decode c_M_isSaid 66 = .ok (.iload 4, 2) := by decide +kernel
theorem d_M_isSaid_68 : decode c_M_isSaid 68 = .ok (.ifCond .ne 54, 3) := by decide +kernel
theorem d_M_isSaid_71 : decode c_M_isSaid 71 = .ok (.iload 8, 2) := by decide +kernel
theorem d_M_isSaid_73 : decode c_M_isSaid 73 = .ok (.ifCond .eq 53, 3) := by decide +kernel
theorem d_M_isSaid_76 : decode c_M_isSaid 76 = .ok (.iload 6, 2) := by decide +kernel
theorem d_M_isSaid_78 : decode c_M_isSaid 78 = .ok (.ifCond .le 48, 3) := by decide +kernel
theorem d_M_isSaid_81 : decode c_M_isSaid 81 = .ok (.iload 7, 2) := by decide +kernel
theorem d_M_isSaid_83 : decode c_M_isSaid 83 = .ok (.ifCond .le 43, 3) := by decide +kernel
theorem d_M_isSaid_86 : decode c_M_isSaid 86 = .ok (.aload_n 0, 1) := by decide +kernel
theorem d_M_isSaid_87 : decode c_M_isSaid 87 = .ok (.getfield 7, 3) := by decide +kernel
theorem d_M_isSaid_90 : decode c_M_isSaid 90 = .ok (.iload 5, 2) := by decide +kernel
theorem d_M_isSaid_92 : decode c_M_isSaid 92 = .ok (.iaload, 1) := by decide +kernel
theorem d_M_isSaid_93 : decode c_M_isSaid 93 = .ok (.iload 6, 2) := by decide +kernel
theorem d_M_isSaid_95 : decode c_M_isSaid 95 = .ok (.isub, 1) := by decide +kernel
theorem d_M_isSaid_96 : decode c_M_isSaid 96 = .ok (.aload_n 0, 1) := by decide +kernel
theorem d_M_isSaid_97 : decode c_M_isSaid 97 = .ok (.getfield 7, 3) := by decide +kernel
theorem d_M_isSaid_100 : decode c_M_isSaid 100 = .ok (.iload_n 3, 1) := by decide +kernel
theorem d_M_isSaid_101 : decode c_M_isSaid 101 = .ok (.iaload, 1) := by decide +kernel
theorem d_M_isSaid_102 : decode c_M_isSaid 102 = .ok (.iadd, 1) := by decide +kernel
theorem d_M_isSaid_103 : decode c_M_isSaid 103 = .ok (.iload 7, 2) := by decide +kernel
theorem d_M_isSaid_105 : decode c_M_isSaid 105 = .ok (.isub, 1) := by decide +kernel
theorem d_M_isSaid_106 : decode c_M_isSaid 106 = .ok (.aload_n 0, 1) := by decide +kernel
theorem d_M_isSaid_107 : decode c_M_isSaid 107 = .ok (.getfield 7, 3) := by decide +kernel
theorem d_M_isSaid_110 : decode c_M_isSaid 110 = .ok (.iload_n 3, 1) := by decide +kernel
theorem d_M_isSaid_111 : decode c_M_isSaid 111 = .ok (.iaload, 1) := by decide +kernel
theorem d_M_isSaid_112 : decode c_M_isSaid 112 = .ok (.aload_n 0, 1) := by decide +kernel
theorem d_M_isSaid_113 : decode c_M_isSaid 113 = .ok (.getfield 26, 3) := by decide +kernel
theorem d_M_isSaid_116 : decode c_M_isSaid 116 = .ok (.iload_n 1, 1) := by decide +kernel
theorem d_M_isSaid_117 : decode c_M_isSaid 117 = .ok (.iaload, 1) := by decide +kernel
theorem d_M_isSaid_118 : decode c_M_isSaid 118 = .ok (.isub, 1) := by decide +kernel
theorem d_M_isSaid_119 : decode c_M_isSaid 119 = .ok (.if_icmp .ne 7, 3) := by decide +kernel
theorem d_M_isSaid_122 : decode c_M_isSaid 122 = .ok (.iconst 1, 1) := by decide +kernel
theorem d_M_isSaid_123 : decode c_M_isSaid 123 = .ok (.goto 4, 3) := by decide +kernel
theorem d_M_isSaid_126 : decode c_M_isSaid 126 = .ok (.iconst 0, 1) := by decide +kernel
theorem d_M_isSaid_127 : decode c_M_isSaid 127 = .ok (.istore 4, 2) := by decide +kernel
theorem d_M_isSaid_129 : decode c_M_isSaid 129 = .ok (.iinc 5 1, 3) := by decide +kernel
theorem d_M_isSaid_132 : decode c_M_isSaid 132 = .ok (.goto (-112), 3) := by decide +kernel
theorem d_M_isSaid_135 : decode c_M_isSaid 135 = .ok (.iload 4, 2) := by decide +kernel
theorem d_M_isSaid_137 : decode c_M_isSaid 137 = .ok (.ireturn, 1) := by decide +kernel
abbrev c_M_spread : ByteArray := prog_6_method_17_code
def y_M_spread : MethodName := ⟨"ReadGraphModel", "spread", "()V"⟩
theorem d_M_spread_0 : decode c_M_spread 0 = .ok (.iconst 0, 1) := by decide +kernel
theorem d_M_spread_1 : decode c_M_spread 1 = .ok (.istore_n 1, 1) := by decide +kernel
theorem d_M_spread_2 : decode c_M_spread 2 = .ok (.iload_n 1, 1) := by decide +kernel
theorem d_M_spread_3 : decode c_M_spread 3 = .ok (.aload_n 0, 1) := by decide +kernel
theorem d_M_spread_4 : decode c_M_spread 4 = .ok (.getfield 63, 3) := by decide +kernel
theorem d_M_spread_7 : decode c_M_spread 7 = .ok (.if_icmp .ge 31, 3) := by decide +kernel
theorem d_M_spread_10 : decode c_M_spread 10 = .ok (.aload_n 0, 1) := by decide +kernel
theorem d_M_spread_11 : decode c_M_spread 11 = .ok (.getfield 38, 3) := by decide +kernel
theorem d_M_spread_14 : decode c_M_spread 14 = .ok (.bipush 9, 2) := by decide +kernel
theorem d_M_spread_16 : decode c_M_spread 16 = .ok (.aload_n 0, 1) := by decide +kernel
theorem d_M_spread_17 : decode c_M_spread 17 = .ok (.getfield 29, 3) := by decide +kernel
theorem d_M_spread_20 : decode c_M_spread 20 = .ok (.iload_n 1, 1) := by decide +kernel
theorem d_M_spread_21 : decode c_M_spread 21 = .ok (.iaload, 1) := by decide +kernel
theorem d_M_spread_22 : decode c_M_spread 22 = .ok (.imul, 1) := by decide +kernel
theorem d_M_spread_23 : decode c_M_spread 23 = .ok (.aload_n 0, 1) := by decide +kernel
theorem d_M_spread_24 : decode c_M_spread 24 = .ok (.getfield 32, 3) := by decide +kernel
theorem d_M_spread_27 : decode c_M_spread 27 = .ok (.iload_n 1, 1) := by decide +kernel
theorem d_M_spread_28 : decode c_M_spread 28 = .ok (.iaload, 1) := by decide +kernel
theorem d_M_spread_29 : decode c_M_spread 29 = .ok (.iadd, 1) := by decide +kernel
theorem d_M_spread_30 : decode c_M_spread 30 = .ok (.iconst 1, 1) := by decide +kernel
theorem d_M_spread_31 : decode c_M_spread 31 = .ok (.bastore, 1) := by decide +kernel
theorem d_M_spread_32 : decode c_M_spread 32 = .ok (.iinc 1 1, 3) := by decide +kernel
theorem d_M_spread_35 : decode c_M_spread 35 = .ok (.goto (-33), 3) := by decide +kernel
theorem d_M_spread_38 : decode c_M_spread 38 = .ok (.iconst 1, 1) := by decide +kernel
theorem d_M_spread_39 : decode c_M_spread 39 = .ok (.istore_n 1, 1) := by decide +kernel
theorem d_M_spread_40 : decode c_M_spread 40 = .ok (.iload_n 1, 1) := by decide +kernel
theorem d_M_spread_41 : decode c_M_spread 41 = .ok (.ifCond .eq 98, 3) := by decide +kernel
theorem d_M_spread_44 : decode c_M_spread 44 = .ok (.iconst 0, 1) := by decide +kernel
theorem d_M_spread_45 : decode c_M_spread 45 = .ok (.istore_n 1, 1) := by decide +kernel
theorem d_M_spread_46 : decode c_M_spread 46 = .ok (.iconst 0, 1) := by decide +kernel
theorem d_M_spread_47 : decode c_M_spread 47 = .ok (.istore_n 2, 1) := by decide +kernel
theorem d_M_spread_48 : decode c_M_spread 48 = .ok (.iload_n 2, 1) := by decide +kernel
theorem d_M_spread_49 : decode c_M_spread 49 = .ok (.bipush 9, 2) := by decide +kernel
theorem d_M_spread_51 : decode c_M_spread 51 = .ok (.if_icmp .ge 85, 3) := by decide +kernel
theorem d_M_spread_54 : decode c_M_spread 54 = .ok (.iconst 0, 1) := by decide +kernel
theorem d_M_spread_55 : decode c_M_spread 55 = .ok (.istore_n 3, 1) := by decide +kernel
theorem d_M_spread_56 : decode c_M_spread 56 = .ok (.iload_n 3, 1) := by decide +kernel
theorem d_M_spread_57 : decode c_M_spread 57 = .ok (.aload_n 0, 1) := by decide +kernel
theorem d_M_spread_58 : decode c_M_spread 58 = .ok (.getfield 63, 3) := by decide +kernel
theorem d_M_spread_61 : decode c_M_spread 61 = .ok (.if_icmp .ge 69, 3) := by decide +kernel
theorem d_M_spread_64 : decode c_M_spread 64 = .ok (.aload_n 0, 1) := by decide +kernel
theorem d_M_spread_65 : decode c_M_spread 65 = .ok (.getfield 38, 3) := by decide +kernel
theorem d_M_spread_68 : decode c_M_spread 68 = .ok (.bipush 9, 2) := by decide +kernel
theorem d_M_spread_70 : decode c_M_spread 70 = .ok (.iload_n 2, 1) := by decide +kernel
theorem d_M_spread_71 : decode c_M_spread 71 = .ok (.imul, 1) := by decide +kernel
theorem d_M_spread_72 : decode c_M_spread 72 = .ok (.aload_n 0, 1) := by decide +kernel
theorem d_M_spread_73 : decode c_M_spread 73 = .ok (.getfield 29, 3) := by decide +kernel
theorem d_M_spread_76 : decode c_M_spread 76 = .ok (.iload_n 3, 1) := by decide +kernel
theorem d_M_spread_77 : decode c_M_spread 77 = .ok (.iaload, 1) := by decide +kernel
theorem d_M_spread_78 : decode c_M_spread 78 = .ok (.iadd, 1) := by decide +kernel
theorem d_M_spread_79 : decode c_M_spread 79 = .ok (.baload, 1) := by decide +kernel
theorem d_M_spread_80 : decode c_M_spread 80 = .ok (.ifCond .eq 44, 3) := by decide +kernel
theorem d_M_spread_83 : decode c_M_spread 83 = .ok (.aload_n 0, 1) := by decide +kernel
theorem d_M_spread_84 : decode c_M_spread 84 = .ok (.getfield 38, 3) := by decide +kernel
theorem d_M_spread_87 : decode c_M_spread 87 = .ok (.bipush 9, 2) := by decide +kernel
theorem d_M_spread_89 : decode c_M_spread 89 = .ok (.iload_n 2, 1) := by decide +kernel
theorem d_M_spread_90 : decode c_M_spread 90 = .ok (.imul, 1) := by decide +kernel
theorem d_M_spread_91 : decode c_M_spread 91 = .ok (.aload_n 0, 1) := by decide +kernel
theorem d_M_spread_92 : decode c_M_spread 92 = .ok (.getfield 32, 3) := by decide +kernel
theorem d_M_spread_95 : decode c_M_spread 95 = .ok (.iload_n 3, 1) := by decide +kernel
theorem d_M_spread_96 : decode c_M_spread 96 = .ok (.iaload, 1) := by decide +kernel
theorem d_M_spread_97 : decode c_M_spread 97 = .ok (.iadd, 1) := by decide +kernel
theorem d_M_spread_98 : decode c_M_spread 98 = .ok (.baload, 1) := by decide +kernel
theorem d_M_spread_99 : decode c_M_spread 99 = .ok (.ifCond .eq 6, 3) := by decide +kernel
theorem d_M_spread_102 : decode c_M_spread 102 = .ok (.goto 22, 3) := by decide +kernel
theorem d_M_spread_105 : decode c_M_spread 105 = .ok (.aload_n 0, 1) := by decide +kernel
theorem d_M_spread_106 : decode c_M_spread 106 = .ok (.getfield 38, 3) := by decide +kernel
theorem d_M_spread_109 : decode c_M_spread 109 = .ok (.bipush 9, 2) := by decide +kernel
theorem d_M_spread_111 : decode c_M_spread 111 = .ok (.iload_n 2, 1) := by decide +kernel
theorem d_M_spread_112 : decode c_M_spread 112 = .ok (.imul, 1) := by decide +kernel
theorem d_M_spread_113 : decode c_M_spread 113 = .ok (.aload_n 0, 1) := by decide +kernel
theorem d_M_spread_114 : decode c_M_spread 114 = .ok (.getfield 32, 3) := by decide +kernel
theorem d_M_spread_117 : decode c_M_spread 117 = .ok (.iload_n 3, 1) := by decide +kernel
theorem d_M_spread_118 : decode c_M_spread 118 = .ok (.iaload, 1) := by decide +kernel
theorem d_M_spread_119 : decode c_M_spread 119 = .ok (.iadd, 1) := by decide +kernel
theorem d_M_spread_120 : decode c_M_spread 120 = .ok (.iconst 1, 1) := by decide +kernel
theorem d_M_spread_121 : decode c_M_spread 121 = .ok (.bastore, 1) := by decide +kernel
theorem d_M_spread_122 : decode c_M_spread 122 = .ok (.iconst 1, 1) := by decide +kernel
theorem d_M_spread_123 : decode c_M_spread 123 = .ok (.istore_n 1, 1) := by decide +kernel
theorem d_M_spread_124 : decode c_M_spread 124 = .ok (.iinc 3 1, 3) := by decide +kernel
theorem d_M_spread_127 : decode c_M_spread 127 = .ok (.goto (-71), 3) := by decide +kernel
theorem d_M_spread_130 : decode c_M_spread 130 = .ok (.iinc 2 1, 3) := by decide +kernel
theorem d_M_spread_133 : decode c_M_spread 133 = .ok (.goto (-85), 3) := by decide +kernel
theorem d_M_spread_136 : decode c_M_spread 136 = .ok (.goto (-96), 3) := by decide +kernel
theorem d_M_spread_139 : decode c_M_spread 139 = .ok (.return_, 1) := by decide +kernel
abbrev c_M_build : ByteArray := prog_6_method_18_code
def y_M_build : MethodName := ⟨"ReadGraphModel", "build", "(I)I"⟩
theorem d_M_build_0 : decode c_M_build 0 = .ok (.aload_n 0, 1) := by decide +kernel
theorem d_M_build_1 : decode c_M_build 1 = .ok (.iload_n 1, 1) := by decide +kernel
theorem d_M_build_2 : decode c_M_build 2 = .ok (.iconst 1, 1) := by decide +kernel
theorem d_M_build_3 : decode c_M_build 3 = .ok (.isub, 1) := by decide +kernel
theorem d_M_build_4 : decode c_M_build 4 = .ok (.bipush 12, 2) := by decide +kernel
theorem d_M_build_6 : decode c_M_build 6 = .ok (.invokestatic 73, 3) := by decide +kernel
theorem d_M_build_9 : decode c_M_build 9 = .ok (.iconst 0, 1) := by decide +kernel
theorem d_M_build_10 : decode c_M_build 10 = .ok (.invokevirtual 80, 3) := by decide +kernel
theorem d_M_build_13 : decode c_M_build 13 = .ok (.ifCond .eq 5, 3) := by decide +kernel
theorem d_M_build_16 : decode c_M_build 16 = .ok (.iconst 0, 1) := by decide +kernel
theorem d_M_build_17 : decode c_M_build 17 = .ok (.ireturn, 1) := by decide +kernel
theorem d_M_build_18 : decode c_M_build 18 = .ok (.aload_n 0, 1) := by decide +kernel
theorem d_M_build_19 : decode c_M_build 19 = .ok (.invokevirtual 84, 3) := by decide +kernel
theorem d_M_build_22 : decode c_M_build 22 = .ok (.iconst 0, 1) := by decide +kernel
theorem d_M_build_23 : decode c_M_build 23 = .ok (.istore_n 2, 1) := by decide +kernel
theorem d_M_build_24 : decode c_M_build 24 = .ok (.iload_n 2, 1) := by decide +kernel
theorem d_M_build_25 : decode c_M_build 25 = .ok (.aload_n 0, 1) := by decide +kernel
theorem d_M_build_26 : decode c_M_build 26 = .ok (.getfield 77, 3) := by decide +kernel
theorem d_M_build_29 : decode c_M_build 29 = .ok (.if_icmp .ge 108, 3) := by decide +kernel
theorem d_M_build_32 : decode c_M_build 32 = .ok (.iconst 0, 1) := by decide +kernel
theorem d_M_build_33 : decode c_M_build 33 = .ok (.istore_n 3, 1) := by decide +kernel
theorem d_M_build_34 : decode c_M_build 34 = .ok (.iload_n 3, 1) := by decide +kernel
theorem d_M_build_35 : decode c_M_build 35 = .ok (.aload_n 0, 1) := by decide +kernel
theorem d_M_build_36 : decode c_M_build 36 = .ok (.getfield 77, 3) := by decide +kernel
theorem d_M_build_39 : decode c_M_build 39 = .ok (.if_icmp .ge 92, 3) := by decide +kernel
theorem d_M_build_42 : decode c_M_build 42 = .ok (.iload_n 2, 1) := by decide +kernel
theorem d_M_build_43 : decode c_M_build 43 = .ok (.iload_n 3, 1) := by decide +kernel
theorem d_M_build_44 : decode c_M_build 44 = .ok (.if_icmp .eq 29, 3) := by decide +kernel
theorem d_M_build_47 : decode c_M_build 47 = .ok (.aload_n 0, 1) := by decide +kernel
theorem d_M_build_48 : decode c_M_build 48 = .ok (.iload_n 2, 1) := by decide +kernel
theorem d_M_build_49 : decode c_M_build 49 = .ok (.invokevirtual 90, 3) := by decide +kernel
theorem d_M_build_52 : decode c_M_build 52 = .ok (.ifCond .eq 21, 3) := by decide +kernel
theorem d_M_build_55 : decode c_M_build 55 = .ok (.aload_n 0, 1) := by decide +kernel
theorem d_M_build_56 : decode c_M_build 56 = .ok (.iload_n 3, 1) := by decide +kernel
theorem d_M_build_57 : decode c_M_build 57 = .ok (.invokevirtual 90, 3) := by decide +kernel
theorem d_M_build_60 : decode c_M_build 60 = .ok (.ifCond .eq 13, 3) := by decide +kernel
theorem d_M_build_63 : decode c_M_build 63 = .ok (.aload_n 0, 1) := by decide +kernel
theorem d_M_build_64 : decode c_M_build 64 = .ok (.iload_n 2, 1) := by decide +kernel
theorem d_M_build_65 : decode c_M_build 65 = .ok (.iload_n 3, 1) := by decide +kernel
theorem d_M_build_66 : decode c_M_build 66 = .ok (.iload_n 1, 1) := by decide +kernel
theorem d_M_build_67 : decode c_M_build 67 = .ok (.invokevirtual 94, 3) := by decide +kernel
theorem d_M_build_70 : decode c_M_build 70 = .ok (.goto 4, 3) := by decide +kernel
theorem d_M_build_73 : decode c_M_build 73 = .ok (.iconst 0, 1) := by decide +kernel
theorem d_M_build_74 : decode c_M_build 74 = .ok (.istore 4, 2) := by decide +kernel
theorem d_M_build_76 : decode c_M_build 76 = .ok (.iload 4, 2) := by decide +kernel
theorem d_M_build_78 : decode c_M_build 78 = .ok (.ifCond .ne 6, 3) := by decide +kernel
theorem d_M_build_81 : decode c_M_build 81 = .ok (.goto 44, 3) := by decide +kernel
theorem d_M_build_84 : decode c_M_build 84 = .ok (.aload_n 0, 1) := by decide +kernel
theorem d_M_build_85 : decode c_M_build 85 = .ok (.getfield 20, 3) := by decide +kernel
theorem d_M_build_88 : decode c_M_build 88 = .ok (.aload_n 0, 1) := by decide +kernel
theorem d_M_build_89 : decode c_M_build 89 = .ok (.getfield 60, 3) := by decide +kernel
theorem d_M_build_92 : decode c_M_build 92 = .ok (.iload_n 2, 1) := by decide +kernel
theorem d_M_build_93 : decode c_M_build 93 = .ok (.iastore, 1) := by decide +kernel
theorem d_M_build_94 : decode c_M_build 94 = .ok (.aload_n 0, 1) := by decide +kernel
theorem d_M_build_95 : decode c_M_build 95 = .ok (.getfield 23, 3) := by decide +kernel
theorem d_M_build_98 : decode c_M_build 98 = .ok (.aload_n 0, 1) := by decide +kernel
theorem d_M_build_99 : decode c_M_build 99 = .ok (.getfield 60, 3) := by decide +kernel
theorem d_M_build_102 : decode c_M_build 102 = .ok (.iload_n 3, 1) := by decide +kernel
theorem d_M_build_103 : decode c_M_build 103 = .ok (.iastore, 1) := by decide +kernel
theorem d_M_build_104 : decode c_M_build 104 = .ok (.aload_n 0, 1) := by decide +kernel
theorem d_M_build_105 : decode c_M_build 105 = .ok (.getfield 26, 3) := by decide +kernel
theorem d_M_build_108 : decode c_M_build 108 = .ok (.aload_n 0, 1) := by decide +kernel
theorem d_M_build_109 : decode c_M_build 109 = .ok (.getfield 60, 3) := by decide +kernel
theorem d_M_build_112 : decode c_M_build 112 = .ok (.iload 4, 2) := by decide +kernel
theorem d_M_build_114 : decode c_M_build 114 = .ok (.iastore, 1) := by decide +kernel
theorem d_M_build_115 : decode c_M_build 115 = .ok (.aload_n 0, 1) := by decide +kernel
theorem d_M_build_116 : decode c_M_build 116 = .ok (.dup, 1) := by decide +kernel
theorem d_M_build_117 : decode c_M_build 117 = .ok (.getfield 60, 3) := by decide +kernel
theorem d_M_build_120 : decode c_M_build 120 = .ok (.iconst 1, 1) := by decide +kernel
theorem d_M_build_121 : decode c_M_build 121 = .ok (.iadd, 1) := by decide +kernel
theorem d_M_build_122 : decode c_M_build 122 = .ok (.putfield 60, 3) := by decide +kernel
theorem d_M_build_125 : decode c_M_build 125 = .ok (.iinc 3 1, 3) := by decide +kernel
theorem d_M_build_128 : decode c_M_build 128 = .ok (.goto (-94), 3) := by decide +kernel
theorem d_M_build_131 : decode c_M_build 131 = .ok (.iinc 2 1, 3) := by decide +kernel
theorem d_M_build_134 : decode c_M_build 134 = .ok (.goto (-110), 3) := by decide +kernel
theorem d_M_build_137 : decode c_M_build 137 = .ok (.iconst 0, 1) := by decide +kernel
theorem d_M_build_138 : decode c_M_build 138 = .ok (.istore_n 2, 1) := by decide +kernel
theorem d_M_build_139 : decode c_M_build 139 = .ok (.iload_n 2, 1) := by decide +kernel
theorem d_M_build_140 : decode c_M_build 140 = .ok (.aload_n 0, 1) := by decide +kernel
theorem d_M_build_141 : decode c_M_build 141 = .ok (.getfield 60, 3) := by decide +kernel
theorem d_M_build_144 : decode c_M_build 144 = .ok (.if_icmp .ge 75, 3) := by decide +kernel
theorem d_M_build_147 : decode c_M_build 147 = .ok (.aload_n 0, 1) := by decide +kernel
theorem d_M_build_148 : decode c_M_build 148 = .ok (.iload_n 2, 1) := by decide +kernel
theorem d_M_build_149 : decode c_M_build 149 = .ok (.invokevirtual 102, 3) := by decide +kernel
theorem d_M_build_152 : decode c_M_build 152 = .ok (.ifCond .eq 6, 3) := by decide +kernel
theorem d_M_build_155 : decode c_M_build 155 = .ok (.goto 58, 3) := by decide +kernel
theorem d_M_build_158 : decode c_M_build 158 = .ok (.aload_n 0, 1) := by decide +kernel
theorem d_M_build_159 : decode c_M_build 159 = .ok (.getfield 29, 3) := by decide +kernel
theorem d_M_build_162 : decode c_M_build 162 = .ok (.aload_n 0, 1) := by decide +kernel
theorem d_M_build_163 : decode c_M_build 163 = .ok (.getfield 63, 3) := by decide +kernel
theorem d_M_build_166 : decode c_M_build 166 = .ok (.aload_n 0, 1) := by decide +kernel
theorem d_M_build_167 : decode c_M_build 167 = .ok (.getfield 20, 3) := by decide +kernel
theorem d_M_build_170 : decode c_M_build 170 = .ok (.iload_n 2, 1) := by decide +kernel
theorem d_M_build_171 : decode c_M_build 171 = .ok (.iaload, 1) := by decide +kernel
theorem d_M_build_172 : decode c_M_build 172 = .ok (.iastore, 1) := by decide +kernel
theorem d_M_build_173 : decode c_M_build 173 = .ok (.aload_n 0, 1) := by decide +kernel
theorem d_M_build_174 : decode c_M_build 174 = .ok (.getfield 32, 3) := by decide +kernel
theorem d_M_build_177 : decode c_M_build 177 = .ok (.aload_n 0, 1) := by decide +kernel
theorem d_M_build_178 : decode c_M_build 178 = .ok (.getfield 63, 3) := by decide +kernel
theorem d_M_build_181 : decode c_M_build 181 = .ok (.aload_n 0, 1) := by decide +kernel
theorem d_M_build_182 : decode c_M_build 182 = .ok (.getfield 23, 3) := by decide +kernel
theorem d_M_build_185 : decode c_M_build 185 = .ok (.iload_n 2, 1) := by decide +kernel
theorem d_M_build_186 : decode c_M_build 186 = .ok (.iaload, 1) := by decide +kernel
theorem d_M_build_187 : decode c_M_build 187 = .ok (.iastore, 1) := by decide +kernel
theorem d_M_build_188 : decode c_M_build 188 = .ok (.aload_n 0, 1) := by decide +kernel
theorem d_M_build_189 : decode c_M_build 189 = .ok (.getfield 35, 3) := by decide +kernel
theorem d_M_build_192 : decode c_M_build 192 = .ok (.aload_n 0, 1) := by decide +kernel
theorem d_M_build_193 : decode c_M_build 193 = .ok (.getfield 63, 3) := by decide +kernel
theorem d_M_build_196 : decode c_M_build 196 = .ok (.aload_n 0, 1) := by decide +kernel
theorem d_M_build_197 : decode c_M_build 197 = .ok (.getfield 26, 3) := by decide +kernel
theorem d_M_build_200 : decode c_M_build 200 = .ok (.iload_n 2, 1) := by decide +kernel
theorem d_M_build_201 : decode c_M_build 201 = .ok (.iaload, 1) := by decide +kernel
theorem d_M_build_202 : decode c_M_build 202 = .ok (.iastore, 1) := by decide +kernel
theorem d_M_build_203 : decode c_M_build 203 = .ok (.aload_n 0, 1) := by decide +kernel
theorem d_M_build_204 : decode c_M_build 204 = .ok (.dup, 1) := by decide +kernel
theorem d_M_build_205 : decode c_M_build 205 = .ok (.getfield 63, 3) := by decide +kernel
theorem d_M_build_208 : decode c_M_build 208 = .ok (.iconst 1, 1) := by decide +kernel
theorem d_M_build_209 : decode c_M_build 209 = .ok (.iadd, 1) := by decide +kernel
theorem d_M_build_210 : decode c_M_build 210 = .ok (.putfield 63, 3) := by decide +kernel
theorem d_M_build_213 : decode c_M_build 213 = .ok (.iinc 2 1, 3) := by decide +kernel
theorem d_M_build_216 : decode c_M_build 216 = .ok (.goto (-77), 3) := by decide +kernel
theorem d_M_build_219 : decode c_M_build 219 = .ok (.aload_n 0, 1) := by decide +kernel
theorem d_M_build_220 : decode c_M_build 220 = .ok (.invokevirtual 105, 3) := by decide +kernel
theorem d_M_build_223 : decode c_M_build 223 = .ok (.aload_n 0, 1) := by decide +kernel
theorem d_M_build_224 : decode c_M_build 224 = .ok (.getfield 63, 3) := by decide +kernel
theorem d_M_build_227 : decode c_M_build 227 = .ok (.ireturn, 1) := by decide +kernel
abbrev c_M_all : ByteArray := prog_6_method_19_code
def y_M_all : MethodName := ⟨"ReadGraphModel", "all", "()I"⟩
theorem d_M_all_0 : decode c_M_all 0 = .ok (.aload_n 0, 1) := by decide +kernel
theorem d_M_all_1 : decode c_M_all 1 = .ok (.iconst 0, 1) := by decide +kernel
theorem d_M_all_2 : decode c_M_all 2 = .ok (.putfield 56, 3) := by decide +kernel
theorem d_M_all_5 : decode c_M_all 5 = .ok (.aload_n 0, 1) := by decide +kernel
theorem d_M_all_6 : decode c_M_all 6 = .ok (.getfield 60, 3) := by decide +kernel
theorem d_M_all_9 : decode c_M_all 9 = .ok (.ireturn, 1) := by decide +kernel
abbrev c_M_edge : ByteArray := prog_6_method_20_code
def y_M_edge : MethodName := ⟨"ReadGraphModel", "edge", "(II)I"⟩
theorem d_M_edge_0 : decode c_M_edge 0 = .ok (.iload_n 2, 1) := by decide +kernel
theorem d_M_edge_1 : decode c_M_edge 1 = .ok (.iconst 4, 1) := by decide +kernel
theorem d_M_edge_2 : decode c_M_edge 2 = .ok (.invokestatic 73, 3) := by decide +kernel
theorem d_M_edge_5 : decode c_M_edge 5 = .ok (.istore_n 3, 1) := by decide +kernel
theorem d_M_edge_6 : decode c_M_edge 6 = .ok (.aload_n 0, 1) := by decide +kernel
theorem d_M_edge_7 : decode c_M_edge 7 = .ok (.iload_n 3, 1) := by decide +kernel
theorem d_M_edge_8 : decode c_M_edge 8 = .ok (.iload_n 3, 1) := by decide +kernel
theorem d_M_edge_9 : decode c_M_edge 9 = .ok (.ifCond .ne 18, 3) := by decide +kernel
theorem d_M_edge_12 : decode c_M_edge 12 = .ok (.iload_n 1, 1) := by decide +kernel
theorem d_M_edge_13 : decode c_M_edge 13 = .ok (.aload_n 0, 1) := by decide +kernel
theorem d_M_edge_14 : decode c_M_edge 14 = .ok (.getfield 63, 3) := by decide +kernel
theorem d_M_edge_17 : decode c_M_edge 17 = .ok (.invokestatic 73, 3) := by decide +kernel
theorem d_M_edge_20 : decode c_M_edge 20 = .ok (.ifCond .eq 7, 3) := by decide +kernel
theorem d_M_edge_23 : decode c_M_edge 23 = .ok (.iconst 1, 1) := by decide +kernel
theorem d_M_edge_24 : decode c_M_edge 24 = .ok (.goto 4, 3) := by decide +kernel
theorem d_M_edge_27 : decode c_M_edge 27 = .ok (.iconst 0, 1) := by decide +kernel
theorem d_M_edge_28 : decode c_M_edge 28 = .ok (.invokevirtual 80, 3) := by decide +kernel
theorem d_M_edge_31 : decode c_M_edge 31 = .ok (.ifCond .eq 5, 3) := by decide +kernel
theorem d_M_edge_34 : decode c_M_edge 34 = .ok (.iconst 0, 1) := by decide +kernel
theorem d_M_edge_35 : decode c_M_edge 35 = .ok (.ireturn, 1) := by decide +kernel
theorem d_M_edge_36 : decode c_M_edge 36 = .ok (.iload_n 2, 1) := by decide +kernel
theorem d_M_edge_37 : decode c_M_edge 37 = .ok (.ifCond .ne 12, 3) := by decide +kernel
theorem d_M_edge_40 : decode c_M_edge 40 = .ok (.aload_n 0, 1) := by decide +kernel
theorem d_M_edge_41 : decode c_M_edge 41 = .ok (.getfield 29, 3) := by decide +kernel
theorem d_M_edge_44 : decode c_M_edge 44 = .ok (.iload_n 1, 1) := by decide +kernel
theorem d_M_edge_45 : decode c_M_edge 45 = .ok (.iaload, 1) := by decide +kernel
theorem d_M_edge_46 : decode c_M_edge 46 = .ok (.goto 49, 3) := by decide +kernel
theorem d_M_edge_49 : decode c_M_edge 49 = .ok (.iload_n 2, 1) := by decide +kernel
theorem d_M_edge_50 : decode c_M_edge 50 = .ok (.iconst 1, 1) := by decide +kernel
theorem d_M_edge_51 : decode c_M_edge 51 = .ok (.if_icmp .ne 12, 3) := by decide +kernel
theorem d_M_edge_54 : decode c_M_edge 54 = .ok (.aload_n 0, 1) := by decide +kernel
theorem d_M_edge_55 : decode c_M_edge 55 = .ok (.getfield 32, 3) := by decide +kernel
theorem d_M_edge_58 : decode c_M_edge 58 = .ok (.iload_n 1, 1) := by decide +kernel
theorem d_M_edge_59 : decode c_M_edge 59 = .ok (.iaload, 1) := by decide +kernel
theorem d_M_edge_60 : decode c_M_edge 60 = .ok (.goto 35, 3) := by decide +kernel
theorem d_M_edge_63 : decode c_M_edge 63 = .ok (.iload_n 2, 1) := by decide +kernel
theorem d_M_edge_64 : decode c_M_edge 64 = .ok (.iconst 2, 1) := by decide +kernel
theorem d_M_edge_65 : decode c_M_edge 65 = .ok (.if_icmp .ne 12, 3) := by decide +kernel
theorem d_M_edge_68 : decode c_M_edge 68 = .ok (.aload_n 0, 1) := by decide +kernel
theorem d_M_edge_69 : decode c_M_edge 69 = .ok (.getfield 35, 3) := by decide +kernel
theorem d_M_edge_72 : decode c_M_edge 72 = .ok (.iload_n 1, 1) := by decide +kernel
theorem d_M_edge_73 : decode c_M_edge 73 = .ok (.iaload, 1) := by decide +kernel
theorem d_M_edge_74 : decode c_M_edge 74 = .ok (.goto 21, 3) := by decide +kernel
theorem d_M_edge_77 : decode c_M_edge 77 = .ok (.aload_n 0, 1) := by decide +kernel
theorem d_M_edge_78 : decode c_M_edge 78 = .ok (.getfield 7, 3) := by decide +kernel
theorem d_M_edge_81 : decode c_M_edge 81 = .ok (.aload_n 0, 1) := by decide +kernel
theorem d_M_edge_82 : decode c_M_edge 82 = .ok (.getfield 32, 3) := by decide +kernel
theorem d_M_edge_85 : decode c_M_edge 85 = .ok (.iload_n 1, 1) := by decide +kernel
theorem d_M_edge_86 : decode c_M_edge 86 = .ok (.iaload, 1) := by decide +kernel
theorem d_M_edge_87 : decode c_M_edge 87 = .ok (.iaload, 1) := by decide +kernel
theorem d_M_edge_88 : decode c_M_edge 88 = .ok (.aload_n 0, 1) := by decide +kernel
theorem d_M_edge_89 : decode c_M_edge 89 = .ok (.getfield 35, 3) := by decide +kernel
theorem d_M_edge_92 : decode c_M_edge 92 = .ok (.iload_n 1, 1) := by decide +kernel
theorem d_M_edge_93 : decode c_M_edge 93 = .ok (.iaload, 1) := by decide +kernel
theorem d_M_edge_94 : decode c_M_edge 94 = .ok (.isub, 1) := by decide +kernel
theorem d_M_edge_95 : decode c_M_edge 95 = .ok (.ireturn, 1) := by decide +kernel
abbrev c_M_way : ByteArray := prog_6_method_21_code
def y_M_way : MethodName := ⟨"ReadGraphModel", "way", "(II)Z"⟩
theorem d_M_way_0 : decode c_M_way 0 = .ok (.aload_n 0, 1) := by decide +kernel
theorem d_M_way_1 : decode c_M_way 1 = .ok (.aload_n 0, 1) := by decide +kernel
theorem d_M_way_2 : decode c_M_way 2 = .ok (.iload_n 1, 1) := by decide +kernel
theorem d_M_way_3 : decode c_M_way 3 = .ok (.invokevirtual 90, 3) := by decide +kernel
theorem d_M_way_6 : decode c_M_way 6 = .ok (.ifCond .eq 11, 3) := by decide +kernel
theorem d_M_way_9 : decode c_M_way 9 = .ok (.aload_n 0, 1) := by decide +kernel
theorem d_M_way_10 : decode c_M_way 10 = .ok (.iload_n 2, 1) := by decide +kernel
theorem d_M_way_11 : decode c_M_way 11 = .ok (.invokevirtual 90, 3) := by decide +kernel
theorem d_M_way_14 : decode c_M_way 14 = .ok (.ifCond .ne 7, 3) := by decide +kernel
theorem d_M_way_17 : decode c_M_way 17 = .ok (.iconst 1, 1) := by decide +kernel
theorem d_M_way_18 : decode c_M_way 18 = .ok (.goto 4, 3) := by decide +kernel
theorem d_M_way_21 : decode c_M_way 21 = .ok (.iconst 0, 1) := by decide +kernel
theorem d_M_way_22 : decode c_M_way 22 = .ok (.iconst 0, 1) := by decide +kernel
theorem d_M_way_23 : decode c_M_way 23 = .ok (.invokevirtual 80, 3) := by decide +kernel
theorem d_M_way_26 : decode c_M_way 26 = .ok (.ifCond .ne 21, 3) := by decide +kernel
theorem d_M_way_29 : decode c_M_way 29 = .ok (.aload_n 0, 1) := by decide +kernel
theorem d_M_way_30 : decode c_M_way 30 = .ok (.getfield 38, 3) := by decide +kernel
theorem d_M_way_33 : decode c_M_way 33 = .ok (.bipush 9, 2) := by decide +kernel
theorem d_M_way_35 : decode c_M_way 35 = .ok (.iload_n 1, 1) := by decide +kernel
theorem d_M_way_36 : decode c_M_way 36 = .ok (.imul, 1) := by decide +kernel
theorem d_M_way_37 : decode c_M_way 37 = .ok (.iload_n 2, 1) := by decide +kernel
theorem d_M_way_38 : decode c_M_way 38 = .ok (.iadd, 1) := by decide +kernel
theorem d_M_way_39 : decode c_M_way 39 = .ok (.baload, 1) := by decide +kernel
theorem d_M_way_40 : decode c_M_way 40 = .ok (.ifCond .eq 7, 3) := by decide +kernel
theorem d_M_way_43 : decode c_M_way 43 = .ok (.iconst 1, 1) := by decide +kernel
theorem d_M_way_44 : decode c_M_way 44 = .ok (.goto 4, 3) := by decide +kernel
theorem d_M_way_47 : decode c_M_way 47 = .ok (.iconst 0, 1) := by decide +kernel
theorem d_M_way_48 : decode c_M_way 48 = .ok (.ireturn, 1) := by decide +kernel
abbrev c_M_kind : ByteArray := prog_6_method_22_code
def y_M_kind : MethodName := ⟨"ReadGraphModel", "kind", "()I"⟩
theorem d_M_kind_0 : decode c_M_kind 0 = .ok (.aload_n 0, 1) := by decide +kernel
theorem d_M_kind_1 : decode c_M_kind 1 = .ok (.iconst 0, 1) := by decide +kernel
theorem d_M_kind_2 : decode c_M_kind 2 = .ok (.putfield 56, 3) := by decide +kernel
theorem d_M_kind_5 : decode c_M_kind 5 = .ok (.iconst 0, 1) := by decide +kernel
theorem d_M_kind_6 : decode c_M_kind 6 = .ok (.istore_n 1, 1) := by decide +kernel
theorem d_M_kind_7 : decode c_M_kind 7 = .ok (.aload_n 0, 1) := by decide +kernel
theorem d_M_kind_8 : decode c_M_kind 8 = .ok (.getfield 63, 3) := by decide +kernel
theorem d_M_kind_11 : decode c_M_kind 11 = .ok (.ifCond .le 7, 3) := by decide +kernel
theorem d_M_kind_14 : decode c_M_kind 14 = .ok (.iconst 1, 1) := by decide +kernel
theorem d_M_kind_15 : decode c_M_kind 15 = .ok (.goto 4, 3) := by decide +kernel
theorem d_M_kind_18 : decode c_M_kind 18 = .ok (.iconst 0, 1) := by decide +kernel
theorem d_M_kind_19 : decode c_M_kind 19 = .ok (.istore_n 2, 1) := by decide +kernel
theorem d_M_kind_20 : decode c_M_kind 20 = .ok (.iconst 0, 1) := by decide +kernel
theorem d_M_kind_21 : decode c_M_kind 21 = .ok (.istore_n 3, 1) := by decide +kernel
theorem d_M_kind_22 : decode c_M_kind 22 = .ok (.iload_n 3, 1) := by decide +kernel
theorem d_M_kind_23 : decode c_M_kind 23 = .ok (.aload_n 0, 1) := by decide +kernel
theorem d_M_kind_24 : decode c_M_kind 24 = .ok (.getfield 77, 3) := by decide +kernel
theorem d_M_kind_27 : decode c_M_kind 27 = .ok (.if_icmp .ge 77, 3) := by decide +kernel
theorem d_M_kind_30 : decode c_M_kind 30 = .ok (.aload_n 0, 1) := by decide +kernel
theorem d_M_kind_31 : decode c_M_kind 31 = .ok (.getfield 16, 3) := by decide +kernel
theorem d_M_kind_34 : decode c_M_kind 34 = .ok (.iload_n 3, 1) := by decide +kernel
theorem d_M_kind_35 : decode c_M_kind 35 = .ok (.baload, 1) := by decide +kernel
theorem d_M_kind_36 : decode c_M_kind 36 = .ok (.ifCond .eq 6, 3) := by decide +kernel
theorem d_M_kind_39 : decode c_M_kind 39 = .ok (.goto 59, 3) := by decide +kernel
theorem d_M_kind_42 : decode c_M_kind 42 = .ok (.iinc 1 1, 3) := by decide +kernel
theorem d_M_kind_45 : decode c_M_kind 45 = .ok (.iconst 0, 1) := by decide +kernel
theorem d_M_kind_46 : decode c_M_kind 46 = .ok (.istore 4, 2) := by decide +kernel
theorem d_M_kind_48 : decode c_M_kind 48 = .ok (.iload 4, 2) := by decide +kernel
theorem d_M_kind_50 : decode c_M_kind 50 = .ok (.aload_n 0, 1) := by decide +kernel
theorem d_M_kind_51 : decode c_M_kind 51 = .ok (.getfield 77, 3) := by decide +kernel
theorem d_M_kind_54 : decode c_M_kind 54 = .ok (.if_icmp .ge 44, 3) := by decide +kernel
theorem d_M_kind_57 : decode c_M_kind 57 = .ok (.iload_n 2, 1) := by decide +kernel
theorem d_M_kind_58 : decode c_M_kind 58 = .ok (.ifCond .eq 32, 3) := by decide +kernel
theorem d_M_kind_61 : decode c_M_kind 61 = .ok (.aload_n 0, 1) := by decide +kernel
theorem d_M_kind_62 : decode c_M_kind 62 = .ok (.getfield 16, 3) := by decide +kernel
theorem d_M_kind_65 : decode c_M_kind 65 = .ok (.iload 4, 2) := by decide +kernel
theorem d_M_kind_67 : decode c_M_kind 67 = .ok (.baload, 1) := by decide +kernel
theorem d_M_kind_68 : decode c_M_kind 68 = .ok (.ifCond .ne 18, 3) := by decide +kernel
theorem d_M_kind_71 : decode c_M_kind 71 = .ok (.aload_n 0, 1) := by decide +kernel
theorem d_M_kind_72 : decode c_M_kind 72 = .ok (.getfield 38, 3) := by decide +kernel
theorem d_M_kind_75 : decode c_M_kind 75 = .ok (.bipush 9, 2) := by decide +kernel
theorem d_M_kind_77 : decode c_M_kind 77 = .ok (.iload_n 3, 1) := by decide +kernel
theorem d_M_kind_78 : decode c_M_kind 78 = .ok (.imul, 1) := by decide +kernel
theorem d_M_kind_79 : decode c_M_kind 79 = .ok (.iload 4, 2) := by decide +kernel
theorem d_M_kind_81 : decode c_M_kind 81 = .ok (.iadd, 1) := by decide +kernel
theorem d_M_kind_82 : decode c_M_kind 82 = .ok (.baload, 1) := by decide +kernel
theorem d_M_kind_83 : decode c_M_kind 83 = .ok (.ifCond .eq 7, 3) := by decide +kernel
theorem d_M_kind_86 : decode c_M_kind 86 = .ok (.iconst 1, 1) := by decide +kernel
theorem d_M_kind_87 : decode c_M_kind 87 = .ok (.goto 4, 3) := by decide +kernel
theorem d_M_kind_90 : decode c_M_kind 90 = .ok (.iconst 0, 1) := by decide +kernel
theorem d_M_kind_91 : decode c_M_kind 91 = .ok (.istore_n 2, 1) := by decide +kernel
theorem d_M_kind_92 : decode c_M_kind 92 = .ok (.iinc 4 1, 3) := by decide +kernel
theorem d_M_kind_95 : decode c_M_kind 95 = .ok (.goto (-47), 3) := by decide +kernel
theorem d_M_kind_98 : decode c_M_kind 98 = .ok (.iinc 3 1, 3) := by decide +kernel
theorem d_M_kind_101 : decode c_M_kind 101 = .ok (.goto (-79), 3) := by decide +kernel
theorem d_M_kind_104 : decode c_M_kind 104 = .ok (.iload_n 2, 1) := by decide +kernel
theorem d_M_kind_105 : decode c_M_kind 105 = .ok (.ifCond .ne 7, 3) := by decide +kernel
theorem d_M_kind_108 : decode c_M_kind 108 = .ok (.iconst 0, 1) := by decide +kernel
theorem d_M_kind_109 : decode c_M_kind 109 = .ok (.goto 16, 3) := by decide +kernel
theorem d_M_kind_112 : decode c_M_kind 112 = .ok (.aload_n 0, 1) := by decide +kernel
theorem d_M_kind_113 : decode c_M_kind 113 = .ok (.getfield 63, 3) := by decide +kernel
theorem d_M_kind_116 : decode c_M_kind 116 = .ok (.iload_n 1, 1) := by decide +kernel
theorem d_M_kind_117 : decode c_M_kind 117 = .ok (.if_icmp .ne 7, 3) := by decide +kernel
theorem d_M_kind_120 : decode c_M_kind 120 = .ok (.iconst 1, 1) := by decide +kernel
theorem d_M_kind_121 : decode c_M_kind 121 = .ok (.goto 4, 3) := by decide +kernel
theorem d_M_kind_124 : decode c_M_kind 124 = .ok (.iconst 2, 1) := by decide +kernel
theorem d_M_kind_125 : decode c_M_kind 125 = .ok (.ireturn, 1) := by decide +kernel
abbrev c_M_escapes : ByteArray := prog_6_method_23_code
def y_M_escapes : MethodName := ⟨"ReadGraphModel", "escapes", "(II)Z"⟩
theorem d_M_escapes_0 : decode c_M_escapes 0 = .ok (.aload_n 0, 1) := by decide +kernel
theorem d_M_escapes_1 : decode c_M_escapes 1 = .ok (.getfield 41, 3) := by decide +kernel
theorem d_M_escapes_4 : decode c_M_escapes 4 = .ok (.bipush 81, 2) := by decide +kernel
theorem d_M_escapes_6 : decode c_M_escapes 6 = .ok (.iload_n 1, 1) := by decide +kernel
theorem d_M_escapes_7 : decode c_M_escapes 7 = .ok (.imul, 1) := by decide +kernel
theorem d_M_escapes_8 : decode c_M_escapes 8 = .ok (.iload_n 2, 1) := by decide +kernel
theorem d_M_escapes_9 : decode c_M_escapes 9 = .ok (.iadd, 1) := by decide +kernel
theorem d_M_escapes_10 : decode c_M_escapes 10 = .ok (.iaload, 1) := by decide +kernel
theorem d_M_escapes_11 : decode c_M_escapes 11 = .ok (.ifCond .le 24, 3) := by decide +kernel
theorem d_M_escapes_14 : decode c_M_escapes 14 = .ok (.aload_n 0, 1) := by decide +kernel
theorem d_M_escapes_15 : decode c_M_escapes 15 = .ok (.getfield 41, 3) := by decide +kernel
theorem d_M_escapes_18 : decode c_M_escapes 18 = .ok (.bipush 81, 2) := by decide +kernel
theorem d_M_escapes_20 : decode c_M_escapes 20 = .ok (.iload_n 1, 1) := by decide +kernel
theorem d_M_escapes_21 : decode c_M_escapes 21 = .ok (.imul, 1) := by decide +kernel
theorem d_M_escapes_22 : decode c_M_escapes 22 = .ok (.iload_n 2, 1) := by decide +kernel
theorem d_M_escapes_23 : decode c_M_escapes 23 = .ok (.iadd, 1) := by decide +kernel
theorem d_M_escapes_24 : decode c_M_escapes 24 = .ok (.iaload, 1) := by decide +kernel
theorem d_M_escapes_25 : decode c_M_escapes 25 = .ok (.iconst 2, 1) := by decide +kernel
theorem d_M_escapes_26 : decode c_M_escapes 26 = .ok (.if_icmp .ne 7, 3) := by decide +kernel
theorem d_M_escapes_29 : decode c_M_escapes 29 = .ok (.iconst 1, 1) := by decide +kernel
theorem d_M_escapes_30 : decode c_M_escapes 30 = .ok (.goto 4, 3) := by decide +kernel
theorem d_M_escapes_33 : decode c_M_escapes 33 = .ok (.iconst 0, 1) := by decide +kernel
theorem d_M_escapes_34 : decode c_M_escapes 34 = .ok (.ireturn, 1) := by decide +kernel
theorem d_M_escapes_35 : decode c_M_escapes 35 = .ok (.iconst 0, 1) := by decide +kernel
theorem d_M_escapes_36 : decode c_M_escapes 36 = .ok (.istore_n 3, 1) := by decide +kernel
theorem d_M_escapes_37 : decode c_M_escapes 37 = .ok (.iconst 0, 1) := by decide +kernel
theorem d_M_escapes_38 : decode c_M_escapes 38 = .ok (.istore 4, 2) := by decide +kernel
theorem d_M_escapes_40 : decode c_M_escapes 40 = .ok (.iload 4, 2) := by decide +kernel
theorem d_M_escapes_42 : decode c_M_escapes 42 = .ok (.aload_n 0, 1) := by decide +kernel
theorem d_M_escapes_43 : decode c_M_escapes 43 = .ok (.getfield 63, 3) := by decide +kernel
theorem d_M_escapes_46 : decode c_M_escapes 46 = .ok (.if_icmp .ge 146, 3) := by decide +kernel
theorem d_M_escapes_49 : decode c_M_escapes 49 = .ok (.aload_n 0, 1) := by decide +kernel
theorem d_M_escapes_50 : decode c_M_escapes 50 = .ok (.getfield 29, 3) := by decide +kernel
theorem d_M_escapes_53 : decode c_M_escapes 53 = .ok (.iload 4, 2) := by decide +kernel
theorem d_M_escapes_55 : decode c_M_escapes 55 = .ok (.iaload, 1) := by decide +kernel
theorem d_M_escapes_56 : decode c_M_escapes 56 = .ok (.aload_n 0, 1) := by decide +kernel
theorem d_M_escapes_57 : decode c_M_escapes 57 = .ok (.getfield 29, 3) := by decide +kernel
theorem d_M_escapes_60 : decode c_M_escapes 60 = .ok (.iload_n 2, 1) := by decide +kernel
theorem d_M_escapes_61 : decode c_M_escapes 61 = .ok (.iaload, 1) := by decide +kernel
theorem d_M_escapes_62 : decode c_M_escapes 62 = .ok (.if_icmp .ne 124, 3) := by decide +kernel
theorem d_M_escapes_65 : decode c_M_escapes 65 = .ok (.iload 4, 2) := by decide +kernel
theorem d_M_escapes_67 : decode c_M_escapes 67 = .ok (.iload_n 2, 1) := by decide +kernel
theorem d_M_escapes_68 : decode c_M_escapes 68 = .ok (.if_icmp .ne 6, 3) := by decide +kernel
theorem d_M_escapes_71 : decode c_M_escapes 71 = .ok (.goto 115, 3) := by decide +kernel
theorem d_M_escapes_74 : decode c_M_escapes 74 = .ok (.iconst 0, 1) := by decide +kernel
theorem d_M_escapes_75 : decode c_M_escapes 75 = .ok (.istore 5, 2) := by decide +kernel
theorem d_M_escapes_77 : decode c_M_escapes 77 = .ok (.iload 5, 2) := by decide +kernel
theorem d_M_escapes_79 : decode c_M_escapes 79 = .ok (.aload_n 0, 1) := by decide +kernel
theorem d_M_escapes_80 : decode c_M_escapes 80 = .ok (.getfield 63, 3) := by decide +kernel
theorem d_M_escapes_83 : decode c_M_escapes 83 = .ok (.if_icmp .ge 103, 3) := by decide +kernel
theorem d_M_escapes_86 : decode c_M_escapes 86 = .ok (.aload_n 0, 1) := by decide +kernel
theorem d_M_escapes_87 : decode c_M_escapes 87 = .ok (.getfield 32, 3) := by decide +kernel
theorem d_M_escapes_90 : decode c_M_escapes 90 = .ok (.iload 5, 2) := by decide +kernel
theorem d_M_escapes_92 : decode c_M_escapes 92 = .ok (.iaload, 1) := by decide +kernel
theorem d_M_escapes_93 : decode c_M_escapes 93 = .ok (.aload_n 0, 1) := by decide +kernel
theorem d_M_escapes_94 : decode c_M_escapes 94 = .ok (.getfield 32, 3) := by decide +kernel
theorem d_M_escapes_97 : decode c_M_escapes 97 = .ok (.iload_n 1, 1) := by decide +kernel
theorem d_M_escapes_98 : decode c_M_escapes 98 = .ok (.iaload, 1) := by decide +kernel
theorem d_M_escapes_99 : decode c_M_escapes 99 = .ok (.if_icmp .ne 13, 3) := by decide +kernel
theorem d_M_escapes_102 : decode c_M_escapes 102 = .ok (.iload 5, 2) := by decide +kernel
theorem d_M_escapes_104 : decode c_M_escapes 104 = .ok (.iload_n 1, 1) := by decide +kernel
theorem d_M_escapes_105 : decode c_M_escapes 105 = .ok (.if_icmp .eq 7, 3) := by decide +kernel
theorem d_M_escapes_108 : decode c_M_escapes 108 = .ok (.iconst 1, 1) := by decide +kernel
theorem d_M_escapes_109 : decode c_M_escapes 109 = .ok (.goto 4, 3) := by decide +kernel
theorem d_M_escapes_112 : decode c_M_escapes 112 = .ok (.iconst 0, 1) := by decide +kernel
theorem d_M_escapes_113 : decode c_M_escapes 113 = .ok (.istore 6, 2) := by decide +kernel
theorem d_M_escapes_115 : decode c_M_escapes 115 = .ok (.iload_n 3, 1) := by decide +kernel
theorem d_M_escapes_116 : decode c_M_escapes 116 = .ok (.ifCond .ne 58, 3) := by decide +kernel
theorem d_M_escapes_119 : decode c_M_escapes 119 = .ok (.iload 6, 2) := by decide +kernel
theorem d_M_escapes_121 : decode c_M_escapes 121 = .ok (.ifCond .eq 57, 3) := by decide +kernel
theorem d_M_escapes_124 : decode c_M_escapes 124 = .ok (.iload 4, 2) := by decide +kernel
theorem d_M_escapes_126 : decode c_M_escapes 126 = .ok (.iload 5, 2) := by decide +kernel
theorem d_M_escapes_128 : decode c_M_escapes 128 = .ok (.if_icmp .eq 46, 3) := by decide +kernel
theorem d_M_escapes_131 : decode c_M_escapes 131 = .ok (.aload_n 0, 1) := by decide +kernel
theorem d_M_escapes_132 : decode c_M_escapes 132 = .ok (.getfield 32, 3) := by decide +kernel
theorem d_M_escapes_135 : decode c_M_escapes 135 = .ok (.iload 4, 2) := by decide +kernel
theorem d_M_escapes_137 : decode c_M_escapes 137 = .ok (.iaload, 1) := by decide +kernel
theorem d_M_escapes_138 : decode c_M_escapes 138 = .ok (.aload_n 0, 1) := by decide +kernel
theorem d_M_escapes_139 : decode c_M_escapes 139 = .ok (.getfield 29, 3) := by decide +kernel
theorem d_M_escapes_142 : decode c_M_escapes 142 = .ok (.iload 5, 2) := by decide +kernel
theorem d_M_escapes_144 : decode c_M_escapes 144 = .ok (.iaload, 1) := by decide +kernel
theorem d_M_escapes_145 : decode c_M_escapes 145 = .ok (.if_icmp .eq 29, 3) := by decide +kernel
theorem d_M_escapes_148 : decode c_M_escapes 148 = .ok (.aload_n 0, 1) := by decide +kernel
theorem d_M_escapes_149 : decode c_M_escapes 149 = .ok (.getfield 38, 3) := by decide +kernel
theorem d_M_escapes_152 : decode c_M_escapes 152 = .ok (.bipush 9, 2) := by decide +kernel
theorem d_M_escapes_154 : decode c_M_escapes 154 = .ok (.aload_n 0, 1) := by decide +kernel
theorem d_M_escapes_155 : decode c_M_escapes 155 = .ok (.getfield 32, 3) := by decide +kernel
theorem d_M_escapes_158 : decode c_M_escapes 158 = .ok (.iload 4, 2) := by decide +kernel
theorem d_M_escapes_160 : decode c_M_escapes 160 = .ok (.iaload, 1) := by decide +kernel
theorem d_M_escapes_161 : decode c_M_escapes 161 = .ok (.imul, 1) := by decide +kernel
theorem d_M_escapes_162 : decode c_M_escapes 162 = .ok (.aload_n 0, 1) := by decide +kernel
theorem d_M_escapes_163 : decode c_M_escapes 163 = .ok (.getfield 29, 3) := by decide +kernel
theorem d_M_escapes_166 : decode c_M_escapes 166 = .ok (.iload 5, 2) := by decide +kernel
theorem d_M_escapes_168 : decode c_M_escapes 168 = .ok (.iaload, 1) := by decide +kernel
theorem d_M_escapes_169 : decode c_M_escapes 169 = .ok (.iadd, 1) := by decide +kernel
theorem d_M_escapes_170 : decode c_M_escapes 170 = .ok (.baload, 1) := by decide +kernel
theorem d_M_escapes_171 : decode c_M_escapes 171 = .ok (.ifCond .eq 7, 3) := by decide +kernel
theorem d_M_escapes_174 : decode c_M_escapes 174 = .ok (.iconst 1, 1) := by decide +kernel
theorem d_M_escapes_175 : decode c_M_escapes 175 = .ok (.goto 4, 3) := by decide +kernel
theorem d_M_escapes_178 : decode c_M_escapes 178 = .ok (.iconst 0, 1) := by decide +kernel
theorem d_M_escapes_179 : decode c_M_escapes 179 = .ok (.istore_n 3, 1) := by decide +kernel
theorem d_M_escapes_180 : decode c_M_escapes 180 = .ok (.iinc 5 1, 3) := by decide +kernel
theorem d_M_escapes_183 : decode c_M_escapes 183 = .ok (.goto (-106), 3) := by decide +kernel
theorem d_M_escapes_186 : decode c_M_escapes 186 = .ok (.iinc 4 1, 3) := by decide +kernel
theorem d_M_escapes_189 : decode c_M_escapes 189 = .ok (.goto (-149), 3) := by decide +kernel
theorem d_M_escapes_192 : decode c_M_escapes 192 = .ok (.aload_n 0, 1) := by decide +kernel
theorem d_M_escapes_193 : decode c_M_escapes 193 = .ok (.getfield 41, 3) := by decide +kernel
theorem d_M_escapes_196 : decode c_M_escapes 196 = .ok (.bipush 81, 2) := by decide +kernel
theorem d_M_escapes_198 : decode c_M_escapes 198 = .ok (.iload_n 1, 1) := by decide +kernel
theorem d_M_escapes_199 : decode c_M_escapes 199 = .ok (.imul, 1) := by decide +kernel
theorem d_M_escapes_200 : decode c_M_escapes 200 = .ok (.iload_n 2, 1) := by decide +kernel
theorem d_M_escapes_201 : decode c_M_escapes 201 = .ok (.iadd, 1) := by decide +kernel
theorem d_M_escapes_202 : decode c_M_escapes 202 = .ok (.iload_n 3, 1) := by decide +kernel
theorem d_M_escapes_203 : decode c_M_escapes 203 = .ok (.ifCond .eq 7, 3) := by decide +kernel
theorem d_M_escapes_206 : decode c_M_escapes 206 = .ok (.iconst 2, 1) := by decide +kernel
theorem d_M_escapes_207 : decode c_M_escapes 207 = .ok (.goto 4, 3) := by decide +kernel
theorem d_M_escapes_210 : decode c_M_escapes 210 = .ok (.iconst 1, 1) := by decide +kernel
theorem d_M_escapes_211 : decode c_M_escapes 211 = .ok (.iastore, 1) := by decide +kernel
theorem d_M_escapes_212 : decode c_M_escapes 212 = .ok (.iload_n 3, 1) := by decide +kernel
theorem d_M_escapes_213 : decode c_M_escapes 213 = .ok (.ireturn, 1) := by decide +kernel
abbrev c_M_isSafe : ByteArray := prog_6_method_24_code
def y_M_isSafe : MethodName := ⟨"ReadGraphModel", "isSafe", "(II)Z"⟩
theorem d_M_isSafe_0 : decode c_M_isSafe 0 = .ok (.iload_n 1, 1) := by decide +kernel
theorem d_M_isSafe_1 : decode c_M_isSafe 1 = .ok (.istore_n 3, 1) := by decide +kernel
theorem d_M_isSafe_2 : decode c_M_isSafe 2 = .ok (.iload_n 3, 1) := by decide +kernel
theorem d_M_isSafe_3 : decode c_M_isSafe 3 = .ok (.iload_n 2, 1) := by decide +kernel
theorem d_M_isSafe_4 : decode c_M_isSafe 4 = .ok (.iconst 1, 1) := by decide +kernel
theorem d_M_isSafe_5 : decode c_M_isSafe 5 = .ok (.isub, 1) := by decide +kernel
theorem d_M_isSafe_6 : decode c_M_isSafe 6 = .ok (.if_icmp .ge 50, 3) := by decide +kernel
theorem d_M_isSafe_9 : decode c_M_isSafe 9 = .ok (.iload_n 3, 1) := by decide +kernel
theorem d_M_isSafe_10 : decode c_M_isSafe 10 = .ok (.istore 4, 2) := by decide +kernel
theorem d_M_isSafe_12 : decode c_M_isSafe 12 = .ok (.iload 4, 2) := by decide +kernel
theorem d_M_isSafe_14 : decode c_M_isSafe 14 = .ok (.iload_n 2, 1) := by decide +kernel
theorem d_M_isSafe_15 : decode c_M_isSafe 15 = .ok (.iconst 1, 1) := by decide +kernel
theorem d_M_isSafe_16 : decode c_M_isSafe 16 = .ok (.isub, 1) := by decide +kernel
theorem d_M_isSafe_17 : decode c_M_isSafe 17 = .ok (.if_icmp .ge 33, 3) := by decide +kernel
theorem d_M_isSafe_20 : decode c_M_isSafe 20 = .ok (.aload_n 0, 1) := by decide +kernel
theorem d_M_isSafe_21 : decode c_M_isSafe 21 = .ok (.aload_n 0, 1) := by decide +kernel
theorem d_M_isSafe_22 : decode c_M_isSafe 22 = .ok (.getfield 44, 3) := by decide +kernel
theorem d_M_isSafe_25 : decode c_M_isSafe 25 = .ok (.iload_n 3, 1) := by decide +kernel
theorem d_M_isSafe_26 : decode c_M_isSafe 26 = .ok (.iaload, 1) := by decide +kernel
theorem d_M_isSafe_27 : decode c_M_isSafe 27 = .ok (.aload_n 0, 1) := by decide +kernel
theorem d_M_isSafe_28 : decode c_M_isSafe 28 = .ok (.getfield 44, 3) := by decide +kernel
theorem d_M_isSafe_31 : decode c_M_isSafe 31 = .ok (.iload 4, 2) := by decide +kernel
theorem d_M_isSafe_33 : decode c_M_isSafe 33 = .ok (.iconst 1, 1) := by decide +kernel
theorem d_M_isSafe_34 : decode c_M_isSafe 34 = .ok (.iadd, 1) := by decide +kernel
theorem d_M_isSafe_35 : decode c_M_isSafe 35 = .ok (.iaload, 1) := by decide +kernel
theorem d_M_isSafe_36 : decode c_M_isSafe 36 = .ok (.invokevirtual 108, 3) := by decide +kernel
theorem d_M_isSafe_39 : decode c_M_isSafe 39 = .ok (.ifCond .eq 5, 3) := by decide +kernel
theorem d_M_isSafe_42 : decode c_M_isSafe 42 = .ok (.iconst 0, 1) := by decide +kernel
theorem d_M_isSafe_43 : decode c_M_isSafe 43 = .ok (.ireturn, 1) := by decide +kernel
theorem d_M_isSafe_44 : decode c_M_isSafe 44 = .ok (.iinc 4 1, 3) := by decide +kernel
theorem d_M_isSafe_47 : decode c_M_isSafe 47 = .ok (.goto (-35), 3) := by decide +kernel
theorem d_M_isSafe_50 : decode c_M_isSafe 50 = .ok (.iinc 3 1, 3) := by decide +kernel
theorem d_M_isSafe_53 : decode c_M_isSafe 53 = .ok (.goto (-51), 3) := by decide +kernel
theorem d_M_isSafe_56 : decode c_M_isSafe 56 = .ok (.iconst 1, 1) := by decide +kernel
theorem d_M_isSafe_57 : decode c_M_isSafe 57 = .ok (.ireturn, 1) := by decide +kernel
abbrev c_M_safe : ByteArray := prog_6_method_25_code
def y_M_safe : MethodName := ⟨"ReadGraphModel", "safe", "(JI)Z"⟩
theorem d_M_safe_0 : decode c_M_safe 0 = .ok (.iload_n 3, 1) := by decide +kernel
theorem d_M_safe_1 : decode c_M_safe 1 = .ok (.iconst 1, 1) := by decide +kernel
theorem d_M_safe_2 : decode c_M_safe 2 = .ok (.if_icmp .lt 9, 3) := by decide +kernel
theorem d_M_safe_5 : decode c_M_safe 5 = .ok (.iload_n 3, 1) := by decide +kernel
theorem d_M_safe_6 : decode c_M_safe 6 = .ok (.bipush 8, 2) := by decide +kernel
theorem d_M_safe_8 : decode c_M_safe 8 = .ok (.if_icmp .le 7, 3) := by decide +kernel
theorem d_M_safe_11 : decode c_M_safe 11 = .ok (.iconst 1, 1) := by decide +kernel
theorem d_M_safe_12 : decode c_M_safe 12 = .ok (.goto 4, 3) := by decide +kernel
theorem d_M_safe_15 : decode c_M_safe 15 = .ok (.iconst 0, 1) := by decide +kernel
theorem d_M_safe_16 : decode c_M_safe 16 = .ok (.istore 4, 2) := by decide +kernel
theorem d_M_safe_18 : decode c_M_safe 18 = .ok (.iconst 0, 1) := by decide +kernel
theorem d_M_safe_19 : decode c_M_safe 19 = .ok (.istore 5, 2) := by decide +kernel
theorem d_M_safe_21 : decode c_M_safe 21 = .ok (.iload 5, 2) := by decide +kernel
theorem d_M_safe_23 : decode c_M_safe 23 = .ok (.iload_n 3, 1) := by decide +kernel
theorem d_M_safe_24 : decode c_M_safe 24 = .ok (.if_icmp .ge 86, 3) := by decide +kernel
theorem d_M_safe_27 : decode c_M_safe 27 = .ok (.iload 4, 2) := by decide +kernel
theorem d_M_safe_29 : decode c_M_safe 29 = .ok (.ifCond .ne 81, 3) := by decide +kernel
theorem d_M_safe_32 : decode c_M_safe 32 = .ok (.lload_n 1, 1) := by decide +kernel
theorem d_M_safe_33 : decode c_M_safe 33 = .ok (.bipush 8, 2) := by decide +kernel
theorem d_M_safe_35 : decode c_M_safe 35 = .ok (.iload_n 3, 1) := by decide +kernel
theorem d_M_safe_36 : decode c_M_safe 36 = .ok (.iconst 1, 1) := by decide +kernel
theorem d_M_safe_37 : decode c_M_safe 37 = .ok (.isub, 1) := by decide +kernel
theorem d_M_safe_38 : decode c_M_safe 38 = .ok (.iload 5, 2) := by decide +kernel
theorem d_M_safe_40 : decode c_M_safe 40 = .ok (.isub, 1) := by decide +kernel
theorem d_M_safe_41 : decode c_M_safe 41 = .ok (.imul, 1) := by decide +kernel
theorem d_M_safe_42 : decode c_M_safe 42 = .ok (.lshr, 1) := by decide +kernel
theorem d_M_safe_43 : decode c_M_safe 43 = .ok (.ldc2_w 111, 3) := by decide +kernel
theorem d_M_safe_46 : decode c_M_safe 46 = .ok (.land, 1) := by decide +kernel
theorem d_M_safe_47 : decode c_M_safe 47 = .ok (.l2i, 1) := by decide +kernel
theorem d_M_safe_48 : decode c_M_safe 48 = .ok (.istore 6, 2) := by decide +kernel
theorem d_M_safe_50 : decode c_M_safe 50 = .ok (.iload 6, 2) := by decide +kernel
theorem d_M_safe_52 : decode c_M_safe 52 = .ok (.aload_n 0, 1) := by decide +kernel
theorem d_M_safe_53 : decode c_M_safe 53 = .ok (.getfield 63, 3) := by decide +kernel
theorem d_M_safe_56 : decode c_M_safe 56 = .ok (.if_icmp .ge 30, 3) := by decide +kernel
theorem d_M_safe_59 : decode c_M_safe 59 = .ok (.iload 5, 2) := by decide +kernel
theorem d_M_safe_61 : decode c_M_safe 61 = .ok (.ifCond .le 29, 3) := by decide +kernel
theorem d_M_safe_64 : decode c_M_safe 64 = .ok (.aload_n 0, 1) := by decide +kernel
theorem d_M_safe_65 : decode c_M_safe 65 = .ok (.getfield 32, 3) := by decide +kernel
theorem d_M_safe_68 : decode c_M_safe 68 = .ok (.aload_n 0, 1) := by decide +kernel
theorem d_M_safe_69 : decode c_M_safe 69 = .ok (.getfield 44, 3) := by decide +kernel
theorem d_M_safe_72 : decode c_M_safe 72 = .ok (.iload 5, 2) := by decide +kernel
theorem d_M_safe_74 : decode c_M_safe 74 = .ok (.iaload, 1) := by decide +kernel
theorem d_M_safe_75 : decode c_M_safe 75 = .ok (.iaload, 1) := by decide +kernel
theorem d_M_safe_76 : decode c_M_safe 76 = .ok (.aload_n 0, 1) := by decide +kernel
theorem d_M_safe_77 : decode c_M_safe 77 = .ok (.getfield 29, 3) := by decide +kernel
theorem d_M_safe_80 : decode c_M_safe 80 = .ok (.iload 6, 2) := by decide +kernel
theorem d_M_safe_82 : decode c_M_safe 82 = .ok (.iaload, 1) := by decide +kernel
theorem d_M_safe_83 : decode c_M_safe 83 = .ok (.if_icmp .eq 7, 3) := by decide +kernel
theorem d_M_safe_86 : decode c_M_safe 86 = .ok (.iconst 1, 1) := by decide +kernel
theorem d_M_safe_87 : decode c_M_safe 87 = .ok (.goto 4, 3) := by decide +kernel
theorem d_M_safe_90 : decode c_M_safe 90 = .ok (.iconst 0, 1) := by decide +kernel
theorem d_M_safe_91 : decode c_M_safe 91 = .ok (.istore 4, 2) := by decide +kernel
theorem d_M_safe_93 : decode c_M_safe 93 = .ok (.aload_n 0, 1) := by decide +kernel
theorem d_M_safe_94 : decode c_M_safe 94 = .ok (.getfield 44, 3) := by decide +kernel
theorem d_M_safe_97 : decode c_M_safe 97 = .ok (.iload 5, 2) := by decide +kernel
theorem d_M_safe_99 : decode c_M_safe 99 = .ok (.iconst 1, 1) := by decide +kernel
theorem d_M_safe_100 : decode c_M_safe 100 = .ok (.iadd, 1) := by decide +kernel
theorem d_M_safe_101 : decode c_M_safe 101 = .ok (.iload 6, 2) := by decide +kernel
theorem d_M_safe_103 : decode c_M_safe 103 = .ok (.iastore, 1) := by decide +kernel
theorem d_M_safe_104 : decode c_M_safe 104 = .ok (.iinc 5 1, 3) := by decide +kernel
theorem d_M_safe_107 : decode c_M_safe 107 = .ok (.goto (-86), 3) := by decide +kernel
theorem d_M_safe_110 : decode c_M_safe 110 = .ok (.aload_n 0, 1) := by decide +kernel
theorem d_M_safe_111 : decode c_M_safe 111 = .ok (.iload 4, 2) := by decide +kernel
theorem d_M_safe_113 : decode c_M_safe 113 = .ok (.iconst 0, 1) := by decide +kernel
theorem d_M_safe_114 : decode c_M_safe 114 = .ok (.invokevirtual 80, 3) := by decide +kernel
theorem d_M_safe_117 : decode c_M_safe 117 = .ok (.ifCond .ne 18, 3) := by decide +kernel
theorem d_M_safe_120 : decode c_M_safe 120 = .ok (.aload_n 0, 1) := by decide +kernel
theorem d_M_safe_121 : decode c_M_safe 121 = .ok (.iconst 1, 1) := by decide +kernel
theorem d_M_safe_122 : decode c_M_safe 122 = .ok (.iload_n 3, 1) := by decide +kernel
theorem d_M_safe_123 : decode c_M_safe 123 = .ok (.iconst 1, 1) := by decide +kernel
theorem d_M_safe_124 : decode c_M_safe 124 = .ok (.iadd, 1) := by decide +kernel
theorem d_M_safe_125 : decode c_M_safe 125 = .ok (.invokevirtual 113, 3) := by decide +kernel
theorem d_M_safe_128 : decode c_M_safe 128 = .ok (.ifCond .eq 7, 3) := by decide +kernel
theorem d_M_safe_131 : decode c_M_safe 131 = .ok (.iconst 1, 1) := by decide +kernel
theorem d_M_safe_132 : decode c_M_safe 132 = .ok (.goto 4, 3) := by decide +kernel
theorem d_M_safe_135 : decode c_M_safe 135 = .ok (.iconst 0, 1) := by decide +kernel
theorem d_M_safe_136 : decode c_M_safe 136 = .ok (.ireturn, 1) := by decide +kernel
abbrev c_M_hasBeginning : ByteArray := prog_6_method_26_code
def y_M_hasBeginning : MethodName := ⟨"ReadGraphModel", "hasBeginning", "(I)Z"⟩
theorem d_M_hasBeginning_0 : decode c_M_hasBeginning 0 = .ok (.iconst 0, 1) := by decide +kernel
theorem d_M_hasBeginning_1 : decode c_M_hasBeginning 1 = .ok (.istore_n 2, 1) := by decide +kernel
theorem d_M_hasBeginning_2 : decode c_M_hasBeginning 2 = .ok (.iload_n 2, 1) := by decide +kernel
theorem d_M_hasBeginning_3 : decode c_M_hasBeginning 3 = .ok (.aload_n 0, 1) := by decide +kernel
theorem d_M_hasBeginning_4 : decode c_M_hasBeginning 4 = .ok (.getfield 63, 3) := by decide +kernel
theorem d_M_hasBeginning_7 : decode c_M_hasBeginning 7 = .ok (.if_icmp .ge 47, 3) := by decide +kernel
theorem d_M_hasBeginning_10 : decode c_M_hasBeginning 10 = .ok (.aload_n 0, 1) := by decide +kernel
theorem d_M_hasBeginning_11 : decode c_M_hasBeginning 11 = .ok (.getfield 44, 3) := by decide +kernel
theorem d_M_hasBeginning_14 : decode c_M_hasBeginning 14 = .ok (.iconst 0, 1) := by decide +kernel
theorem d_M_hasBeginning_15 : decode c_M_hasBeginning 15 = .ok (.iload_n 2, 1) := by decide +kernel
theorem d_M_hasBeginning_16 : decode c_M_hasBeginning 16 = .ok (.iastore, 1) := by decide +kernel
theorem d_M_hasBeginning_17 : decode c_M_hasBeginning 17 = .ok (.aload_n 0, 1) := by decide +kernel
theorem d_M_hasBeginning_18 : decode c_M_hasBeginning 18 = .ok (.getfield 32, 3) := by decide +kernel
theorem d_M_hasBeginning_21 : decode c_M_hasBeginning 21 = .ok (.iload_n 2, 1) := by decide +kernel
theorem d_M_hasBeginning_22 : decode c_M_hasBeginning 22 = .ok (.iaload, 1) := by decide +kernel
theorem d_M_hasBeginning_23 : decode c_M_hasBeginning 23 = .ok (.aload_n 0, 1) := by decide +kernel
theorem d_M_hasBeginning_24 : decode c_M_hasBeginning 24 = .ok (.getfield 29, 3) := by decide +kernel
theorem d_M_hasBeginning_27 : decode c_M_hasBeginning 27 = .ok (.aload_n 0, 1) := by decide +kernel
theorem d_M_hasBeginning_28 : decode c_M_hasBeginning 28 = .ok (.getfield 44, 3) := by decide +kernel
theorem d_M_hasBeginning_31 : decode c_M_hasBeginning 31 = .ok (.iconst 1, 1) := by decide +kernel
theorem d_M_hasBeginning_32 : decode c_M_hasBeginning 32 = .ok (.iaload, 1) := by decide +kernel
theorem d_M_hasBeginning_33 : decode c_M_hasBeginning 33 = .ok (.iaload, 1) := by decide +kernel
theorem d_M_hasBeginning_34 : decode c_M_hasBeginning 34 = .ok (.if_icmp .ne 14, 3) := by decide +kernel
theorem d_M_hasBeginning_37 : decode c_M_hasBeginning 37 = .ok (.aload_n 0, 1) := by decide +kernel
theorem d_M_hasBeginning_38 : decode c_M_hasBeginning 38 = .ok (.iconst 0, 1) := by decide +kernel
theorem d_M_hasBeginning_39 : decode c_M_hasBeginning 39 = .ok (.iload_n 1, 1) := by decide +kernel
theorem d_M_hasBeginning_40 : decode c_M_hasBeginning 40 = .ok (.invokevirtual 113, 3) := by decide +kernel
theorem d_M_hasBeginning_43 : decode c_M_hasBeginning 43 = .ok (.ifCond .eq 5, 3) := by decide +kernel
theorem d_M_hasBeginning_46 : decode c_M_hasBeginning 46 = .ok (.iconst 1, 1) := by decide +kernel
theorem d_M_hasBeginning_47 : decode c_M_hasBeginning 47 = .ok (.ireturn, 1) := by decide +kernel
theorem d_M_hasBeginning_48 : decode c_M_hasBeginning 48 = .ok (.iinc 2 1, 3) := by decide +kernel
theorem d_M_hasBeginning_51 : decode c_M_hasBeginning 51 = .ok (.goto (-49), 3) := by decide +kernel
theorem d_M_hasBeginning_54 : decode c_M_hasBeginning 54 = .ok (.iconst 0, 1) := by decide +kernel
theorem d_M_hasBeginning_55 : decode c_M_hasBeginning 55 = .ok (.ireturn, 1) := by decide +kernel
abbrev c_M_hasEnd : ByteArray := prog_6_method_27_code
def y_M_hasEnd : MethodName := ⟨"ReadGraphModel", "hasEnd", "(I)Z"⟩
theorem d_M_hasEnd_0 : decode c_M_hasEnd 0 = .ok (.iconst 0, 1) := by decide +kernel
theorem d_M_hasEnd_1 : decode c_M_hasEnd 1 = .ok (.istore_n 2, 1) := by decide +kernel
theorem d_M_hasEnd_2 : decode c_M_hasEnd 2 = .ok (.iload_n 2, 1) := by decide +kernel
theorem d_M_hasEnd_3 : decode c_M_hasEnd 3 = .ok (.aload_n 0, 1) := by decide +kernel
theorem d_M_hasEnd_4 : decode c_M_hasEnd 4 = .ok (.getfield 63, 3) := by decide +kernel
theorem d_M_hasEnd_7 : decode c_M_hasEnd 7 = .ok (.if_icmp .ge 51, 3) := by decide +kernel
theorem d_M_hasEnd_10 : decode c_M_hasEnd 10 = .ok (.aload_n 0, 1) := by decide +kernel
theorem d_M_hasEnd_11 : decode c_M_hasEnd 11 = .ok (.getfield 44, 3) := by decide +kernel
theorem d_M_hasEnd_14 : decode c_M_hasEnd 14 = .ok (.iload_n 1, 1) := by decide +kernel
theorem d_M_hasEnd_15 : decode c_M_hasEnd 15 = .ok (.iload_n 2, 1) := by decide +kernel
theorem d_M_hasEnd_16 : decode c_M_hasEnd 16 = .ok (.iastore, 1) := by decide +kernel
theorem d_M_hasEnd_17 : decode c_M_hasEnd 17 = .ok (.aload_n 0, 1) := by decide +kernel
theorem d_M_hasEnd_18 : decode c_M_hasEnd 18 = .ok (.getfield 29, 3) := by decide +kernel
theorem d_M_hasEnd_21 : decode c_M_hasEnd 21 = .ok (.iload_n 2, 1) := by decide +kernel
theorem d_M_hasEnd_22 : decode c_M_hasEnd 22 = .ok (.iaload, 1) := by decide +kernel
theorem d_M_hasEnd_23 : decode c_M_hasEnd 23 = .ok (.aload_n 0, 1) := by decide +kernel
theorem d_M_hasEnd_24 : decode c_M_hasEnd 24 = .ok (.getfield 32, 3) := by decide +kernel
theorem d_M_hasEnd_27 : decode c_M_hasEnd 27 = .ok (.aload_n 0, 1) := by decide +kernel
theorem d_M_hasEnd_28 : decode c_M_hasEnd 28 = .ok (.getfield 44, 3) := by decide +kernel
theorem d_M_hasEnd_31 : decode c_M_hasEnd 31 = .ok (.iload_n 1, 1) := by decide +kernel
theorem d_M_hasEnd_32 : decode c_M_hasEnd 32 = .ok (.iconst 1, 1) := by decide +kernel
theorem d_M_hasEnd_33 : decode c_M_hasEnd 33 = .ok (.isub, 1) := by decide +kernel
theorem d_M_hasEnd_34 : decode c_M_hasEnd 34 = .ok (.iaload, 1) := by decide +kernel
theorem d_M_hasEnd_35 : decode c_M_hasEnd 35 = .ok (.iaload, 1) := by decide +kernel
theorem d_M_hasEnd_36 : decode c_M_hasEnd 36 = .ok (.if_icmp .ne 16, 3) := by decide +kernel
theorem d_M_hasEnd_39 : decode c_M_hasEnd 39 = .ok (.aload_n 0, 1) := by decide +kernel
theorem d_M_hasEnd_40 : decode c_M_hasEnd 40 = .ok (.iconst 1, 1) := by decide +kernel
theorem d_M_hasEnd_41 : decode c_M_hasEnd 41 = .ok (.iload_n 1, 1) := by decide +kernel
theorem d_M_hasEnd_42 : decode c_M_hasEnd 42 = .ok (.iconst 1, 1) := by decide +kernel
theorem d_M_hasEnd_43 : decode c_M_hasEnd 43 = .ok (.iadd, 1) := by decide +kernel
theorem d_M_hasEnd_44 : decode c_M_hasEnd 44 = .ok (.invokevirtual 113, 3) := by decide +kernel
theorem d_M_hasEnd_47 : decode c_M_hasEnd 47 = .ok (.ifCond .eq 5, 3) := by decide +kernel
theorem d_M_hasEnd_50 : decode c_M_hasEnd 50 = .ok (.iconst 1, 1) := by decide +kernel
theorem d_M_hasEnd_51 : decode c_M_hasEnd 51 = .ok (.ireturn, 1) := by decide +kernel
theorem d_M_hasEnd_52 : decode c_M_hasEnd 52 = .ok (.iinc 2 1, 3) := by decide +kernel
theorem d_M_hasEnd_55 : decode c_M_hasEnd 55 = .ok (.goto (-53), 3) := by decide +kernel
theorem d_M_hasEnd_58 : decode c_M_hasEnd 58 = .ok (.iconst 0, 1) := by decide +kernel
theorem d_M_hasEnd_59 : decode c_M_hasEnd 59 = .ok (.ireturn, 1) := by decide +kernel
abbrev c_M_keep : ByteArray := prog_6_method_28_code
def y_M_keep : MethodName := ⟨"ReadGraphModel", "keep", "(I)Z"⟩
theorem d_M_keep_0 : decode c_M_keep 0 = .ok (.aload_n 0, 1) := by decide +kernel
theorem d_M_keep_1 : decode c_M_keep 1 = .ok (.iload_n 1, 1) := by decide +kernel
theorem d_M_keep_2 : decode c_M_keep 2 = .ok (.iconst 1, 1) := by decide +kernel
theorem d_M_keep_3 : decode c_M_keep 3 = .ok (.iadd, 1) := by decide +kernel
theorem d_M_keep_4 : decode c_M_keep 4 = .ok (.invokevirtual 116, 3) := by decide +kernel
theorem d_M_keep_7 : decode c_M_keep 7 = .ok (.ifCond .ne 13, 3) := by decide +kernel
theorem d_M_keep_10 : decode c_M_keep 10 = .ok (.aload_n 0, 1) := by decide +kernel
theorem d_M_keep_11 : decode c_M_keep 11 = .ok (.iload_n 1, 1) := by decide +kernel
theorem d_M_keep_12 : decode c_M_keep 12 = .ok (.iconst 1, 1) := by decide +kernel
theorem d_M_keep_13 : decode c_M_keep 13 = .ok (.iadd, 1) := by decide +kernel
theorem d_M_keep_14 : decode c_M_keep 14 = .ok (.invokevirtual 119, 3) := by decide +kernel
theorem d_M_keep_17 : decode c_M_keep 17 = .ok (.ifCond .eq 5, 3) := by decide +kernel
theorem d_M_keep_20 : decode c_M_keep 20 = .ok (.iconst 1, 1) := by decide +kernel
theorem d_M_keep_21 : decode c_M_keep 21 = .ok (.ireturn, 1) := by decide +kernel
theorem d_M_keep_22 : decode c_M_keep 22 = .ok (.aload_n 0, 1) := by decide +kernel
theorem d_M_keep_23 : decode c_M_keep 23 = .ok (.getfield 66, 3) := by decide +kernel
theorem d_M_keep_26 : decode c_M_keep 26 = .ok (.bipush 50, 2) := by decide +kernel
theorem d_M_keep_28 : decode c_M_keep 28 = .ok (.if_icmp .ne 5, 3) := by decide +kernel
theorem d_M_keep_31 : decode c_M_keep 31 = .ok (.iconst 0, 1) := by decide +kernel
theorem d_M_keep_32 : decode c_M_keep 32 = .ok (.ireturn, 1) := by decide +kernel
theorem d_M_keep_33 : decode c_M_keep 33 = .ok (.aload_n 0, 1) := by decide +kernel
theorem d_M_keep_34 : decode c_M_keep 34 = .ok (.getfield 50, 3) := by decide +kernel
theorem d_M_keep_37 : decode c_M_keep 37 = .ok (.aload_n 0, 1) := by decide +kernel
theorem d_M_keep_38 : decode c_M_keep 38 = .ok (.getfield 66, 3) := by decide +kernel
theorem d_M_keep_41 : decode c_M_keep 41 = .ok (.iload_n 1, 1) := by decide +kernel
theorem d_M_keep_42 : decode c_M_keep 42 = .ok (.iastore, 1) := by decide +kernel
theorem d_M_keep_43 : decode c_M_keep 43 = .ok (.iconst 0, 1) := by decide +kernel
theorem d_M_keep_44 : decode c_M_keep 44 = .ok (.istore_n 2, 1) := by decide +kernel
theorem d_M_keep_45 : decode c_M_keep 45 = .ok (.iload_n 2, 1) := by decide +kernel
theorem d_M_keep_46 : decode c_M_keep 46 = .ok (.iload_n 1, 1) := by decide +kernel
theorem d_M_keep_47 : decode c_M_keep 47 = .ok (.if_icmp .ge 31, 3) := by decide +kernel
theorem d_M_keep_50 : decode c_M_keep 50 = .ok (.aload_n 0, 1) := by decide +kernel
theorem d_M_keep_51 : decode c_M_keep 51 = .ok (.getfield 53, 3) := by decide +kernel
theorem d_M_keep_54 : decode c_M_keep 54 = .ok (.bipush 40, 2) := by decide +kernel
theorem d_M_keep_56 : decode c_M_keep 56 = .ok (.aload_n 0, 1) := by decide +kernel
theorem d_M_keep_57 : decode c_M_keep 57 = .ok (.getfield 66, 3) := by decide +kernel
theorem d_M_keep_60 : decode c_M_keep 60 = .ok (.imul, 1) := by decide +kernel
theorem d_M_keep_61 : decode c_M_keep 61 = .ok (.iload_n 2, 1) := by decide +kernel
theorem d_M_keep_62 : decode c_M_keep 62 = .ok (.iadd, 1) := by decide +kernel
theorem d_M_keep_63 : decode c_M_keep 63 = .ok (.aload_n 0, 1) := by decide +kernel
theorem d_M_keep_64 : decode c_M_keep 64 = .ok (.getfield 44, 3) := by decide +kernel
theorem d_M_keep_67 : decode c_M_keep 67 = .ok (.iload_n 2, 1) := by decide +kernel
theorem d_M_keep_68 : decode c_M_keep 68 = .ok (.iconst 1, 1) := by decide +kernel
theorem d_M_keep_69 : decode c_M_keep 69 = .ok (.iadd, 1) := by decide +kernel
theorem d_M_keep_70 : decode c_M_keep 70 = .ok (.iaload, 1) := by decide +kernel
theorem d_M_keep_71 : decode c_M_keep 71 = .ok (.iastore, 1) := by decide +kernel
theorem d_M_keep_72 : decode c_M_keep 72 = .ok (.iinc 2 1, 3) := by decide +kernel
theorem d_M_keep_75 : decode c_M_keep 75 = .ok (.goto (-30), 3) := by decide +kernel
theorem d_M_keep_78 : decode c_M_keep 78 = .ok (.aload_n 0, 1) := by decide +kernel
theorem d_M_keep_79 : decode c_M_keep 79 = .ok (.dup, 1) := by decide +kernel
theorem d_M_keep_80 : decode c_M_keep 80 = .ok (.getfield 66, 3) := by decide +kernel
theorem d_M_keep_83 : decode c_M_keep 83 = .ok (.iconst 1, 1) := by decide +kernel
theorem d_M_keep_84 : decode c_M_keep 84 = .ok (.iadd, 1) := by decide +kernel
theorem d_M_keep_85 : decode c_M_keep 85 = .ok (.putfield 66, 3) := by decide +kernel
theorem d_M_keep_88 : decode c_M_keep 88 = .ok (.iconst 1, 1) := by decide +kernel
theorem d_M_keep_89 : decode c_M_keep 89 = .ok (.ireturn, 1) := by decide +kernel
abbrev c_M_find : ByteArray := prog_6_method_29_code
def y_M_find : MethodName := ⟨"ReadGraphModel", "find", "()Z"⟩
theorem d_M_find_0 : decode c_M_find 0 = .ok (.iconst 1, 1) := by decide +kernel
theorem d_M_find_1 : decode c_M_find 1 = .ok (.istore_n 1, 1) := by decide +kernel
theorem d_M_find_2 : decode c_M_find 2 = .ok (.aload_n 0, 1) := by decide +kernel
theorem d_M_find_3 : decode c_M_find 3 = .ok (.getfield 47, 3) := by decide +kernel
theorem d_M_find_6 : decode c_M_find 6 = .ok (.iconst 1, 1) := by decide +kernel
theorem d_M_find_7 : decode c_M_find 7 = .ok (.iconst 0, 1) := by decide +kernel
theorem d_M_find_8 : decode c_M_find 8 = .ok (.iastore, 1) := by decide +kernel
theorem d_M_find_9 : decode c_M_find 9 = .ok (.iload_n 1, 1) := by decide +kernel
theorem d_M_find_10 : decode c_M_find 10 = .ok (.ifCond .le 117, 3) := by decide +kernel
theorem d_M_find_13 : decode c_M_find 13 = .ok (.aload_n 0, 1) := by decide +kernel
theorem d_M_find_14 : decode c_M_find 14 = .ok (.getfield 47, 3) := by decide +kernel
theorem d_M_find_17 : decode c_M_find 17 = .ok (.iload_n 1, 1) := by decide +kernel
theorem d_M_find_18 : decode c_M_find 18 = .ok (.iaload, 1) := by decide +kernel
theorem d_M_find_19 : decode c_M_find 19 = .ok (.istore_n 2, 1) := by decide +kernel
theorem d_M_find_20 : decode c_M_find 20 = .ok (.iload_n 2, 1) := by decide +kernel
theorem d_M_find_21 : decode c_M_find 21 = .ok (.aload_n 0, 1) := by decide +kernel
theorem d_M_find_22 : decode c_M_find 22 = .ok (.getfield 63, 3) := by decide +kernel
theorem d_M_find_25 : decode c_M_find 25 = .ok (.if_icmp .ne 9, 3) := by decide +kernel
theorem d_M_find_28 : decode c_M_find 28 = .ok (.iinc 1 (-1), 3) := by decide +kernel
theorem d_M_find_31 : decode c_M_find 31 = .ok (.goto (-22), 3) := by decide +kernel
theorem d_M_find_34 : decode c_M_find 34 = .ok (.aload_n 0, 1) := by decide +kernel
theorem d_M_find_35 : decode c_M_find 35 = .ok (.getfield 47, 3) := by decide +kernel
theorem d_M_find_38 : decode c_M_find 38 = .ok (.iload_n 1, 1) := by decide +kernel
theorem d_M_find_39 : decode c_M_find 39 = .ok (.iload_n 2, 1) := by decide +kernel
theorem d_M_find_40 : decode c_M_find 40 = .ok (.iconst 1, 1) := by decide +kernel
theorem d_M_find_41 : decode c_M_find 41 = .ok (.iadd, 1) := by decide +kernel
theorem d_M_find_42 : decode c_M_find 42 = .ok (.iastore, 1) := by decide +kernel
theorem d_M_find_43 : decode c_M_find 43 = .ok (.aload_n 0, 1) := by decide +kernel
theorem d_M_find_44 : decode c_M_find 44 = .ok (.getfield 44, 3) := by decide +kernel
theorem d_M_find_47 : decode c_M_find 47 = .ok (.iload_n 1, 1) := by decide +kernel
theorem d_M_find_48 : decode c_M_find 48 = .ok (.iload_n 2, 1) := by decide +kernel
theorem d_M_find_49 : decode c_M_find 49 = .ok (.iastore, 1) := by decide +kernel
theorem d_M_find_50 : decode c_M_find 50 = .ok (.iload_n 1, 1) := by decide +kernel
theorem d_M_find_51 : decode c_M_find 51 = .ok (.iconst 1, 1) := by decide +kernel
theorem d_M_find_52 : decode c_M_find 52 = .ok (.if_icmp .le 25, 3) := by decide +kernel
theorem d_M_find_55 : decode c_M_find 55 = .ok (.aload_n 0, 1) := by decide +kernel
theorem d_M_find_56 : decode c_M_find 56 = .ok (.getfield 29, 3) := by decide +kernel
theorem d_M_find_59 : decode c_M_find 59 = .ok (.iload_n 2, 1) := by decide +kernel
theorem d_M_find_60 : decode c_M_find 60 = .ok (.iaload, 1) := by decide +kernel
theorem d_M_find_61 : decode c_M_find 61 = .ok (.aload_n 0, 1) := by decide +kernel
theorem d_M_find_62 : decode c_M_find 62 = .ok (.getfield 32, 3) := by decide +kernel
theorem d_M_find_65 : decode c_M_find 65 = .ok (.aload_n 0, 1) := by decide +kernel
theorem d_M_find_66 : decode c_M_find 66 = .ok (.getfield 44, 3) := by decide +kernel
theorem d_M_find_69 : decode c_M_find 69 = .ok (.iload_n 1, 1) := by decide +kernel
theorem d_M_find_70 : decode c_M_find 70 = .ok (.iconst 1, 1) := by decide +kernel
theorem d_M_find_71 : decode c_M_find 71 = .ok (.isub, 1) := by decide +kernel
theorem d_M_find_72 : decode c_M_find 72 = .ok (.iaload, 1) := by decide +kernel
theorem d_M_find_73 : decode c_M_find 73 = .ok (.iaload, 1) := by decide +kernel
theorem d_M_find_74 : decode c_M_find 74 = .ok (.if_icmp .ne (-65), 3) := by decide +kernel
theorem d_M_find_77 : decode c_M_find 77 = .ok (.aload_n 0, 1) := by decide +kernel
theorem d_M_find_78 : decode c_M_find 78 = .ok (.iconst 1, 1) := by decide +kernel
theorem d_M_find_79 : decode c_M_find 79 = .ok (.iload_n 1, 1) := by decide +kernel
theorem d_M_find_80 : decode c_M_find 80 = .ok (.iconst 1, 1) := by decide +kernel
theorem d_M_find_81 : decode c_M_find 81 = .ok (.iadd, 1) := by decide +kernel
theorem d_M_find_82 : decode c_M_find 82 = .ok (.invokevirtual 113, 3) := by decide +kernel
theorem d_M_find_85 : decode c_M_find 85 = .ok (.ifCond .ne 6, 3) := by decide +kernel
theorem d_M_find_88 : decode c_M_find 88 = .ok (.goto (-79), 3) := by decide +kernel
theorem d_M_find_91 : decode c_M_find 91 = .ok (.iload_n 1, 1) := by decide +kernel
theorem d_M_find_92 : decode c_M_find 92 = .ok (.bipush 40, 2) := by decide +kernel
theorem d_M_find_94 : decode c_M_find 94 = .ok (.if_icmp .gt 11, 3) := by decide +kernel
theorem d_M_find_97 : decode c_M_find 97 = .ok (.aload_n 0, 1) := by decide +kernel
theorem d_M_find_98 : decode c_M_find 98 = .ok (.iload_n 1, 1) := by decide +kernel
theorem d_M_find_99 : decode c_M_find 99 = .ok (.invokevirtual 122, 3) := by decide +kernel
theorem d_M_find_102 : decode c_M_find 102 = .ok (.ifCond .ne 5, 3) := by decide +kernel
theorem d_M_find_105 : decode c_M_find 105 = .ok (.iconst 0, 1) := by decide +kernel
theorem d_M_find_106 : decode c_M_find 106 = .ok (.ireturn, 1) := by decide +kernel
theorem d_M_find_107 : decode c_M_find 107 = .ok (.aload_n 0, 1) := by decide +kernel
theorem d_M_find_108 : decode c_M_find 108 = .ok (.getfield 44, 3) := by decide +kernel
theorem d_M_find_111 : decode c_M_find 111 = .ok (.iload_n 1, 1) := by decide +kernel
theorem d_M_find_112 : decode c_M_find 112 = .ok (.iload_n 2, 1) := by decide +kernel
theorem d_M_find_113 : decode c_M_find 113 = .ok (.iastore, 1) := by decide +kernel
theorem d_M_find_114 : decode c_M_find 114 = .ok (.iinc 1 1, 3) := by decide +kernel
theorem d_M_find_117 : decode c_M_find 117 = .ok (.aload_n 0, 1) := by decide +kernel
theorem d_M_find_118 : decode c_M_find 118 = .ok (.getfield 47, 3) := by decide +kernel
theorem d_M_find_121 : decode c_M_find 121 = .ok (.iload_n 1, 1) := by decide +kernel
theorem d_M_find_122 : decode c_M_find 122 = .ok (.iconst 0, 1) := by decide +kernel
theorem d_M_find_123 : decode c_M_find 123 = .ok (.iastore, 1) := by decide +kernel
theorem d_M_find_124 : decode c_M_find 124 = .ok (.goto (-115), 3) := by decide +kernel
theorem d_M_find_127 : decode c_M_find 127 = .ok (.iconst 1, 1) := by decide +kernel
theorem d_M_find_128 : decode c_M_find 128 = .ok (.ireturn, 1) := by decide +kernel
abbrev c_M_walks : ByteArray := prog_6_method_30_code
def y_M_walks : MethodName := ⟨"ReadGraphModel", "walks", "()I"⟩
theorem d_M_walks_0 : decode c_M_walks 0 = .ok (.aload_n 0, 1) := by decide +kernel
theorem d_M_walks_1 : decode c_M_walks 1 = .ok (.iconst 0, 1) := by decide +kernel
theorem d_M_walks_2 : decode c_M_walks 2 = .ok (.putfield 66, 3) := by decide +kernel
theorem d_M_walks_5 : decode c_M_walks 5 = .ok (.aload_n 0, 1) := by decide +kernel
theorem d_M_walks_6 : decode c_M_walks 6 = .ok (.invokevirtual 125, 3) := by decide +kernel
theorem d_M_walks_9 : decode c_M_walks 9 = .ok (.iconst 2, 1) := by decide +kernel
theorem d_M_walks_10 : decode c_M_walks 10 = .ok (.if_icmp .ne 14, 3) := by decide +kernel
theorem d_M_walks_13 : decode c_M_walks 13 = .ok (.aload_n 0, 1) := by decide +kernel
theorem d_M_walks_14 : decode c_M_walks 14 = .ok (.invokevirtual 129, 3) := by decide +kernel
theorem d_M_walks_17 : decode c_M_walks 17 = .ok (.ifCond .eq 7, 3) := by decide +kernel
theorem d_M_walks_20 : decode c_M_walks 20 = .ok (.iconst 1, 1) := by decide +kernel
theorem d_M_walks_21 : decode c_M_walks 21 = .ok (.goto 4, 3) := by decide +kernel
theorem d_M_walks_24 : decode c_M_walks 24 = .ok (.iconst 0, 1) := by decide +kernel
theorem d_M_walks_25 : decode c_M_walks 25 = .ok (.istore_n 1, 1) := by decide +kernel
theorem d_M_walks_26 : decode c_M_walks 26 = .ok (.aload_n 0, 1) := by decide +kernel
theorem d_M_walks_27 : decode c_M_walks 27 = .ok (.iload_n 1, 1) := by decide +kernel
theorem d_M_walks_28 : decode c_M_walks 28 = .ok (.ifCond .eq 10, 3) := by decide +kernel
theorem d_M_walks_31 : decode c_M_walks 31 = .ok (.aload_n 0, 1) := by decide +kernel
theorem d_M_walks_32 : decode c_M_walks 32 = .ok (.getfield 66, 3) := by decide +kernel
theorem d_M_walks_35 : decode c_M_walks 35 = .ok (.goto 4, 3) := by decide +kernel
theorem d_M_walks_38 : decode c_M_walks 38 = .ok (.iconst 0, 1) := by decide +kernel
theorem d_M_walks_39 : decode c_M_walks 39 = .ok (.putfield 66, 3) := by decide +kernel
theorem d_M_walks_42 : decode c_M_walks 42 = .ok (.aload_n 0, 1) := by decide +kernel
theorem d_M_walks_43 : decode c_M_walks 43 = .ok (.iload_n 1, 1) := by decide +kernel
theorem d_M_walks_44 : decode c_M_walks 44 = .ok (.ifCond .ne 7, 3) := by decide +kernel
theorem d_M_walks_47 : decode c_M_walks 47 = .ok (.iconst 1, 1) := by decide +kernel
theorem d_M_walks_48 : decode c_M_walks 48 = .ok (.goto 4, 3) := by decide +kernel
theorem d_M_walks_51 : decode c_M_walks 51 = .ok (.iconst 0, 1) := by decide +kernel
theorem d_M_walks_52 : decode c_M_walks 52 = .ok (.iconst 0, 1) := by decide +kernel
theorem d_M_walks_53 : decode c_M_walks 53 = .ok (.invokevirtual 80, 3) := by decide +kernel
theorem d_M_walks_56 : decode c_M_walks 56 = .ok (.ifCond .eq 7, 3) := by decide +kernel
theorem d_M_walks_59 : decode c_M_walks 59 = .ok (.iconst 0, 1) := by decide +kernel
theorem d_M_walks_60 : decode c_M_walks 60 = .ok (.goto 7, 3) := by decide +kernel
theorem d_M_walks_63 : decode c_M_walks 63 = .ok (.aload_n 0, 1) := by decide +kernel
theorem d_M_walks_64 : decode c_M_walks 64 = .ok (.getfield 66, 3) := by decide +kernel
theorem d_M_walks_67 : decode c_M_walks 67 = .ok (.ireturn, 1) := by decide +kernel
abbrev c_M_walk : ByteArray := prog_6_method_31_code
def y_M_walk : MethodName := ⟨"ReadGraphModel", "walk", "(II)I"⟩
theorem d_M_walk_0 : decode c_M_walk 0 = .ok (.iload_n 1, 1) := by decide +kernel
theorem d_M_walk_1 : decode c_M_walk 1 = .ok (.aload_n 0, 1) := by decide +kernel
theorem d_M_walk_2 : decode c_M_walk 2 = .ok (.getfield 66, 3) := by decide +kernel
theorem d_M_walk_5 : decode c_M_walk 5 = .ok (.invokestatic 73, 3) := by decide +kernel
theorem d_M_walk_8 : decode c_M_walk 8 = .ok (.istore_n 3, 1) := by decide +kernel
theorem d_M_walk_9 : decode c_M_walk 9 = .ok (.aload_n 0, 1) := by decide +kernel
theorem d_M_walk_10 : decode c_M_walk 10 = .ok (.iload_n 3, 1) := by decide +kernel
theorem d_M_walk_11 : decode c_M_walk 11 = .ok (.iload_n 3, 1) := by decide +kernel
theorem d_M_walk_12 : decode c_M_walk 12 = .ok (.ifCond .ne 22, 3) := by decide +kernel
theorem d_M_walk_15 : decode c_M_walk 15 = .ok (.iload_n 2, 1) := by decide +kernel
theorem d_M_walk_16 : decode c_M_walk 16 = .ok (.iconst (-1), 1) := by decide +kernel
theorem d_M_walk_17 : decode c_M_walk 17 = .ok (.if_icmp .lt 13, 3) := by decide +kernel
theorem d_M_walk_20 : decode c_M_walk 20 = .ok (.iload_n 2, 1) := by decide +kernel
theorem d_M_walk_21 : decode c_M_walk 21 = .ok (.aload_n 0, 1) := by decide +kernel
theorem d_M_walk_22 : decode c_M_walk 22 = .ok (.getfield 50, 3) := by decide +kernel
theorem d_M_walk_25 : decode c_M_walk 25 = .ok (.iload_n 1, 1) := by decide +kernel
theorem d_M_walk_26 : decode c_M_walk 26 = .ok (.iaload, 1) := by decide +kernel
theorem d_M_walk_27 : decode c_M_walk 27 = .ok (.if_icmp .lt 7, 3) := by decide +kernel
theorem d_M_walk_30 : decode c_M_walk 30 = .ok (.iconst 1, 1) := by decide +kernel
theorem d_M_walk_31 : decode c_M_walk 31 = .ok (.goto 4, 3) := by decide +kernel
theorem d_M_walk_34 : decode c_M_walk 34 = .ok (.iconst 0, 1) := by decide +kernel
theorem d_M_walk_35 : decode c_M_walk 35 = .ok (.invokevirtual 80, 3) := by decide +kernel
theorem d_M_walk_38 : decode c_M_walk 38 = .ok (.ifCond .eq 5, 3) := by decide +kernel
theorem d_M_walk_41 : decode c_M_walk 41 = .ok (.iconst 0, 1) := by decide +kernel
theorem d_M_walk_42 : decode c_M_walk 42 = .ok (.ireturn, 1) := by decide +kernel
theorem d_M_walk_43 : decode c_M_walk 43 = .ok (.iload_n 2, 1) := by decide +kernel
theorem d_M_walk_44 : decode c_M_walk 44 = .ok (.ifCond .ge 12, 3) := by decide +kernel
theorem d_M_walk_47 : decode c_M_walk 47 = .ok (.aload_n 0, 1) := by decide +kernel
theorem d_M_walk_48 : decode c_M_walk 48 = .ok (.getfield 50, 3) := by decide +kernel
theorem d_M_walk_51 : decode c_M_walk 51 = .ok (.iload_n 1, 1) := by decide +kernel
theorem d_M_walk_52 : decode c_M_walk 52 = .ok (.iaload, 1) := by decide +kernel
theorem d_M_walk_53 : decode c_M_walk 53 = .ok (.goto 14, 3) := by decide +kernel
theorem d_M_walk_56 : decode c_M_walk 56 = .ok (.aload_n 0, 1) := by decide +kernel
theorem d_M_walk_57 : decode c_M_walk 57 = .ok (.getfield 53, 3) := by decide +kernel
theorem d_M_walk_60 : decode c_M_walk 60 = .ok (.bipush 40, 2) := by decide +kernel
theorem d_M_walk_62 : decode c_M_walk 62 = .ok (.iload_n 1, 1) := by decide +kernel
theorem d_M_walk_63 : decode c_M_walk 63 = .ok (.imul, 1) := by decide +kernel
theorem d_M_walk_64 : decode c_M_walk 64 = .ok (.iload_n 2, 1) := by decide +kernel
theorem d_M_walk_65 : decode c_M_walk 65 = .ok (.iadd, 1) := by decide +kernel
theorem d_M_walk_66 : decode c_M_walk 66 = .ok (.iaload, 1) := by decide +kernel
theorem d_M_walk_67 : decode c_M_walk 67 = .ok (.ireturn, 1) := by decide +kernel
abbrev c_M_spell : ByteArray := prog_6_method_32_code
def y_M_spell : MethodName := ⟨"ReadGraphModel", "spell", "(II)I"⟩
theorem d_M_spell_0 : decode c_M_spell 0 = .ok (.iconst 0, 1) := by decide +kernel
theorem d_M_spell_1 : decode c_M_spell 1 = .ok (.istore_n 3, 1) := by decide +kernel
theorem d_M_spell_2 : decode c_M_spell 2 = .ok (.aload_n 0, 1) := by decide +kernel
theorem d_M_spell_3 : decode c_M_spell 3 = .ok (.getfield 29, 3) := by decide +kernel
theorem d_M_spell_6 : decode c_M_spell 6 = .ok (.aload_n 0, 1) := by decide +kernel
theorem d_M_spell_7 : decode c_M_spell 7 = .ok (.getfield 53, 3) := by decide +kernel
theorem d_M_spell_10 : decode c_M_spell 10 = .ok (.bipush 40, 2) := by decide +kernel
theorem d_M_spell_12 : decode c_M_spell 12 = .ok (.iload_n 1, 1) := by decide +kernel
theorem d_M_spell_13 : decode c_M_spell 13 = .ok (.imul, 1) := by decide +kernel
theorem d_M_spell_14 : decode c_M_spell 14 = .ok (.iaload, 1) := by decide +kernel
theorem d_M_spell_15 : decode c_M_spell 15 = .ok (.iaload, 1) := by decide +kernel
theorem d_M_spell_16 : decode c_M_spell 16 = .ok (.istore 4, 2) := by decide +kernel
theorem d_M_spell_18 : decode c_M_spell 18 = .ok (.iconst 0, 1) := by decide +kernel
theorem d_M_spell_19 : decode c_M_spell 19 = .ok (.istore 5, 2) := by decide +kernel
theorem d_M_spell_21 : decode c_M_spell 21 = .ok (.iload 5, 2) := by decide +kernel
theorem d_M_spell_23 : decode c_M_spell 23 = .ok (.aload_n 0, 1) := by decide +kernel
theorem d_M_spell_24 : decode c_M_spell 24 = .ok (.getfield 7, 3) := by decide +kernel
theorem d_M_spell_27 : decode c_M_spell 27 = .ok (.iload 4, 2) := by decide +kernel
theorem d_M_spell_29 : decode c_M_spell 29 = .ok (.iaload, 1) := by decide +kernel
theorem d_M_spell_30 : decode c_M_spell 30 = .ok (.if_icmp .ge 31, 3) := by decide +kernel
theorem d_M_spell_33 : decode c_M_spell 33 = .ok (.iload_n 3, 1) := by decide +kernel
theorem d_M_spell_34 : decode c_M_spell 34 = .ok (.iload_n 2, 1) := by decide +kernel
theorem d_M_spell_35 : decode c_M_spell 35 = .ok (.if_icmp .ne 17, 3) := by decide +kernel
theorem d_M_spell_38 : decode c_M_spell 38 = .ok (.aload_n 0, 1) := by decide +kernel
theorem d_M_spell_39 : decode c_M_spell 39 = .ok (.getfield 13, 3) := by decide +kernel
theorem d_M_spell_42 : decode c_M_spell 42 = .ok (.bipush 12, 2) := by decide +kernel
theorem d_M_spell_44 : decode c_M_spell 44 = .ok (.iload 4, 2) := by decide +kernel
theorem d_M_spell_46 : decode c_M_spell 46 = .ok (.imul, 1) := by decide +kernel
theorem d_M_spell_47 : decode c_M_spell 47 = .ok (.iload 5, 2) := by decide +kernel
theorem d_M_spell_49 : decode c_M_spell 49 = .ok (.iadd, 1) := by decide +kernel
theorem d_M_spell_50 : decode c_M_spell 50 = .ok (.iaload, 1) := by decide +kernel
theorem d_M_spell_51 : decode c_M_spell 51 = .ok (.ireturn, 1) := by decide +kernel
theorem d_M_spell_52 : decode c_M_spell 52 = .ok (.iinc 3 1, 3) := by decide +kernel
theorem d_M_spell_55 : decode c_M_spell 55 = .ok (.iinc 5 1, 3) := by decide +kernel
theorem d_M_spell_58 : decode c_M_spell 58 = .ok (.goto (-37), 3) := by decide +kernel
theorem d_M_spell_61 : decode c_M_spell 61 = .ok (.iconst 0, 1) := by decide +kernel
theorem d_M_spell_62 : decode c_M_spell 62 = .ok (.istore 5, 2) := by decide +kernel
theorem d_M_spell_64 : decode c_M_spell 64 = .ok (.iload 5, 2) := by decide +kernel
theorem d_M_spell_66 : decode c_M_spell 66 = .ok (.aload_n 0, 1) := by decide +kernel
theorem d_M_spell_67 : decode c_M_spell 67 = .ok (.getfield 50, 3) := by decide +kernel
theorem d_M_spell_70 : decode c_M_spell 70 = .ok (.iload_n 1, 1) := by decide +kernel
theorem d_M_spell_71 : decode c_M_spell 71 = .ok (.iaload, 1) := by decide +kernel
theorem d_M_spell_72 : decode c_M_spell 72 = .ok (.if_icmp .ge 82, 3) := by decide +kernel
theorem d_M_spell_75 : decode c_M_spell 75 = .ok (.aload_n 0, 1) := by decide +kernel
theorem d_M_spell_76 : decode c_M_spell 76 = .ok (.getfield 53, 3) := by decide +kernel
theorem d_M_spell_79 : decode c_M_spell 79 = .ok (.bipush 40, 2) := by decide +kernel
theorem d_M_spell_81 : decode c_M_spell 81 = .ok (.iload_n 1, 1) := by decide +kernel
theorem d_M_spell_82 : decode c_M_spell 82 = .ok (.imul, 1) := by decide +kernel
theorem d_M_spell_83 : decode c_M_spell 83 = .ok (.iload 5, 2) := by decide +kernel
theorem d_M_spell_85 : decode c_M_spell 85 = .ok (.iadd, 1) := by decide +kernel
theorem d_M_spell_86 : decode c_M_spell 86 = .ok (.iaload, 1) := by decide +kernel
theorem d_M_spell_87 : decode c_M_spell 87 = .ok (.istore 6, 2) := by decide +kernel
theorem d_M_spell_89 : decode c_M_spell 89 = .ok (.aload_n 0, 1) := by decide +kernel
theorem d_M_spell_90 : decode c_M_spell 90 = .ok (.getfield 35, 3) := by decide +kernel
theorem d_M_spell_93 : decode c_M_spell 93 = .ok (.iload 6, 2) := by decide +kernel
theorem d_M_spell_95 : decode c_M_spell 95 = .ok (.iaload, 1) := by decide +kernel
theorem d_M_spell_96 : decode c_M_spell 96 = .ok (.istore 7, 2) := by decide +kernel
theorem d_M_spell_98 : decode c_M_spell 98 = .ok (.iload 7, 2) := by decide +kernel
theorem d_M_spell_100 : decode c_M_spell 100 = .ok (.aload_n 0, 1) := by decide +kernel
theorem d_M_spell_101 : decode c_M_spell 101 = .ok (.getfield 7, 3) := by decide +kernel
theorem d_M_spell_104 : decode c_M_spell 104 = .ok (.aload_n 0, 1) := by decide +kernel
theorem d_M_spell_105 : decode c_M_spell 105 = .ok (.getfield 32, 3) := by decide +kernel
theorem d_M_spell_108 : decode c_M_spell 108 = .ok (.iload 6, 2) := by decide +kernel
theorem d_M_spell_110 : decode c_M_spell 110 = .ok (.iaload, 1) := by decide +kernel
theorem d_M_spell_111 : decode c_M_spell 111 = .ok (.iaload, 1) := by decide +kernel
theorem d_M_spell_112 : decode c_M_spell 112 = .ok (.if_icmp .ge 36, 3) := by decide +kernel
theorem d_M_spell_115 : decode c_M_spell 115 = .ok (.iload_n 3, 1) := by decide +kernel
theorem d_M_spell_116 : decode c_M_spell 116 = .ok (.iload_n 2, 1) := by decide +kernel
theorem d_M_spell_117 : decode c_M_spell 117 = .ok (.if_icmp .ne 22, 3) := by decide +kernel
theorem d_M_spell_120 : decode c_M_spell 120 = .ok (.aload_n 0, 1) := by decide +kernel
theorem d_M_spell_121 : decode c_M_spell 121 = .ok (.getfield 13, 3) := by decide +kernel
theorem d_M_spell_124 : decode c_M_spell 124 = .ok (.bipush 12, 2) := by decide +kernel
theorem d_M_spell_126 : decode c_M_spell 126 = .ok (.aload_n 0, 1) := by decide +kernel
theorem d_M_spell_127 : decode c_M_spell 127 = .ok (.getfield 32, 3) := by decide +kernel
theorem d_M_spell_130 : decode c_M_spell 130 = .ok (.iload 6, 2) := by decide +kernel
theorem d_M_spell_132 : decode c_M_spell 132 = .ok (.iaload, 1) := by decide +kernel
theorem d_M_spell_133 : decode c_M_spell 133 = .ok (.imul, 1) := by decide +kernel
theorem d_M_spell_134 : decode c_M_spell 134 = .ok (.iload 7, 2) := by decide +kernel
theorem d_M_spell_136 : decode c_M_spell 136 = .ok (.iadd, 1) := by decide +kernel
theorem d_M_spell_137 : decode c_M_spell 137 = .ok (.iaload, 1) := by decide +kernel
theorem d_M_spell_138 : decode c_M_spell 138 = .ok (.ireturn, 1) := by decide +kernel
theorem d_M_spell_139 : decode c_M_spell 139 = .ok (.iinc 3 1, 3) := by decide +kernel
theorem d_M_spell_142 : decode c_M_spell 142 = .ok (.iinc 7 1, 3) := by decide +kernel
theorem d_M_spell_145 : decode c_M_spell 145 = .ok (.goto (-47), 3) := by decide +kernel
theorem d_M_spell_148 : decode c_M_spell 148 = .ok (.iinc 5 1, 3) := by decide +kernel
theorem d_M_spell_151 : decode c_M_spell 151 = .ok (.goto (-87), 3) := by decide +kernel
theorem d_M_spell_154 : decode c_M_spell 154 = .ok (.iconst (-1), 1) := by decide +kernel
theorem d_M_spell_155 : decode c_M_spell 155 = .ok (.iload_n 3, 1) := by decide +kernel
theorem d_M_spell_156 : decode c_M_spell 156 = .ok (.isub, 1) := by decide +kernel
theorem d_M_spell_157 : decode c_M_spell 157 = .ok (.ireturn, 1) := by decide +kernel
abbrev c_M_spelled : ByteArray := prog_6_method_33_code
def y_M_spelled : MethodName := ⟨"ReadGraphModel", "spelled", "(II)I"⟩
theorem d_M_spelled_0 : decode c_M_spelled 0 = .ok (.iload_n 1, 1) := by decide +kernel
theorem d_M_spelled_1 : decode c_M_spelled 1 = .ok (.aload_n 0, 1) := by decide +kernel
theorem d_M_spelled_2 : decode c_M_spelled 2 = .ok (.getfield 66, 3) := by decide +kernel
theorem d_M_spelled_5 : decode c_M_spelled 5 = .ok (.invokestatic 73, 3) := by decide +kernel
theorem d_M_spelled_8 : decode c_M_spelled 8 = .ok (.istore_n 3, 1) := by decide +kernel
theorem d_M_spelled_9 : decode c_M_spelled 9 = .ok (.iload_n 3, 1) := by decide +kernel
theorem d_M_spelled_10 : decode c_M_spelled 10 = .ok (.ifCond .eq 7, 3) := by decide +kernel
theorem d_M_spelled_13 : decode c_M_spelled 13 = .ok (.iconst 0, 1) := by decide +kernel
theorem d_M_spelled_14 : decode c_M_spelled 14 = .ok (.goto 9, 3) := by decide +kernel
theorem d_M_spelled_17 : decode c_M_spelled 17 = .ok (.aload_n 0, 1) := by decide +kernel
theorem d_M_spelled_18 : decode c_M_spelled 18 = .ok (.iload_n 1, 1) := by decide +kernel
theorem d_M_spelled_19 : decode c_M_spelled 19 = .ok (.iload_n 2, 1) := by decide +kernel
theorem d_M_spelled_20 : decode c_M_spelled 20 = .ok (.invokevirtual 133, 3) := by decide +kernel
theorem d_M_spelled_23 : decode c_M_spelled 23 = .ok (.istore 4, 2) := by decide +kernel
theorem d_M_spelled_25 : decode c_M_spelled 25 = .ok (.aload_n 0, 1) := by decide +kernel
theorem d_M_spelled_26 : decode c_M_spelled 26 = .ok (.iload_n 3, 1) := by decide +kernel
theorem d_M_spelled_27 : decode c_M_spelled 27 = .ok (.iload_n 2, 1) := by decide +kernel
theorem d_M_spelled_28 : decode c_M_spelled 28 = .ok (.iconst (-1), 1) := by decide +kernel
theorem d_M_spelled_29 : decode c_M_spelled 29 = .ok (.if_icmp .lt 12, 3) := by decide +kernel
theorem d_M_spelled_32 : decode c_M_spelled 32 = .ok (.iload_n 2, 1) := by decide +kernel
theorem d_M_spelled_33 : decode c_M_spelled 33 = .ok (.ifCond .lt 12, 3) := by decide +kernel
theorem d_M_spelled_36 : decode c_M_spelled 36 = .ok (.iload 4, 2) := by decide +kernel
theorem d_M_spelled_38 : decode c_M_spelled 38 = .ok (.ifCond .ge 7, 3) := by decide +kernel
theorem d_M_spelled_41 : decode c_M_spelled 41 = .ok (.iconst 1, 1) := by decide +kernel
theorem d_M_spelled_42 : decode c_M_spelled 42 = .ok (.goto 4, 3) := by decide +kernel
theorem d_M_spelled_45 : decode c_M_spelled 45 = .ok (.iconst 0, 1) := by decide +kernel
theorem d_M_spelled_46 : decode c_M_spelled 46 = .ok (.invokevirtual 80, 3) := by decide +kernel
theorem d_M_spelled_49 : decode c_M_spelled 49 = .ok (.ifCond .eq 5, 3) := by decide +kernel
theorem d_M_spelled_52 : decode c_M_spelled 52 = .ok (.iconst 0, 1) := by decide +kernel
theorem d_M_spelled_53 : decode c_M_spelled 53 = .ok (.ireturn, 1) := by decide +kernel
theorem d_M_spelled_54 : decode c_M_spelled 54 = .ok (.iload_n 2, 1) := by decide +kernel
theorem d_M_spelled_55 : decode c_M_spelled 55 = .ok (.ifCond .ge 10, 3) := by decide +kernel
theorem d_M_spelled_58 : decode c_M_spelled 58 = .ok (.iconst (-1), 1) := by decide +kernel
theorem d_M_spelled_59 : decode c_M_spelled 59 = .ok (.iload 4, 2) := by decide +kernel
theorem d_M_spelled_61 : decode c_M_spelled 61 = .ok (.isub, 1) := by decide +kernel
theorem d_M_spelled_62 : decode c_M_spelled 62 = .ok (.goto 5, 3) := by decide +kernel
theorem d_M_spelled_65 : decode c_M_spelled 65 = .ok (.iload 4, 2) := by decide +kernel
theorem d_M_spelled_67 : decode c_M_spelled 67 = .ok (.ireturn, 1) := by decide +kernel
