/-! names and decode rows: Edges, Walks (by program) -/
abbrev c_E_init : ByteArray := prog_2_method_1_code
def y_E_init : MethodName := ⟨"ReadGraph$Edges", "<init>", "()V"⟩
theorem d_E_init_0 : decode c_E_init 0 = .ok (.aload_n 0, 1) := by decide +kernel
theorem d_E_init_1 : decode c_E_init 1 = .ok (.invokespecial 3, 3) := by decide +kernel
theorem d_E_init_4 : decode c_E_init 4 = .ok (.aload_n 0, 1) := by decide +kernel
theorem d_E_init_5 : decode c_E_init 5 = .ok (.bipush 81, 2) := by decide +kernel
theorem d_E_init_7 : decode c_E_init 7 = .ok (.newarray .int, 2) := by decide +kernel
theorem d_E_init_9 : decode c_E_init 9 = .ok (.putfield 9, 3) := by decide +kernel
theorem d_E_init_12 : decode c_E_init 12 = .ok (.aload_n 0, 1) := by decide +kernel
theorem d_E_init_13 : decode c_E_init 13 = .ok (.bipush 72, 2) := by decide +kernel
theorem d_E_init_15 : decode c_E_init 15 = .ok (.newarray .int, 2) := by decide +kernel
theorem d_E_init_17 : decode c_E_init 17 = .ok (.putfield 15, 3) := by decide +kernel
theorem d_E_init_20 : decode c_E_init 20 = .ok (.aload_n 0, 1) := by decide +kernel
theorem d_E_init_21 : decode c_E_init 21 = .ok (.bipush 72, 2) := by decide +kernel
theorem d_E_init_23 : decode c_E_init 23 = .ok (.newarray .int, 2) := by decide +kernel
theorem d_E_init_25 : decode c_E_init 25 = .ok (.putfield 18, 3) := by decide +kernel
theorem d_E_init_28 : decode c_E_init 28 = .ok (.aload_n 0, 1) := by decide +kernel
theorem d_E_init_29 : decode c_E_init 29 = .ok (.bipush 72, 2) := by decide +kernel
theorem d_E_init_31 : decode c_E_init 31 = .ok (.newarray .int, 2) := by decide +kernel
theorem d_E_init_33 : decode c_E_init 33 = .ok (.putfield 21, 3) := by decide +kernel
theorem d_E_init_36 : decode c_E_init 36 = .ok (.aload_n 0, 1) := by decide +kernel
theorem d_E_init_37 : decode c_E_init 37 = .ok (.bipush 10, 2) := by decide +kernel
theorem d_E_init_39 : decode c_E_init 39 = .ok (.newarray .int, 2) := by decide +kernel
theorem d_E_init_41 : decode c_E_init 41 = .ok (.putfield 24, 3) := by decide +kernel
theorem d_E_init_44 : decode c_E_init 44 = .ok (.aload_n 0, 1) := by decide +kernel
theorem d_E_init_45 : decode c_E_init 45 = .ok (.bipush 9, 2) := by decide +kernel
theorem d_E_init_47 : decode c_E_init 47 = .ok (.newarray .int, 2) := by decide +kernel
theorem d_E_init_49 : decode c_E_init 49 = .ok (.putfield 27, 3) := by decide +kernel
theorem d_E_init_52 : decode c_E_init 52 = .ok (.aload_n 0, 1) := by decide +kernel
theorem d_E_init_53 : decode c_E_init 53 = .ok (.bipush 9, 2) := by decide +kernel
theorem d_E_init_55 : decode c_E_init 55 = .ok (.newarray .int, 2) := by decide +kernel
theorem d_E_init_57 : decode c_E_init 57 = .ok (.putfield 30, 3) := by decide +kernel
theorem d_E_init_60 : decode c_E_init 60 = .ok (.aload_n 0, 1) := by decide +kernel
theorem d_E_init_61 : decode c_E_init 61 = .ok (.bipush 9, 2) := by decide +kernel
theorem d_E_init_63 : decode c_E_init 63 = .ok (.newarray .int, 2) := by decide +kernel
theorem d_E_init_65 : decode c_E_init 65 = .ok (.putfield 33, 3) := by decide +kernel
theorem d_E_init_68 : decode c_E_init 68 = .ok (.return_, 1) := by decide +kernel
abbrev c_E_has : ByteArray := prog_2_method_2_code
def y_E_has : MethodName := ⟨"ReadGraph$Edges", "has", "(I)Z"⟩
theorem d_E_has_0 : decode c_E_has 0 = .ok (.iload_n 1, 1) := by decide +kernel
theorem d_E_has_1 : decode c_E_has 1 = .ok (.ifCond .lt 15, 3) := by decide +kernel
theorem d_E_has_4 : decode c_E_has 4 = .ok (.iload_n 1, 1) := by decide +kernel
theorem d_E_has_5 : decode c_E_has 5 = .ok (.aload_n 0, 1) := by decide +kernel
theorem d_E_has_6 : decode c_E_has 6 = .ok (.getfield 36, 3) := by decide +kernel
theorem d_E_has_9 : decode c_E_has 9 = .ok (.if_icmp .ge 7, 3) := by decide +kernel
theorem d_E_has_12 : decode c_E_has 12 = .ok (.iconst 1, 1) := by decide +kernel
theorem d_E_has_13 : decode c_E_has 13 = .ok (.goto 4, 3) := by decide +kernel
theorem d_E_has_16 : decode c_E_has 16 = .ok (.iconst 0, 1) := by decide +kernel
theorem d_E_has_17 : decode c_E_has 17 = .ok (.ireturn, 1) := by decide +kernel
abbrev c_E_forget : ByteArray := prog_2_method_3_code
def y_E_forget : MethodName := ⟨"ReadGraph$Edges", "forget", "()V"⟩
theorem d_E_forget_0 : decode c_E_forget 0 = .ok (.iconst 0, 1) := by decide +kernel
theorem d_E_forget_1 : decode c_E_forget 1 = .ok (.istore_n 1, 1) := by decide +kernel
theorem d_E_forget_2 : decode c_E_forget 2 = .ok (.iload_n 1, 1) := by decide +kernel
theorem d_E_forget_3 : decode c_E_forget 3 = .ok (.bipush 9, 2) := by decide +kernel
theorem d_E_forget_5 : decode c_E_forget 5 = .ok (.if_icmp .ge 30, 3) := by decide +kernel
theorem d_E_forget_8 : decode c_E_forget 8 = .ok (.aload_n 0, 1) := by decide +kernel
theorem d_E_forget_9 : decode c_E_forget 9 = .ok (.getfield 27, 3) := by decide +kernel
theorem d_E_forget_12 : decode c_E_forget 12 = .ok (.iload_n 1, 1) := by decide +kernel
theorem d_E_forget_13 : decode c_E_forget 13 = .ok (.iconst 0, 1) := by decide +kernel
theorem d_E_forget_14 : decode c_E_forget 14 = .ok (.iastore, 1) := by decide +kernel
theorem d_E_forget_15 : decode c_E_forget 15 = .ok (.aload_n 0, 1) := by decide +kernel
theorem d_E_forget_16 : decode c_E_forget 16 = .ok (.getfield 30, 3) := by decide +kernel
theorem d_E_forget_19 : decode c_E_forget 19 = .ok (.iload_n 1, 1) := by decide +kernel
theorem d_E_forget_20 : decode c_E_forget 20 = .ok (.iconst 0, 1) := by decide +kernel
theorem d_E_forget_21 : decode c_E_forget 21 = .ok (.iastore, 1) := by decide +kernel
theorem d_E_forget_22 : decode c_E_forget 22 = .ok (.aload_n 0, 1) := by decide +kernel
theorem d_E_forget_23 : decode c_E_forget 23 = .ok (.getfield 33, 3) := by decide +kernel
theorem d_E_forget_26 : decode c_E_forget 26 = .ok (.iload_n 1, 1) := by decide +kernel
theorem d_E_forget_27 : decode c_E_forget 27 = .ok (.iconst 0, 1) := by decide +kernel
theorem d_E_forget_28 : decode c_E_forget 28 = .ok (.iastore, 1) := by decide +kernel
theorem d_E_forget_29 : decode c_E_forget 29 = .ok (.iinc 1 1, 3) := by decide +kernel
theorem d_E_forget_32 : decode c_E_forget 32 = .ok (.goto (-30), 3) := by decide +kernel
theorem d_E_forget_35 : decode c_E_forget 35 = .ok (.aload_n 0, 1) := by decide +kernel
theorem d_E_forget_36 : decode c_E_forget 36 = .ok (.iconst 0, 1) := by decide +kernel
theorem d_E_forget_37 : decode c_E_forget 37 = .ok (.putfield 40, 3) := by decide +kernel
theorem d_E_forget_40 : decode c_E_forget 40 = .ok (.aload_n 0, 1) := by decide +kernel
theorem d_E_forget_41 : decode c_E_forget 41 = .ok (.iconst 0, 1) := by decide +kernel
theorem d_E_forget_42 : decode c_E_forget 42 = .ok (.putfield 43, 3) := by decide +kernel
theorem d_E_forget_45 : decode c_E_forget 45 = .ok (.aload_n 0, 1) := by decide +kernel
theorem d_E_forget_46 : decode c_E_forget 46 = .ok (.iconst 0, 1) := by decide +kernel
theorem d_E_forget_47 : decode c_E_forget 47 = .ok (.putfield 36, 3) := by decide +kernel
theorem d_E_forget_50 : decode c_E_forget 50 = .ok (.return_, 1) := by decide +kernel
abbrev c_E_make : ByteArray := prog_2_method_4_code
def y_E_make : MethodName := ⟨"ReadGraph$Edges", "make", "(LReadGraph$Reads;I)V"⟩
theorem d_E_make_0 : decode c_E_make 0 = .ok (.aload_n 0, 1) := by decide +kernel
theorem d_E_make_1 : decode c_E_make 1 = .ok (.aload_n 1, 1) := by decide +kernel
theorem d_E_make_2 : decode c_E_make 2 = .ok (.invokevirtual 46, 3) := by decide +kernel
theorem d_E_make_5 : decode c_E_make 5 = .ok (.aload_n 0, 1) := by decide +kernel
theorem d_E_make_6 : decode c_E_make 6 = .ok (.aload_n 1, 1) := by decide +kernel
theorem d_E_make_7 : decode c_E_make 7 = .ok (.iload_n 2, 1) := by decide +kernel
theorem d_E_make_8 : decode c_E_make 8 = .ok (.invokevirtual 50, 3) := by decide +kernel
theorem d_E_make_11 : decode c_E_make 11 = .ok (.iconst 0, 1) := by decide +kernel
theorem d_E_make_12 : decode c_E_make 12 = .ok (.istore_n 3, 1) := by decide +kernel
theorem d_E_make_13 : decode c_E_make 13 = .ok (.iload_n 3, 1) := by decide +kernel
theorem d_E_make_14 : decode c_E_make 14 = .ok (.bipush 9, 2) := by decide +kernel
theorem d_E_make_16 : decode c_E_make 16 = .ok (.if_icmp .ge 24, 3) := by decide +kernel
theorem d_E_make_19 : decode c_E_make 19 = .ok (.aload_n 0, 1) := by decide +kernel
theorem d_E_make_20 : decode c_E_make 20 = .ok (.getfield 24, 3) := by decide +kernel
theorem d_E_make_23 : decode c_E_make 23 = .ok (.iload_n 3, 1) := by decide +kernel
theorem d_E_make_24 : decode c_E_make 24 = .ok (.aload_n 0, 1) := by decide +kernel
theorem d_E_make_25 : decode c_E_make 25 = .ok (.getfield 36, 3) := by decide +kernel
theorem d_E_make_28 : decode c_E_make 28 = .ok (.iastore, 1) := by decide +kernel
theorem d_E_make_29 : decode c_E_make 29 = .ok (.aload_n 0, 1) := by decide +kernel
theorem d_E_make_30 : decode c_E_make 30 = .ok (.iload_n 3, 1) := by decide +kernel
theorem d_E_make_31 : decode c_E_make 31 = .ok (.invokevirtual 54, 3) := by decide +kernel
theorem d_E_make_34 : decode c_E_make 34 = .ok (.iinc 3 1, 3) := by decide +kernel
theorem d_E_make_37 : decode c_E_make 37 = .ok (.goto (-24), 3) := by decide +kernel
theorem d_E_make_40 : decode c_E_make 40 = .ok (.aload_n 0, 1) := by decide +kernel
theorem d_E_make_41 : decode c_E_make 41 = .ok (.getfield 24, 3) := by decide +kernel
theorem d_E_make_44 : decode c_E_make 44 = .ok (.bipush 9, 2) := by decide +kernel
theorem d_E_make_46 : decode c_E_make 46 = .ok (.aload_n 0, 1) := by decide +kernel
theorem d_E_make_47 : decode c_E_make 47 = .ok (.getfield 36, 3) := by decide +kernel
theorem d_E_make_50 : decode c_E_make 50 = .ok (.iastore, 1) := by decide +kernel
theorem d_E_make_51 : decode c_E_make 51 = .ok (.aload_n 0, 1) := by decide +kernel
theorem d_E_make_52 : decode c_E_make 52 = .ok (.invokevirtual 58, 3) := by decide +kernel
theorem d_E_make_55 : decode c_E_make 55 = .ok (.return_, 1) := by decide +kernel
abbrev c_E_findNodes : ByteArray := prog_2_method_5_code
def y_E_findNodes : MethodName := ⟨"ReadGraph$Edges", "findNodes", "(LReadGraph$Reads;)V"⟩
theorem d_E_findNodes_0 : decode c_E_findNodes 0 = .ok (.iconst 0, 1) := by decide +kernel
theorem d_E_findNodes_1 : decode c_E_findNodes 1 = .ok (.istore_n 2, 1) := by decide +kernel
theorem d_E_findNodes_2 : decode c_E_findNodes 2 = .ok (.iload_n 2, 1) := by decide +kernel
theorem d_E_findNodes_3 : decode c_E_findNodes 3 = .ok (.bipush 9, 2) := by decide +kernel
theorem d_E_findNodes_5 : decode c_E_findNodes 5 = .ok (.if_icmp .ge 29, 3) := by decide +kernel
theorem d_E_findNodes_8 : decode c_E_findNodes 8 = .ok (.aload_n 1, 1) := by decide +kernel
theorem d_E_findNodes_9 : decode c_E_findNodes 9 = .ok (.iload_n 2, 1) := by decide +kernel
theorem d_E_findNodes_10 : decode c_E_findNodes 10 = .ok (.invokevirtual 61, 3) := by decide +kernel
theorem d_E_findNodes_13 : decode c_E_findNodes 13 = .ok (.ifCond .eq 15, 3) := by decide +kernel
theorem d_E_findNodes_16 : decode c_E_findNodes 16 = .ok (.aload_n 0, 1) := by decide +kernel
theorem d_E_findNodes_17 : decode c_E_findNodes 17 = .ok (.dup, 1) := by decide +kernel
theorem d_E_findNodes_18 : decode c_E_findNodes 18 = .ok (.getfield 40, 3) := by decide +kernel
theorem d_E_findNodes_21 : decode c_E_findNodes 21 = .ok (.iconst 1, 1) := by decide +kernel
theorem d_E_findNodes_22 : decode c_E_findNodes 22 = .ok (.iload_n 2, 1) := by decide +kernel
theorem d_E_findNodes_23 : decode c_E_findNodes 23 = .ok (.ishl, 1) := by decide +kernel
theorem d_E_findNodes_24 : decode c_E_findNodes 24 = .ok (.ior, 1) := by decide +kernel
theorem d_E_findNodes_25 : decode c_E_findNodes 25 = .ok (.putfield 40, 3) := by decide +kernel
theorem d_E_findNodes_28 : decode c_E_findNodes 28 = .ok (.iinc 2 1, 3) := by decide +kernel
theorem d_E_findNodes_31 : decode c_E_findNodes 31 = .ok (.goto (-29), 3) := by decide +kernel
theorem d_E_findNodes_34 : decode c_E_findNodes 34 = .ok (.return_, 1) := by decide +kernel
abbrev c_E_layAll : ByteArray := prog_2_method_6_code
def y_E_layAll : MethodName := ⟨"ReadGraph$Edges", "layAll", "(LReadGraph$Reads;I)V"⟩
theorem d_E_layAll_0 : decode c_E_layAll 0 = .ok (.iconst 0, 1) := by decide +kernel
theorem d_E_layAll_1 : decode c_E_layAll 1 = .ok (.istore_n 3, 1) := by decide +kernel
theorem d_E_layAll_2 : decode c_E_layAll 2 = .ok (.iload_n 3, 1) := by decide +kernel
theorem d_E_layAll_3 : decode c_E_layAll 3 = .ok (.bipush 9, 2) := by decide +kernel
theorem d_E_layAll_5 : decode c_E_layAll 5 = .ok (.if_icmp .ge 118, 3) := by decide +kernel
theorem d_E_layAll_8 : decode c_E_layAll 8 = .ok (.iconst 0, 1) := by decide +kernel
theorem d_E_layAll_9 : decode c_E_layAll 9 = .ok (.istore 4, 2) := by decide +kernel
theorem d_E_layAll_11 : decode c_E_layAll 11 = .ok (.iload 4, 2) := by decide +kernel
theorem d_E_layAll_13 : decode c_E_layAll 13 = .ok (.bipush 9, 2) := by decide +kernel
theorem d_E_layAll_15 : decode c_E_layAll 15 = .ok (.if_icmp .ge 102, 3) := by decide +kernel
theorem d_E_layAll_18 : decode c_E_layAll 18 = .ok (.iload_n 3, 1) := by decide +kernel
theorem d_E_layAll_19 : decode c_E_layAll 19 = .ok (.iload 4, 2) := by decide +kernel
theorem d_E_layAll_21 : decode c_E_layAll 21 = .ok (.if_icmp .eq 37, 3) := by decide +kernel
theorem d_E_layAll_24 : decode c_E_layAll 24 = .ok (.aload_n 0, 1) := by decide +kernel
theorem d_E_layAll_25 : decode c_E_layAll 25 = .ok (.getfield 40, 3) := by decide +kernel
theorem d_E_layAll_28 : decode c_E_layAll 28 = .ok (.iload_n 3, 1) := by decide +kernel
theorem d_E_layAll_29 : decode c_E_layAll 29 = .ok (.invokestatic 67, 3) := by decide +kernel
theorem d_E_layAll_32 : decode c_E_layAll 32 = .ok (.ifCond .eq 26, 3) := by decide +kernel
theorem d_E_layAll_35 : decode c_E_layAll 35 = .ok (.aload_n 0, 1) := by decide +kernel
theorem d_E_layAll_36 : decode c_E_layAll 36 = .ok (.getfield 40, 3) := by decide +kernel
theorem d_E_layAll_39 : decode c_E_layAll 39 = .ok (.iload 4, 2) := by decide +kernel
theorem d_E_layAll_41 : decode c_E_layAll 41 = .ok (.invokestatic 67, 3) := by decide +kernel
theorem d_E_layAll_44 : decode c_E_layAll 44 = .ok (.ifCond .eq 14, 3) := by decide +kernel
theorem d_E_layAll_47 : decode c_E_layAll 47 = .ok (.aload_n 1, 1) := by decide +kernel
theorem d_E_layAll_48 : decode c_E_layAll 48 = .ok (.iload_n 3, 1) := by decide +kernel
theorem d_E_layAll_49 : decode c_E_layAll 49 = .ok (.iload 4, 2) := by decide +kernel
theorem d_E_layAll_51 : decode c_E_layAll 51 = .ok (.iload_n 2, 1) := by decide +kernel
theorem d_E_layAll_52 : decode c_E_layAll 52 = .ok (.invokevirtual 71, 3) := by decide +kernel
theorem d_E_layAll_55 : decode c_E_layAll 55 = .ok (.goto 4, 3) := by decide +kernel
theorem d_E_layAll_58 : decode c_E_layAll 58 = .ok (.iconst 0, 1) := by decide +kernel
theorem d_E_layAll_59 : decode c_E_layAll 59 = .ok (.istore 5, 2) := by decide +kernel
theorem d_E_layAll_61 : decode c_E_layAll 61 = .ok (.aload_n 0, 1) := by decide +kernel
theorem d_E_layAll_62 : decode c_E_layAll 62 = .ok (.getfield 9, 3) := by decide +kernel
theorem d_E_layAll_65 : decode c_E_layAll 65 = .ok (.iload_n 3, 1) := by decide +kernel
theorem d_E_layAll_66 : decode c_E_layAll 66 = .ok (.bipush 9, 2) := by decide +kernel
theorem d_E_layAll_68 : decode c_E_layAll 68 = .ok (.imul, 1) := by decide +kernel
theorem d_E_layAll_69 : decode c_E_layAll 69 = .ok (.iload 4, 2) := by decide +kernel
theorem d_E_layAll_71 : decode c_E_layAll 71 = .ok (.iadd, 1) := by decide +kernel
theorem d_E_layAll_72 : decode c_E_layAll 72 = .ok (.iload 5, 2) := by decide +kernel
theorem d_E_layAll_74 : decode c_E_layAll 74 = .ok (.ifCond .ne 7, 3) := by decide +kernel
theorem d_E_layAll_77 : decode c_E_layAll 77 = .ok (.iconst 0, 1) := by decide +kernel
theorem d_E_layAll_78 : decode c_E_layAll 78 = .ok (.goto 13, 3) := by decide +kernel
theorem d_E_layAll_81 : decode c_E_layAll 81 = .ok (.aload_n 1, 1) := by decide +kernel
theorem d_E_layAll_82 : decode c_E_layAll 82 = .ok (.getfield 75, 3) := by decide +kernel
theorem d_E_layAll_85 : decode c_E_layAll 85 = .ok (.iload 4, 2) := by decide +kernel
theorem d_E_layAll_87 : decode c_E_layAll 87 = .ok (.iaload, 1) := by decide +kernel
theorem d_E_layAll_88 : decode c_E_layAll 88 = .ok (.iload 5, 2) := by decide +kernel
theorem d_E_layAll_90 : decode c_E_layAll 90 = .ok (.isub, 1) := by decide +kernel
theorem d_E_layAll_91 : decode c_E_layAll 91 = .ok (.iastore, 1) := by decide +kernel
theorem d_E_layAll_92 : decode c_E_layAll 92 = .ok (.aload_n 0, 1) := by decide +kernel
theorem d_E_layAll_93 : decode c_E_layAll 93 = .ok (.dup, 1) := by decide +kernel
theorem d_E_layAll_94 : decode c_E_layAll 94 = .ok (.getfield 43, 3) := by decide +kernel
theorem d_E_layAll_97 : decode c_E_layAll 97 = .ok (.iload 5, 2) := by decide +kernel
theorem d_E_layAll_99 : decode c_E_layAll 99 = .ok (.ifCond .ne 7, 3) := by decide +kernel
theorem d_E_layAll_102 : decode c_E_layAll 102 = .ok (.iconst 0, 1) := by decide +kernel
theorem d_E_layAll_103 : decode c_E_layAll 103 = .ok (.goto 4, 3) := by decide +kernel
theorem d_E_layAll_106 : decode c_E_layAll 106 = .ok (.iconst 1, 1) := by decide +kernel
theorem d_E_layAll_107 : decode c_E_layAll 107 = .ok (.iadd, 1) := by decide +kernel
theorem d_E_layAll_108 : decode c_E_layAll 108 = .ok (.putfield 43, 3) := by decide +kernel
theorem d_E_layAll_111 : decode c_E_layAll 111 = .ok (.iinc 4 1, 3) := by decide +kernel
theorem d_E_layAll_114 : decode c_E_layAll 114 = .ok (.goto (-103), 3) := by decide +kernel
theorem d_E_layAll_117 : decode c_E_layAll 117 = .ok (.iinc 3 1, 3) := by decide +kernel
theorem d_E_layAll_120 : decode c_E_layAll 120 = .ok (.goto (-118), 3) := by decide +kernel
theorem d_E_layAll_123 : decode c_E_layAll 123 = .ok (.return_, 1) := by decide +kernel
abbrev c_E_keepUnsaid : ByteArray := prog_2_method_7_code
def y_E_keepUnsaid : MethodName := ⟨"ReadGraph$Edges", "keepUnsaid", "(I)V"⟩
theorem d_E_keepUnsaid_0 : decode c_E_keepUnsaid 0 = .ok (.iconst 0, 1) := by decide +kernel
theorem d_E_keepUnsaid_1 : decode c_E_keepUnsaid 1 = .ok (.istore_n 2, 1) := by decide +kernel
theorem d_E_keepUnsaid_2 : decode c_E_keepUnsaid 2 = .ok (.iload_n 2, 1) := by decide +kernel
theorem d_E_keepUnsaid_3 : decode c_E_keepUnsaid 3 = .ok (.bipush 9, 2) := by decide +kernel
theorem d_E_keepUnsaid_5 : decode c_E_keepUnsaid 5 = .ok (.if_icmp .ge 108, 3) := by decide +kernel
theorem d_E_keepUnsaid_8 : decode c_E_keepUnsaid 8 = .ok (.aload_n 0, 1) := by decide +kernel
theorem d_E_keepUnsaid_9 : decode c_E_keepUnsaid 9 = .ok (.getfield 9, 3) := by decide +kernel
theorem d_E_keepUnsaid_12 : decode c_E_keepUnsaid 12 = .ok (.iload_n 1, 1) := by decide +kernel
theorem d_E_keepUnsaid_13 : decode c_E_keepUnsaid 13 = .ok (.bipush 9, 2) := by decide +kernel
theorem d_E_keepUnsaid_15 : decode c_E_keepUnsaid 15 = .ok (.imul, 1) := by decide +kernel
theorem d_E_keepUnsaid_16 : decode c_E_keepUnsaid 16 = .ok (.iload_n 2, 1) := by decide +kernel
theorem d_E_keepUnsaid_17 : decode c_E_keepUnsaid 17 = .ok (.iadd, 1) := by decide +kernel
theorem d_E_keepUnsaid_18 : decode c_E_keepUnsaid 18 = .ok (.iaload, 1) := by decide +kernel
theorem d_E_keepUnsaid_19 : decode c_E_keepUnsaid 19 = .ok (.istore_n 3, 1) := by decide +kernel
theorem d_E_keepUnsaid_20 : decode c_E_keepUnsaid 20 = .ok (.iload_n 3, 1) := by decide +kernel
theorem d_E_keepUnsaid_21 : decode c_E_keepUnsaid 21 = .ok (.ifCond .eq 86, 3) := by decide +kernel
theorem d_E_keepUnsaid_24 : decode c_E_keepUnsaid 24 = .ok (.aload_n 0, 1) := by decide +kernel
theorem d_E_keepUnsaid_25 : decode c_E_keepUnsaid 25 = .ok (.iload_n 1, 1) := by decide +kernel
theorem d_E_keepUnsaid_26 : decode c_E_keepUnsaid 26 = .ok (.iload_n 2, 1) := by decide +kernel
theorem d_E_keepUnsaid_27 : decode c_E_keepUnsaid 27 = .ok (.iload_n 3, 1) := by decide +kernel
theorem d_E_keepUnsaid_28 : decode c_E_keepUnsaid 28 = .ok (.invokevirtual 78, 3) := by decide +kernel
theorem d_E_keepUnsaid_31 : decode c_E_keepUnsaid 31 = .ok (.ifCond .ne 76, 3) := by decide +kernel
theorem d_E_keepUnsaid_34 : decode c_E_keepUnsaid 34 = .ok (.aload_n 0, 1) := by decide +kernel
theorem d_E_keepUnsaid_35 : decode c_E_keepUnsaid 35 = .ok (.getfield 36, 3) := by decide +kernel
theorem d_E_keepUnsaid_38 : decode c_E_keepUnsaid 38 = .ok (.bipush 72, 2) := by decide +kernel
theorem d_E_keepUnsaid_40 : decode c_E_keepUnsaid 40 = .ok (.if_icmp .ge 67, 3) := by decide +kernel
theorem d_E_keepUnsaid_43 : decode c_E_keepUnsaid 43 = .ok (.aload_n 0, 1) := by decide +kernel
theorem d_E_keepUnsaid_44 : decode c_E_keepUnsaid 44 = .ok (.getfield 15, 3) := by decide +kernel
theorem d_E_keepUnsaid_47 : decode c_E_keepUnsaid 47 = .ok (.aload_n 0, 1) := by decide +kernel
theorem d_E_keepUnsaid_48 : decode c_E_keepUnsaid 48 = .ok (.getfield 36, 3) := by decide +kernel
theorem d_E_keepUnsaid_51 : decode c_E_keepUnsaid 51 = .ok (.iload_n 1, 1) := by decide +kernel
theorem d_E_keepUnsaid_52 : decode c_E_keepUnsaid 52 = .ok (.iastore, 1) := by decide +kernel
theorem d_E_keepUnsaid_53 : decode c_E_keepUnsaid 53 = .ok (.aload_n 0, 1) := by decide +kernel
theorem d_E_keepUnsaid_54 : decode c_E_keepUnsaid 54 = .ok (.getfield 18, 3) := by decide +kernel
theorem d_E_keepUnsaid_57 : decode c_E_keepUnsaid 57 = .ok (.aload_n 0, 1) := by decide +kernel
theorem d_E_keepUnsaid_58 : decode c_E_keepUnsaid 58 = .ok (.getfield 36, 3) := by decide +kernel
theorem d_E_keepUnsaid_61 : decode c_E_keepUnsaid 61 = .ok (.iload_n 2, 1) := by decide +kernel
theorem d_E_keepUnsaid_62 : decode c_E_keepUnsaid 62 = .ok (.iastore, 1) := by decide +kernel
theorem d_E_keepUnsaid_63 : decode c_E_keepUnsaid 63 = .ok (.aload_n 0, 1) := by decide +kernel
theorem d_E_keepUnsaid_64 : decode c_E_keepUnsaid 64 = .ok (.getfield 21, 3) := by decide +kernel
theorem d_E_keepUnsaid_67 : decode c_E_keepUnsaid 67 = .ok (.aload_n 0, 1) := by decide +kernel
theorem d_E_keepUnsaid_68 : decode c_E_keepUnsaid 68 = .ok (.getfield 36, 3) := by decide +kernel
theorem d_E_keepUnsaid_71 : decode c_E_keepUnsaid 71 = .ok (.iload_n 3, 1) := by decide +kernel
theorem d_E_keepUnsaid_72 : decode c_E_keepUnsaid 72 = .ok (.iastore, 1) := by decide +kernel
theorem d_E_keepUnsaid_73 : decode c_E_keepUnsaid 73 = .ok (.aload_n 0, 1) := by decide +kernel
theorem d_E_keepUnsaid_74 : decode c_E_keepUnsaid 74 = .ok (.getfield 27, 3) := by decide +kernel
theorem d_E_keepUnsaid_77 : decode c_E_keepUnsaid 77 = .ok (.iload_n 1, 1) := by decide +kernel
theorem d_E_keepUnsaid_78 : decode c_E_keepUnsaid 78 = .ok (.dup2, 1) := by decide +kernel
theorem d_E_keepUnsaid_79 : decode c_E_keepUnsaid 79 = .ok (.iaload, 1) := by decide +kernel
theorem d_E_keepUnsaid_80 : decode c_E_keepUnsaid 80 = .ok (.iconst 1, 1) := by decide +kernel
theorem d_E_keepUnsaid_81 : decode c_E_keepUnsaid 81 = .ok (.iload_n 2, 1) := by decide +kernel
theorem d_E_keepUnsaid_82 : decode c_E_keepUnsaid 82 = .ok (.ishl, 1) := by decide +kernel
theorem d_E_keepUnsaid_83 : decode c_E_keepUnsaid 83 = .ok (.ior, 1) := by decide +kernel
theorem d_E_keepUnsaid_84 : decode c_E_keepUnsaid 84 = .ok (.iastore, 1) := by decide +kernel
theorem d_E_keepUnsaid_85 : decode c_E_keepUnsaid 85 = .ok (.aload_n 0, 1) := by decide +kernel
theorem d_E_keepUnsaid_86 : decode c_E_keepUnsaid 86 = .ok (.getfield 30, 3) := by decide +kernel
theorem d_E_keepUnsaid_89 : decode c_E_keepUnsaid 89 = .ok (.iload_n 2, 1) := by decide +kernel
theorem d_E_keepUnsaid_90 : decode c_E_keepUnsaid 90 = .ok (.dup2, 1) := by decide +kernel
theorem d_E_keepUnsaid_91 : decode c_E_keepUnsaid 91 = .ok (.iaload, 1) := by decide +kernel
theorem d_E_keepUnsaid_92 : decode c_E_keepUnsaid 92 = .ok (.iconst 1, 1) := by decide +kernel
theorem d_E_keepUnsaid_93 : decode c_E_keepUnsaid 93 = .ok (.iload_n 1, 1) := by decide +kernel
theorem d_E_keepUnsaid_94 : decode c_E_keepUnsaid 94 = .ok (.ishl, 1) := by decide +kernel
theorem d_E_keepUnsaid_95 : decode c_E_keepUnsaid 95 = .ok (.ior, 1) := by decide +kernel
theorem d_E_keepUnsaid_96 : decode c_E_keepUnsaid 96 = .ok (.iastore, 1) := by decide +kernel
theorem d_E_keepUnsaid_97 : decode c_E_keepUnsaid 97 = .ok (.aload_n 0, 1) := by decide +kernel
theorem d_E_keepUnsaid_98 : decode c_E_keepUnsaid 98 = .ok (.dup, 1) := by decide +kernel
theorem d_E_keepUnsaid_99 : decode c_E_keepUnsaid 99 = .ok (.getfield 36, 3) := by decide +kernel
theorem d_E_keepUnsaid_102 : decode c_E_keepUnsaid 102 = .ok (.iconst 1, 1) := by decide +kernel
theorem d_E_keepUnsaid_103 : decode c_E_keepUnsaid 103 = .ok (.iadd, 1) := by decide +kernel
theorem d_E_keepUnsaid_104 : decode c_E_keepUnsaid 104 = .ok (.putfield 36, 3) := by decide +kernel
theorem d_E_keepUnsaid_107 : decode c_E_keepUnsaid 107 = .ok (.iinc 2 1, 3) := by decide +kernel
theorem d_E_keepUnsaid_110 : decode c_E_keepUnsaid 110 = .ok (.goto (-108), 3) := by decide +kernel
theorem d_E_keepUnsaid_113 : decode c_E_keepUnsaid 113 = .ok (.return_, 1) := by decide +kernel
abbrev c_E_isSaid : ByteArray := prog_2_method_8_code
def y_E_isSaid : MethodName := ⟨"ReadGraph$Edges", "isSaid", "(III)Z"⟩
theorem d_E_isSaid_0 : decode c_E_isSaid 0 = .ok (.iconst 0, 1) := by decide +kernel
theorem d_E_isSaid_1 : decode c_E_isSaid 1 = .ok (.istore 4, 2) := by decide +kernel
theorem d_E_isSaid_3 : decode c_E_isSaid 3 = .ok (.iload 4, 2) := by decide +kernel
theorem d_E_isSaid_5 : decode c_E_isSaid 5 = .ok (.bipush 9, 2) := by decide +kernel
theorem d_E_isSaid_7 : decode c_E_isSaid 7 = .ok (.if_icmp .ge 58, 3) := by decide +kernel
theorem d_E_isSaid_10 : decode c_E_isSaid 10 = .ok (.aload_n 0, 1) := by decide +kernel
theorem d_E_isSaid_11 : decode c_E_isSaid 11 = .ok (.getfield 9, 3) := by decide +kernel
theorem d_E_isSaid_14 : decode c_E_isSaid 14 = .ok (.iload_n 1, 1) := by decide +kernel
theorem d_E_isSaid_15 : decode c_E_isSaid 15 = .ok (.bipush 9, 2) := by decide +kernel
theorem d_E_isSaid_17 : decode c_E_isSaid 17 = .ok (.imul, 1) := by decide +kernel
theorem d_E_isSaid_18 : decode c_E_isSaid 18 = .ok (.iload 4, 2) := by decide +kernel
theorem d_E_isSaid_20 : decode c_E_isSaid 20 = .ok (.iadd, 1) := by decide +kernel
theorem d_E_isSaid_21 : decode c_E_isSaid 21 = .ok (.iaload, 1) := by decide +kernel
theorem d_E_isSaid_22 : decode c_E_isSaid 22 = .ok (.istore 5, 2) := by decide +kernel
theorem d_E_isSaid_24 : decode c_E_isSaid 24 = .ok (.aload_n 0, 1) := by decide +kernel
theorem d_E_isSaid_25 : decode c_E_isSaid 25 = .ok (.getfield 9, 3) := by decide +kernel
theorem d_E_isSaid_28 : decode c_E_isSaid 28 = .ok (.iload 4, 2) := by decide +kernel
theorem d_E_isSaid_30 : decode c_E_isSaid 30 = .ok (.bipush 9, 2) := by decide +kernel
theorem d_E_isSaid_32 : decode c_E_isSaid 32 = .ok (.imul, 1) := by decide +kernel
theorem d_E_isSaid_33 : decode c_E_isSaid 33 = .ok (.iload_n 2, 1) := by decide +kernel
theorem d_E_isSaid_34 : decode c_E_isSaid 34 = .ok (.iadd, 1) := by decide +kernel
theorem d_E_isSaid_35 : decode c_E_isSaid 35 = .ok (.iaload, 1) := by decide +kernel
theorem d_E_isSaid_36 : decode c_E_isSaid 36 = .ok (.istore 6, 2) := by decide +kernel
theorem d_E_isSaid_38 : decode c_E_isSaid 38 = .ok (.iload 5, 2) := by decide +kernel
theorem d_E_isSaid_40 : decode c_E_isSaid 40 = .ok (.ifCond .eq 19, 3) := by decide +kernel
theorem d_E_isSaid_43 : decode c_E_isSaid 43 = .ok (.iload 6, 2) := by decide +kernel
theorem d_E_isSaid_45 : decode c_E_isSaid 45 = .ok (.ifCond .eq 14, 3) := by decide +kernel
theorem d_E_isSaid_48 : decode c_E_isSaid 48 = .ok (.iload 5, 2) := by decide +kernel
theorem d_E_isSaid_50 : decode c_E_isSaid 50 = .ok (.iload 6, 2) := by decide +kernel
theorem d_E_isSaid_52 : decode c_E_isSaid 52 = .ok (.iadd, 1) := by decide +kernel
theorem d_E_isSaid_53 : decode c_E_isSaid 53 = .ok (.iload_n 3, 1) := by decide +kernel
theorem d_E_isSaid_54 : decode c_E_isSaid 54 = .ok (.if_icmp .ne 5, 3) := by decide +kernel
theorem d_E_isSaid_57 : decode c_E_isSaid 57 = .ok (.iconst 1, 1) := by decide +kernel
theorem d_E_isSaid_58 : decode c_E_isSaid 58 = .ok (.ireturn, 1) := by decide +kernel
theorem d_E_isSaid_59 : decode c_E_isSaid 59 = .ok (.iinc 4 1, 3) := by decide +kernel
theorem d_E_isSaid_62 : decode c_E_isSaid 62 = .ok (.goto (-59), 3) := by decide +kernel
theorem d_E_isSaid_65 : decode c_E_isSaid 65 = .ok (.iconst 0, 1) := by decide +kernel
theorem d_E_isSaid_66 : decode c_E_isSaid 66 = .ok (.ireturn, 1) := by decide +kernel
abbrev c_E_findReached : ByteArray := prog_2_method_9_code
def y_E_findReached : MethodName := ⟨"ReadGraph$Edges", "findReached", "()V"⟩
theorem d_E_findReached_0 : decode c_E_findReached 0 = .ok (.iconst 0, 1) := by decide +kernel
theorem d_E_findReached_1 : decode c_E_findReached 1 = .ok (.istore_n 1, 1) := by decide +kernel
theorem d_E_findReached_2 : decode c_E_findReached 2 = .ok (.iload_n 1, 1) := by decide +kernel
theorem d_E_findReached_3 : decode c_E_findReached 3 = .ok (.bipush 9, 2) := by decide +kernel
theorem d_E_findReached_5 : decode c_E_findReached 5 = .ok (.if_icmp .ge 21, 3) := by decide +kernel
theorem d_E_findReached_8 : decode c_E_findReached 8 = .ok (.aload_n 0, 1) := by decide +kernel
theorem d_E_findReached_9 : decode c_E_findReached 9 = .ok (.getfield 33, 3) := by decide +kernel
theorem d_E_findReached_12 : decode c_E_findReached 12 = .ok (.iload_n 1, 1) := by decide +kernel
theorem d_E_findReached_13 : decode c_E_findReached 13 = .ok (.aload_n 0, 1) := by decide +kernel
theorem d_E_findReached_14 : decode c_E_findReached 14 = .ok (.getfield 27, 3) := by decide +kernel
theorem d_E_findReached_17 : decode c_E_findReached 17 = .ok (.iload_n 1, 1) := by decide +kernel
theorem d_E_findReached_18 : decode c_E_findReached 18 = .ok (.iaload, 1) := by decide +kernel
theorem d_E_findReached_19 : decode c_E_findReached 19 = .ok (.iastore, 1) := by decide +kernel
theorem d_E_findReached_20 : decode c_E_findReached 20 = .ok (.iinc 1 1, 3) := by decide +kernel
theorem d_E_findReached_23 : decode c_E_findReached 23 = .ok (.goto (-21), 3) := by decide +kernel
theorem d_E_findReached_26 : decode c_E_findReached 26 = .ok (.iconst 0, 1) := by decide +kernel
theorem d_E_findReached_27 : decode c_E_findReached 27 = .ok (.istore_n 1, 1) := by decide +kernel
theorem d_E_findReached_28 : decode c_E_findReached 28 = .ok (.iload_n 1, 1) := by decide +kernel
theorem d_E_findReached_29 : decode c_E_findReached 29 = .ok (.bipush 9, 2) := by decide +kernel
theorem d_E_findReached_31 : decode c_E_findReached 31 = .ok (.if_icmp .ge 51, 3) := by decide +kernel
theorem d_E_findReached_34 : decode c_E_findReached 34 = .ok (.iconst 0, 1) := by decide +kernel
theorem d_E_findReached_35 : decode c_E_findReached 35 = .ok (.istore_n 2, 1) := by decide +kernel
theorem d_E_findReached_36 : decode c_E_findReached 36 = .ok (.iload_n 2, 1) := by decide +kernel
theorem d_E_findReached_37 : decode c_E_findReached 37 = .ok (.bipush 9, 2) := by decide +kernel
theorem d_E_findReached_39 : decode c_E_findReached 39 = .ok (.if_icmp .ge 37, 3) := by decide +kernel
theorem d_E_findReached_42 : decode c_E_findReached 42 = .ok (.aload_n 0, 1) := by decide +kernel
theorem d_E_findReached_43 : decode c_E_findReached 43 = .ok (.getfield 33, 3) := by decide +kernel
theorem d_E_findReached_46 : decode c_E_findReached 46 = .ok (.iload_n 2, 1) := by decide +kernel
theorem d_E_findReached_47 : decode c_E_findReached 47 = .ok (.iaload, 1) := by decide +kernel
theorem d_E_findReached_48 : decode c_E_findReached 48 = .ok (.iload_n 1, 1) := by decide +kernel
theorem d_E_findReached_49 : decode c_E_findReached 49 = .ok (.invokestatic 67, 3) := by decide +kernel
theorem d_E_findReached_52 : decode c_E_findReached 52 = .ok (.ifCond .eq 18, 3) := by decide +kernel
theorem d_E_findReached_55 : decode c_E_findReached 55 = .ok (.aload_n 0, 1) := by decide +kernel
theorem d_E_findReached_56 : decode c_E_findReached 56 = .ok (.getfield 33, 3) := by decide +kernel
theorem d_E_findReached_59 : decode c_E_findReached 59 = .ok (.iload_n 2, 1) := by decide +kernel
theorem d_E_findReached_60 : decode c_E_findReached 60 = .ok (.dup2, 1) := by decide +kernel
theorem d_E_findReached_61 : decode c_E_findReached 61 = .ok (.iaload, 1) := by decide +kernel
theorem d_E_findReached_62 : decode c_E_findReached 62 = .ok (.aload_n 0, 1) := by decide +kernel
theorem d_E_findReached_63 : decode c_E_findReached 63 = .ok (.getfield 33, 3) := by decide +kernel
theorem d_E_findReached_66 : decode c_E_findReached 66 = .ok (.iload_n 1, 1) := by decide +kernel
theorem d_E_findReached_67 : decode c_E_findReached 67 = .ok (.iaload, 1) := by decide +kernel
theorem d_E_findReached_68 : decode c_E_findReached 68 = .ok (.ior, 1) := by decide +kernel
theorem d_E_findReached_69 : decode c_E_findReached 69 = .ok (.iastore, 1) := by decide +kernel
theorem d_E_findReached_70 : decode c_E_findReached 70 = .ok (.iinc 2 1, 3) := by decide +kernel
theorem d_E_findReached_73 : decode c_E_findReached 73 = .ok (.goto (-37), 3) := by decide +kernel
theorem d_E_findReached_76 : decode c_E_findReached 76 = .ok (.iinc 1 1, 3) := by decide +kernel
theorem d_E_findReached_79 : decode c_E_findReached 79 = .ok (.goto (-51), 3) := by decide +kernel
theorem d_E_findReached_82 : decode c_E_findReached 82 = .ok (.return_, 1) := by decide +kernel
abbrev c_E_shape : ByteArray := prog_2_method_10_code
def y_E_shape : MethodName := ⟨"ReadGraph$Edges", "shape", "()I"⟩
theorem d_E_shape_0 : decode c_E_shape 0 = .ok (.aload_n 0, 1) := by decide +kernel
theorem d_E_shape_1 : decode c_E_shape 1 = .ok (.getfield 36, 3) := by decide +kernel
theorem d_E_shape_4 : decode c_E_shape 4 = .ok (.ifCond .ne 5, 3) := by decide +kernel
theorem d_E_shape_7 : decode c_E_shape 7 = .ok (.iconst 0, 1) := by decide +kernel
theorem d_E_shape_8 : decode c_E_shape 8 = .ok (.ireturn, 1) := by decide +kernel
theorem d_E_shape_9 : decode c_E_shape 9 = .ok (.iconst 0, 1) := by decide +kernel
theorem d_E_shape_10 : decode c_E_shape 10 = .ok (.istore_n 1, 1) := by decide +kernel
theorem d_E_shape_11 : decode c_E_shape 11 = .ok (.iload_n 1, 1) := by decide +kernel
theorem d_E_shape_12 : decode c_E_shape 12 = .ok (.bipush 9, 2) := by decide +kernel
theorem d_E_shape_14 : decode c_E_shape 14 = .ok (.if_icmp .ge 35, 3) := by decide +kernel
theorem d_E_shape_17 : decode c_E_shape 17 = .ok (.aload_n 0, 1) := by decide +kernel
theorem d_E_shape_18 : decode c_E_shape 18 = .ok (.getfield 40, 3) := by decide +kernel
theorem d_E_shape_21 : decode c_E_shape 21 = .ok (.iload_n 1, 1) := by decide +kernel
theorem d_E_shape_22 : decode c_E_shape 22 = .ok (.invokestatic 67, 3) := by decide +kernel
theorem d_E_shape_25 : decode c_E_shape 25 = .ok (.ifCond .eq 18, 3) := by decide +kernel
theorem d_E_shape_28 : decode c_E_shape 28 = .ok (.aload_n 0, 1) := by decide +kernel
theorem d_E_shape_29 : decode c_E_shape 29 = .ok (.getfield 33, 3) := by decide +kernel
theorem d_E_shape_32 : decode c_E_shape 32 = .ok (.iload_n 1, 1) := by decide +kernel
theorem d_E_shape_33 : decode c_E_shape 33 = .ok (.iaload, 1) := by decide +kernel
theorem d_E_shape_34 : decode c_E_shape 34 = .ok (.aload_n 0, 1) := by decide +kernel
theorem d_E_shape_35 : decode c_E_shape 35 = .ok (.getfield 40, 3) := by decide +kernel
theorem d_E_shape_38 : decode c_E_shape 38 = .ok (.if_icmp .eq 5, 3) := by decide +kernel
theorem d_E_shape_41 : decode c_E_shape 41 = .ok (.iconst 0, 1) := by decide +kernel
theorem d_E_shape_42 : decode c_E_shape 42 = .ok (.ireturn, 1) := by decide +kernel
theorem d_E_shape_43 : decode c_E_shape 43 = .ok (.iinc 1 1, 3) := by decide +kernel
theorem d_E_shape_46 : decode c_E_shape 46 = .ok (.goto (-35), 3) := by decide +kernel
theorem d_E_shape_49 : decode c_E_shape 49 = .ok (.aload_n 0, 1) := by decide +kernel
theorem d_E_shape_50 : decode c_E_shape 50 = .ok (.getfield 36, 3) := by decide +kernel
theorem d_E_shape_53 : decode c_E_shape 53 = .ok (.aload_n 0, 1) := by decide +kernel
theorem d_E_shape_54 : decode c_E_shape 54 = .ok (.getfield 40, 3) := by decide +kernel
theorem d_E_shape_57 : decode c_E_shape 57 = .ok (.invokestatic 82, 3) := by decide +kernel
theorem d_E_shape_60 : decode c_E_shape 60 = .ok (.if_icmp .ne 7, 3) := by decide +kernel
theorem d_E_shape_63 : decode c_E_shape 63 = .ok (.iconst 1, 1) := by decide +kernel
theorem d_E_shape_64 : decode c_E_shape 64 = .ok (.goto 4, 3) := by decide +kernel
theorem d_E_shape_67 : decode c_E_shape 67 = .ok (.iconst 2, 1) := by decide +kernel
theorem d_E_shape_68 : decode c_E_shape 68 = .ok (.ireturn, 1) := by decide +kernel
abbrev c_E_isPassedBy : ByteArray := prog_2_method_11_code
def y_E_isPassedBy : MethodName := ⟨"ReadGraph$Edges", "isPassedBy", "(II)Z"⟩
theorem d_E_isPassedBy_0 : decode c_E_isPassedBy 0 = .ok (.aload_n 0, 1) := by decide +kernel
theorem d_E_isPassedBy_1 : decode c_E_isPassedBy 1 = .ok (.getfield 27, 3) := by decide +kernel
theorem d_E_isPassedBy_4 : decode c_E_isPassedBy 4 = .ok (.aload_n 0, 1) := by decide +kernel
theorem d_E_isPassedBy_5 : decode c_E_isPassedBy 5 = .ok (.getfield 15, 3) := by decide +kernel
theorem d_E_isPassedBy_8 : decode c_E_isPassedBy 8 = .ok (.iload_n 2, 1) := by decide +kernel
theorem d_E_isPassedBy_9 : decode c_E_isPassedBy 9 = .ok (.iaload, 1) := by decide +kernel
theorem d_E_isPassedBy_10 : decode c_E_isPassedBy 10 = .ok (.iaload, 1) := by decide +kernel
theorem d_E_isPassedBy_11 : decode c_E_isPassedBy 11 = .ok (.iconst 1, 1) := by decide +kernel
theorem d_E_isPassedBy_12 : decode c_E_isPassedBy 12 = .ok (.aload_n 0, 1) := by decide +kernel
theorem d_E_isPassedBy_13 : decode c_E_isPassedBy 13 = .ok (.getfield 18, 3) := by decide +kernel
theorem d_E_isPassedBy_16 : decode c_E_isPassedBy 16 = .ok (.iload_n 2, 1) := by decide +kernel
theorem d_E_isPassedBy_17 : decode c_E_isPassedBy 17 = .ok (.iaload, 1) := by decide +kernel
theorem d_E_isPassedBy_18 : decode c_E_isPassedBy 18 = .ok (.ishl, 1) := by decide +kernel
theorem d_E_isPassedBy_19 : decode c_E_isPassedBy 19 = .ok (.iconst (-1), 1) := by decide +kernel
theorem d_E_isPassedBy_20 : decode c_E_isPassedBy 20 = .ok (.ixor, 1) := by decide +kernel
theorem d_E_isPassedBy_21 : decode c_E_isPassedBy 21 = .ok (.iand, 1) := by decide +kernel
theorem d_E_isPassedBy_22 : decode c_E_isPassedBy 22 = .ok (.istore_n 3, 1) := by decide +kernel
theorem d_E_isPassedBy_23 : decode c_E_isPassedBy 23 = .ok (.aload_n 0, 1) := by decide +kernel
theorem d_E_isPassedBy_24 : decode c_E_isPassedBy 24 = .ok (.getfield 30, 3) := by decide +kernel
theorem d_E_isPassedBy_27 : decode c_E_isPassedBy 27 = .ok (.aload_n 0, 1) := by decide +kernel
theorem d_E_isPassedBy_28 : decode c_E_isPassedBy 28 = .ok (.getfield 18, 3) := by decide +kernel
theorem d_E_isPassedBy_31 : decode c_E_isPassedBy 31 = .ok (.iload_n 1, 1) := by decide +kernel
theorem d_E_isPassedBy_32 : decode c_E_isPassedBy 32 = .ok (.iaload, 1) := by decide +kernel
theorem d_E_isPassedBy_33 : decode c_E_isPassedBy 33 = .ok (.iaload, 1) := by decide +kernel
theorem d_E_isPassedBy_34 : decode c_E_isPassedBy 34 = .ok (.iconst 1, 1) := by decide +kernel
theorem d_E_isPassedBy_35 : decode c_E_isPassedBy 35 = .ok (.aload_n 0, 1) := by decide +kernel
theorem d_E_isPassedBy_36 : decode c_E_isPassedBy 36 = .ok (.getfield 15, 3) := by decide +kernel
theorem d_E_isPassedBy_39 : decode c_E_isPassedBy 39 = .ok (.iload_n 1, 1) := by decide +kernel
theorem d_E_isPassedBy_40 : decode c_E_isPassedBy 40 = .ok (.iaload, 1) := by decide +kernel
theorem d_E_isPassedBy_41 : decode c_E_isPassedBy 41 = .ok (.ishl, 1) := by decide +kernel
theorem d_E_isPassedBy_42 : decode c_E_isPassedBy 42 = .ok (.iconst (-1), 1) := by decide +kernel
theorem d_E_isPassedBy_43 : decode c_E_isPassedBy 43 = .ok (.ixor, 1) := by decide +kernel
theorem d_E_isPassedBy_44 : decode c_E_isPassedBy 44 = .ok (.iand, 1) := by decide +kernel
theorem d_E_isPassedBy_45 : decode c_E_isPassedBy 45 = .ok (.istore 4, 2) := by decide +kernel
theorem d_E_isPassedBy_47 : decode c_E_isPassedBy 47 = .ok (.iconst 0, 1) := by decide +kernel
theorem d_E_isPassedBy_48 : decode c_E_isPassedBy 48 = .ok (.istore 5, 2) := by decide +kernel
theorem d_E_isPassedBy_50 : decode c_E_isPassedBy 50 = .ok (.iload 5, 2) := by decide +kernel
theorem d_E_isPassedBy_52 : decode c_E_isPassedBy 52 = .ok (.bipush 9, 2) := by decide +kernel
theorem d_E_isPassedBy_54 : decode c_E_isPassedBy 54 = .ok (.if_icmp .ge 38, 3) := by decide +kernel
theorem d_E_isPassedBy_57 : decode c_E_isPassedBy 57 = .ok (.iload_n 3, 1) := by decide +kernel
theorem d_E_isPassedBy_58 : decode c_E_isPassedBy 58 = .ok (.iload 5, 2) := by decide +kernel
theorem d_E_isPassedBy_60 : decode c_E_isPassedBy 60 = .ok (.invokestatic 67, 3) := by decide +kernel
theorem d_E_isPassedBy_63 : decode c_E_isPassedBy 63 = .ok (.ifCond .eq 23, 3) := by decide +kernel
theorem d_E_isPassedBy_66 : decode c_E_isPassedBy 66 = .ok (.iconst 1, 1) := by decide +kernel
theorem d_E_isPassedBy_67 : decode c_E_isPassedBy 67 = .ok (.iload 5, 2) := by decide +kernel
theorem d_E_isPassedBy_69 : decode c_E_isPassedBy 69 = .ok (.ishl, 1) := by decide +kernel
theorem d_E_isPassedBy_70 : decode c_E_isPassedBy 70 = .ok (.aload_n 0, 1) := by decide +kernel
theorem d_E_isPassedBy_71 : decode c_E_isPassedBy 71 = .ok (.getfield 33, 3) := by decide +kernel
theorem d_E_isPassedBy_74 : decode c_E_isPassedBy 74 = .ok (.iload 5, 2) := by decide +kernel
theorem d_E_isPassedBy_76 : decode c_E_isPassedBy 76 = .ok (.iaload, 1) := by decide +kernel
theorem d_E_isPassedBy_77 : decode c_E_isPassedBy 77 = .ok (.ior, 1) := by decide +kernel
theorem d_E_isPassedBy_78 : decode c_E_isPassedBy 78 = .ok (.iload 4, 2) := by decide +kernel
theorem d_E_isPassedBy_80 : decode c_E_isPassedBy 80 = .ok (.iand, 1) := by decide +kernel
theorem d_E_isPassedBy_81 : decode c_E_isPassedBy 81 = .ok (.ifCond .eq 5, 3) := by decide +kernel
theorem d_E_isPassedBy_84 : decode c_E_isPassedBy 84 = .ok (.iconst 1, 1) := by decide +kernel
theorem d_E_isPassedBy_85 : decode c_E_isPassedBy 85 = .ok (.ireturn, 1) := by decide +kernel
theorem d_E_isPassedBy_86 : decode c_E_isPassedBy 86 = .ok (.iinc 5 1, 3) := by decide +kernel
theorem d_E_isPassedBy_89 : decode c_E_isPassedBy 89 = .ok (.goto (-39), 3) := by decide +kernel
theorem d_E_isPassedBy_92 : decode c_E_isPassedBy 92 = .ok (.iconst 0, 1) := by decide +kernel
theorem d_E_isPassedBy_93 : decode c_E_isPassedBy 93 = .ok (.ireturn, 1) := by decide +kernel
abbrev c_W_init : ByteArray := prog_4_method_1_code
def y_W_init : MethodName := ⟨"ReadGraph$Walks", "<init>", "(LReadGraph$Edges;)V"⟩
theorem d_W_init_0 : decode c_W_init 0 = .ok (.aload_n 0, 1) := by decide +kernel
theorem d_W_init_1 : decode c_W_init 1 = .ok (.invokespecial 3, 3) := by decide +kernel
theorem d_W_init_4 : decode c_W_init 4 = .ok (.aload_n 0, 1) := by decide +kernel
theorem d_W_init_5 : decode c_W_init 5 = .ok (.sipush 2000, 3) := by decide +kernel
theorem d_W_init_8 : decode c_W_init 8 = .ok (.newarray .int, 2) := by decide +kernel
theorem d_W_init_10 : decode c_W_init 10 = .ok (.putfield 9, 3) := by decide +kernel
theorem d_W_init_13 : decode c_W_init 13 = .ok (.aload_n 0, 1) := by decide +kernel
theorem d_W_init_14 : decode c_W_init 14 = .ok (.bipush 50, 2) := by decide +kernel
theorem d_W_init_16 : decode c_W_init 16 = .ok (.newarray .int, 2) := by decide +kernel
theorem d_W_init_18 : decode c_W_init 18 = .ok (.putfield 15, 3) := by decide +kernel
theorem d_W_init_21 : decode c_W_init 21 = .ok (.aload_n 0, 1) := by decide +kernel
theorem d_W_init_22 : decode c_W_init 22 = .ok (.bipush 40, 2) := by decide +kernel
theorem d_W_init_24 : decode c_W_init 24 = .ok (.newarray .int, 2) := by decide +kernel
theorem d_W_init_26 : decode c_W_init 26 = .ok (.putfield 18, 3) := by decide +kernel
theorem d_W_init_29 : decode c_W_init 29 = .ok (.aload_n 0, 1) := by decide +kernel
theorem d_W_init_30 : decode c_W_init 30 = .ok (.bipush 40, 2) := by decide +kernel
theorem d_W_init_32 : decode c_W_init 32 = .ok (.newarray .int, 2) := by decide +kernel
theorem d_W_init_34 : decode c_W_init 34 = .ok (.putfield 21, 3) := by decide +kernel
theorem d_W_init_37 : decode c_W_init 37 = .ok (.aload_n 0, 1) := by decide +kernel
theorem d_W_init_38 : decode c_W_init 38 = .ok (.aload_n 1, 1) := by decide +kernel
theorem d_W_init_39 : decode c_W_init 39 = .ok (.putfield 24, 3) := by decide +kernel
theorem d_W_init_42 : decode c_W_init 42 = .ok (.return_, 1) := by decide +kernel
abbrev c_W_has : ByteArray := prog_4_method_2_code
def y_W_has : MethodName := ⟨"ReadGraph$Walks", "has", "(I)Z"⟩
theorem d_W_has_0 : decode c_W_has 0 = .ok (.iload_n 1, 1) := by decide +kernel
theorem d_W_has_1 : decode c_W_has 1 = .ok (.ifCond .lt 15, 3) := by decide +kernel
theorem d_W_has_4 : decode c_W_has 4 = .ok (.iload_n 1, 1) := by decide +kernel
theorem d_W_has_5 : decode c_W_has 5 = .ok (.aload_n 0, 1) := by decide +kernel
theorem d_W_has_6 : decode c_W_has 6 = .ok (.getfield 28, 3) := by decide +kernel
theorem d_W_has_9 : decode c_W_has 9 = .ok (.if_icmp .ge 7, 3) := by decide +kernel
theorem d_W_has_12 : decode c_W_has 12 = .ok (.iconst 1, 1) := by decide +kernel
theorem d_W_has_13 : decode c_W_has 13 = .ok (.goto 4, 3) := by decide +kernel
theorem d_W_has_16 : decode c_W_has 16 = .ok (.iconst 0, 1) := by decide +kernel
theorem d_W_has_17 : decode c_W_has 17 = .ok (.ireturn, 1) := by decide +kernel
abbrev c_W_edgeAt : ByteArray := prog_4_method_3_code
def y_W_edgeAt : MethodName := ⟨"ReadGraph$Walks", "edgeAt", "(II)I"⟩
theorem d_W_edgeAt_0 : decode c_W_edgeAt 0 = .ok (.aload_n 0, 1) := by decide +kernel
theorem d_W_edgeAt_1 : decode c_W_edgeAt 1 = .ok (.getfield 9, 3) := by decide +kernel
theorem d_W_edgeAt_4 : decode c_W_edgeAt 4 = .ok (.iload_n 1, 1) := by decide +kernel
theorem d_W_edgeAt_5 : decode c_W_edgeAt 5 = .ok (.bipush 40, 2) := by decide +kernel
theorem d_W_edgeAt_7 : decode c_W_edgeAt 7 = .ok (.imul, 1) := by decide +kernel
theorem d_W_edgeAt_8 : decode c_W_edgeAt 8 = .ok (.iload_n 2, 1) := by decide +kernel
theorem d_W_edgeAt_9 : decode c_W_edgeAt 9 = .ok (.iadd, 1) := by decide +kernel
theorem d_W_edgeAt_10 : decode c_W_edgeAt 10 = .ok (.iaload, 1) := by decide +kernel
theorem d_W_edgeAt_11 : decode c_W_edgeAt 11 = .ok (.ireturn, 1) := by decide +kernel
abbrev c_W_find : ByteArray := prog_4_method_4_code
def y_W_find : MethodName := ⟨"ReadGraph$Walks", "find", "()Z"⟩
theorem d_W_find_0 : decode c_W_find 0 = .ok (.aload_n 0, 1) := by decide +kernel
theorem d_W_find_1 : decode c_W_find 1 = .ok (.iconst 0, 1) := by decide +kernel
theorem d_W_find_2 : decode c_W_find 2 = .ok (.putfield 28, 3) := by decide +kernel
theorem d_W_find_5 : decode c_W_find 5 = .ok (.ldc 32, 2) := by decide +kernel
theorem d_W_find_7 : decode c_W_find 7 = .ok (.istore_n 1, 1) := by decide +kernel
theorem d_W_find_8 : decode c_W_find 8 = .ok (.iconst 0, 1) := by decide +kernel
theorem d_W_find_9 : decode c_W_find 9 = .ok (.istore_n 2, 1) := by decide +kernel
theorem d_W_find_10 : decode c_W_find 10 = .ok (.iload_n 2, 1) := by decide +kernel
theorem d_W_find_11 : decode c_W_find 11 = .ok (.aload_n 0, 1) := by decide +kernel
theorem d_W_find_12 : decode c_W_find 12 = .ok (.getfield 24, 3) := by decide +kernel
theorem d_W_find_15 : decode c_W_find 15 = .ok (.getfield 33, 3) := by decide +kernel
theorem d_W_find_18 : decode c_W_find 18 = .ok (.if_icmp .ge 31, 3) := by decide +kernel
theorem d_W_find_21 : decode c_W_find 21 = .ok (.aload_n 0, 1) := by decide +kernel
theorem d_W_find_22 : decode c_W_find 22 = .ok (.iconst 0, 1) := by decide +kernel
theorem d_W_find_23 : decode c_W_find 23 = .ok (.putfield 36, 3) := by decide +kernel
theorem d_W_find_26 : decode c_W_find 26 = .ok (.aload_n 0, 1) := by decide +kernel
theorem d_W_find_27 : decode c_W_find 27 = .ok (.iload_n 2, 1) := by decide +kernel
theorem d_W_find_28 : decode c_W_find 28 = .ok (.invokevirtual 39, 3) := by decide +kernel
theorem d_W_find_31 : decode c_W_find 31 = .ok (.aload_n 0, 1) := by decide +kernel
theorem d_W_find_32 : decode c_W_find 32 = .ok (.iload_n 1, 1) := by decide +kernel
theorem d_W_find_33 : decode c_W_find 33 = .ok (.invokevirtual 43, 3) := by decide +kernel
theorem d_W_find_36 : decode c_W_find 36 = .ok (.istore_n 1, 1) := by decide +kernel
theorem d_W_find_37 : decode c_W_find 37 = .ok (.iload_n 1, 1) := by decide +kernel
theorem d_W_find_38 : decode c_W_find 38 = .ok (.ifCond .ge 5, 3) := by decide +kernel
theorem d_W_find_41 : decode c_W_find 41 = .ok (.iconst 0, 1) := by decide +kernel
theorem d_W_find_42 : decode c_W_find 42 = .ok (.ireturn, 1) := by decide +kernel
theorem d_W_find_43 : decode c_W_find 43 = .ok (.iinc 2 1, 3) := by decide +kernel
theorem d_W_find_46 : decode c_W_find 46 = .ok (.goto (-36), 3) := by decide +kernel
theorem d_W_find_49 : decode c_W_find 49 = .ok (.iconst 1, 1) := by decide +kernel
theorem d_W_find_50 : decode c_W_find 50 = .ok (.ireturn, 1) := by decide +kernel
abbrev c_W_findFrom : ByteArray := prog_4_method_5_code
def y_W_findFrom : MethodName := ⟨"ReadGraph$Walks", "findFrom", "(I)I"⟩
theorem d_W_findFrom_0 : decode c_W_findFrom 0 = .ok (.iconst 0, 1) := by decide +kernel
theorem d_W_findFrom_1 : decode c_W_findFrom 1 = .ok (.istore_n 2, 1) := by decide +kernel
theorem d_W_findFrom_2 : decode c_W_findFrom 2 = .ok (.iload_n 1, 1) := by decide +kernel
theorem d_W_findFrom_3 : decode c_W_findFrom 3 = .ok (.istore_n 3, 1) := by decide +kernel
theorem d_W_findFrom_4 : decode c_W_findFrom 4 = .ok (.iload_n 3, 1) := by decide +kernel
theorem d_W_findFrom_5 : decode c_W_findFrom 5 = .ok (.ifCond .le 83, 3) := by decide +kernel
theorem d_W_findFrom_8 : decode c_W_findFrom 8 = .ok (.aload_n 0, 1) := by decide +kernel
theorem d_W_findFrom_9 : decode c_W_findFrom 9 = .ok (.invokevirtual 47, 3) := by decide +kernel
theorem d_W_findFrom_12 : decode c_W_findFrom 12 = .ok (.istore 4, 2) := by decide +kernel
theorem d_W_findFrom_14 : decode c_W_findFrom 14 = .ok (.iload 4, 2) := by decide +kernel
theorem d_W_findFrom_16 : decode c_W_findFrom 16 = .ok (.ifCond .lt 25, 3) := by decide +kernel
theorem d_W_findFrom_19 : decode c_W_findFrom 19 = .ok (.aload_n 0, 1) := by decide +kernel
theorem d_W_findFrom_20 : decode c_W_findFrom 20 = .ok (.getfield 36, 3) := by decide +kernel
theorem d_W_findFrom_23 : decode c_W_findFrom 23 = .ok (.bipush 40, 2) := by decide +kernel
theorem d_W_findFrom_25 : decode c_W_findFrom 25 = .ok (.if_icmp .ne 5, 3) := by decide +kernel
theorem d_W_findFrom_28 : decode c_W_findFrom 28 = .ok (.iconst (-1), 1) := by decide +kernel
theorem d_W_findFrom_29 : decode c_W_findFrom 29 = .ok (.ireturn, 1) := by decide +kernel
theorem d_W_findFrom_30 : decode c_W_findFrom 30 = .ok (.aload_n 0, 1) := by decide +kernel
theorem d_W_findFrom_31 : decode c_W_findFrom 31 = .ok (.iload 4, 2) := by decide +kernel
theorem d_W_findFrom_33 : decode c_W_findFrom 33 = .ok (.invokevirtual 39, 3) := by decide +kernel
theorem d_W_findFrom_36 : decode c_W_findFrom 36 = .ok (.iconst 0, 1) := by decide +kernel
theorem d_W_findFrom_37 : decode c_W_findFrom 37 = .ok (.istore_n 2, 1) := by decide +kernel
theorem d_W_findFrom_38 : decode c_W_findFrom 38 = .ok (.goto 35, 3) := by decide +kernel
theorem d_W_findFrom_41 : decode c_W_findFrom 41 = .ok (.iload_n 2, 1) := by decide +kernel
theorem d_W_findFrom_42 : decode c_W_findFrom 42 = .ok (.ifCond .ne 19, 3) := by decide +kernel
theorem d_W_findFrom_45 : decode c_W_findFrom 45 = .ok (.aload_n 0, 1) := by decide +kernel
theorem d_W_findFrom_46 : decode c_W_findFrom 46 = .ok (.invokevirtual 51, 3) := by decide +kernel
theorem d_W_findFrom_49 : decode c_W_findFrom 49 = .ok (.ifCond .ne 12, 3) := by decide +kernel
theorem d_W_findFrom_52 : decode c_W_findFrom 52 = .ok (.aload_n 0, 1) := by decide +kernel
theorem d_W_findFrom_53 : decode c_W_findFrom 53 = .ok (.invokevirtual 55, 3) := by decide +kernel
theorem d_W_findFrom_56 : decode c_W_findFrom 56 = .ok (.ifCond .ne 5, 3) := by decide +kernel
theorem d_W_findFrom_59 : decode c_W_findFrom 59 = .ok (.iconst (-1), 1) := by decide +kernel
theorem d_W_findFrom_60 : decode c_W_findFrom 60 = .ok (.ireturn, 1) := by decide +kernel
theorem d_W_findFrom_61 : decode c_W_findFrom 61 = .ok (.aload_n 0, 1) := by decide +kernel
theorem d_W_findFrom_62 : decode c_W_findFrom 62 = .ok (.dup, 1) := by decide +kernel
theorem d_W_findFrom_63 : decode c_W_findFrom 63 = .ok (.getfield 36, 3) := by decide +kernel
theorem d_W_findFrom_66 : decode c_W_findFrom 66 = .ok (.iconst 1, 1) := by decide +kernel
theorem d_W_findFrom_67 : decode c_W_findFrom 67 = .ok (.isub, 1) := by decide +kernel
theorem d_W_findFrom_68 : decode c_W_findFrom 68 = .ok (.putfield 36, 3) := by decide +kernel
theorem d_W_findFrom_71 : decode c_W_findFrom 71 = .ok (.iconst 1, 1) := by decide +kernel
theorem d_W_findFrom_72 : decode c_W_findFrom 72 = .ok (.istore_n 2, 1) := by decide +kernel
theorem d_W_findFrom_73 : decode c_W_findFrom 73 = .ok (.aload_n 0, 1) := by decide +kernel
theorem d_W_findFrom_74 : decode c_W_findFrom 74 = .ok (.getfield 36, 3) := by decide +kernel
theorem d_W_findFrom_77 : decode c_W_findFrom 77 = .ok (.ifCond .ne 5, 3) := by decide +kernel
theorem d_W_findFrom_80 : decode c_W_findFrom 80 = .ok (.iload_n 3, 1) := by decide +kernel
theorem d_W_findFrom_81 : decode c_W_findFrom 81 = .ok (.ireturn, 1) := by decide +kernel
theorem d_W_findFrom_82 : decode c_W_findFrom 82 = .ok (.iinc 3 (-1), 3) := by decide +kernel
theorem d_W_findFrom_85 : decode c_W_findFrom 85 = .ok (.goto (-81), 3) := by decide +kernel
theorem d_W_findFrom_88 : decode c_W_findFrom 88 = .ok (.iconst (-1), 1) := by decide +kernel
theorem d_W_findFrom_89 : decode c_W_findFrom 89 = .ok (.ireturn, 1) := by decide +kernel
abbrev c_W_stepOn : ByteArray := prog_4_method_6_code
def y_W_stepOn : MethodName := ⟨"ReadGraph$Walks", "stepOn", "(I)V"⟩
theorem d_W_stepOn_0 : decode c_W_stepOn 0 = .ok (.aload_n 0, 1) := by decide +kernel
theorem d_W_stepOn_1 : decode c_W_stepOn 1 = .ok (.getfield 18, 3) := by decide +kernel
theorem d_W_stepOn_4 : decode c_W_stepOn 4 = .ok (.aload_n 0, 1) := by decide +kernel
theorem d_W_stepOn_5 : decode c_W_stepOn 5 = .ok (.getfield 36, 3) := by decide +kernel
theorem d_W_stepOn_8 : decode c_W_stepOn 8 = .ok (.iload_n 1, 1) := by decide +kernel
theorem d_W_stepOn_9 : decode c_W_stepOn 9 = .ok (.iastore, 1) := by decide +kernel
theorem d_W_stepOn_10 : decode c_W_stepOn 10 = .ok (.aload_n 0, 1) := by decide +kernel
theorem d_W_stepOn_11 : decode c_W_stepOn 11 = .ok (.getfield 21, 3) := by decide +kernel
theorem d_W_stepOn_14 : decode c_W_stepOn 14 = .ok (.aload_n 0, 1) := by decide +kernel
theorem d_W_stepOn_15 : decode c_W_stepOn 15 = .ok (.getfield 36, 3) := by decide +kernel
theorem d_W_stepOn_18 : decode c_W_stepOn 18 = .ok (.aload_n 0, 1) := by decide +kernel
theorem d_W_stepOn_19 : decode c_W_stepOn 19 = .ok (.getfield 24, 3) := by decide +kernel
theorem d_W_stepOn_22 : decode c_W_stepOn 22 = .ok (.getfield 58, 3) := by decide +kernel
theorem d_W_stepOn_25 : decode c_W_stepOn 25 = .ok (.aload_n 0, 1) := by decide +kernel
theorem d_W_stepOn_26 : decode c_W_stepOn 26 = .ok (.getfield 24, 3) := by decide +kernel
theorem d_W_stepOn_29 : decode c_W_stepOn 29 = .ok (.getfield 61, 3) := by decide +kernel
theorem d_W_stepOn_32 : decode c_W_stepOn 32 = .ok (.iload_n 1, 1) := by decide +kernel
theorem d_W_stepOn_33 : decode c_W_stepOn 33 = .ok (.iaload, 1) := by decide +kernel
theorem d_W_stepOn_34 : decode c_W_stepOn 34 = .ok (.iaload, 1) := by decide +kernel
theorem d_W_stepOn_35 : decode c_W_stepOn 35 = .ok (.iastore, 1) := by decide +kernel
theorem d_W_stepOn_36 : decode c_W_stepOn 36 = .ok (.aload_n 0, 1) := by decide +kernel
theorem d_W_stepOn_37 : decode c_W_stepOn 37 = .ok (.dup, 1) := by decide +kernel
theorem d_W_stepOn_38 : decode c_W_stepOn 38 = .ok (.getfield 36, 3) := by decide +kernel
theorem d_W_stepOn_41 : decode c_W_stepOn 41 = .ok (.iconst 1, 1) := by decide +kernel
theorem d_W_stepOn_42 : decode c_W_stepOn 42 = .ok (.iadd, 1) := by decide +kernel
theorem d_W_stepOn_43 : decode c_W_stepOn 43 = .ok (.putfield 36, 3) := by decide +kernel
theorem d_W_stepOn_46 : decode c_W_stepOn 46 = .ok (.return_, 1) := by decide +kernel
abbrev c_W_nextBehind : ByteArray := prog_4_method_7_code
def y_W_nextBehind : MethodName := ⟨"ReadGraph$Walks", "nextBehind", "()I"⟩
theorem d_W_nextBehind_0 : decode c_W_nextBehind 0 = .ok (.aload_n 0, 1) := by decide +kernel
theorem d_W_nextBehind_1 : decode c_W_nextBehind 1 = .ok (.getfield 24, 3) := by decide +kernel
theorem d_W_nextBehind_4 : decode c_W_nextBehind 4 = .ok (.getfield 61, 3) := by decide +kernel
theorem d_W_nextBehind_7 : decode c_W_nextBehind 7 = .ok (.aload_n 0, 1) := by decide +kernel
theorem d_W_nextBehind_8 : decode c_W_nextBehind 8 = .ok (.getfield 18, 3) := by decide +kernel
theorem d_W_nextBehind_11 : decode c_W_nextBehind 11 = .ok (.aload_n 0, 1) := by decide +kernel
theorem d_W_nextBehind_12 : decode c_W_nextBehind 12 = .ok (.getfield 36, 3) := by decide +kernel
theorem d_W_nextBehind_15 : decode c_W_nextBehind 15 = .ok (.iconst 1, 1) := by decide +kernel
theorem d_W_nextBehind_16 : decode c_W_nextBehind 16 = .ok (.isub, 1) := by decide +kernel
theorem d_W_nextBehind_17 : decode c_W_nextBehind 17 = .ok (.iaload, 1) := by decide +kernel
theorem d_W_nextBehind_18 : decode c_W_nextBehind 18 = .ok (.iaload, 1) := by decide +kernel
theorem d_W_nextBehind_19 : decode c_W_nextBehind 19 = .ok (.istore_n 1, 1) := by decide +kernel
theorem d_W_nextBehind_20 : decode c_W_nextBehind 20 = .ok (.aload_n 0, 1) := by decide +kernel
theorem d_W_nextBehind_21 : decode c_W_nextBehind 21 = .ok (.getfield 21, 3) := by decide +kernel
theorem d_W_nextBehind_24 : decode c_W_nextBehind 24 = .ok (.aload_n 0, 1) := by decide +kernel
theorem d_W_nextBehind_25 : decode c_W_nextBehind 25 = .ok (.getfield 36, 3) := by decide +kernel
theorem d_W_nextBehind_28 : decode c_W_nextBehind 28 = .ok (.iconst 1, 1) := by decide +kernel
theorem d_W_nextBehind_29 : decode c_W_nextBehind 29 = .ok (.isub, 1) := by decide +kernel
theorem d_W_nextBehind_30 : decode c_W_nextBehind 30 = .ok (.iaload, 1) := by decide +kernel
theorem d_W_nextBehind_31 : decode c_W_nextBehind 31 = .ok (.istore_n 2, 1) := by decide +kernel
theorem d_W_nextBehind_32 : decode c_W_nextBehind 32 = .ok (.iload_n 2, 1) := by decide +kernel
theorem d_W_nextBehind_33 : decode c_W_nextBehind 33 = .ok (.aload_n 0, 1) := by decide +kernel
theorem d_W_nextBehind_34 : decode c_W_nextBehind 34 = .ok (.getfield 24, 3) := by decide +kernel
theorem d_W_nextBehind_37 : decode c_W_nextBehind 37 = .ok (.getfield 58, 3) := by decide +kernel
theorem d_W_nextBehind_40 : decode c_W_nextBehind 40 = .ok (.iload_n 1, 1) := by decide +kernel
theorem d_W_nextBehind_41 : decode c_W_nextBehind 41 = .ok (.iconst 1, 1) := by decide +kernel
theorem d_W_nextBehind_42 : decode c_W_nextBehind 42 = .ok (.iadd, 1) := by decide +kernel
theorem d_W_nextBehind_43 : decode c_W_nextBehind 43 = .ok (.iaload, 1) := by decide +kernel
theorem d_W_nextBehind_44 : decode c_W_nextBehind 44 = .ok (.if_icmp .ge 33, 3) := by decide +kernel
theorem d_W_nextBehind_47 : decode c_W_nextBehind 47 = .ok (.aload_n 0, 1) := by decide +kernel
theorem d_W_nextBehind_48 : decode c_W_nextBehind 48 = .ok (.iload_n 2, 1) := by decide +kernel
theorem d_W_nextBehind_49 : decode c_W_nextBehind 49 = .ok (.invokevirtual 64, 3) := by decide +kernel
theorem d_W_nextBehind_52 : decode c_W_nextBehind 52 = .ok (.ifCond .eq 19, 3) := by decide +kernel
theorem d_W_nextBehind_55 : decode c_W_nextBehind 55 = .ok (.aload_n 0, 1) := by decide +kernel
theorem d_W_nextBehind_56 : decode c_W_nextBehind 56 = .ok (.getfield 21, 3) := by decide +kernel
theorem d_W_nextBehind_59 : decode c_W_nextBehind 59 = .ok (.aload_n 0, 1) := by decide +kernel
theorem d_W_nextBehind_60 : decode c_W_nextBehind 60 = .ok (.getfield 36, 3) := by decide +kernel
theorem d_W_nextBehind_63 : decode c_W_nextBehind 63 = .ok (.iconst 1, 1) := by decide +kernel
theorem d_W_nextBehind_64 : decode c_W_nextBehind 64 = .ok (.isub, 1) := by decide +kernel
theorem d_W_nextBehind_65 : decode c_W_nextBehind 65 = .ok (.iload_n 2, 1) := by decide +kernel
theorem d_W_nextBehind_66 : decode c_W_nextBehind 66 = .ok (.iconst 1, 1) := by decide +kernel
theorem d_W_nextBehind_67 : decode c_W_nextBehind 67 = .ok (.iadd, 1) := by decide +kernel
theorem d_W_nextBehind_68 : decode c_W_nextBehind 68 = .ok (.iastore, 1) := by decide +kernel
theorem d_W_nextBehind_69 : decode c_W_nextBehind 69 = .ok (.iload_n 2, 1) := by decide +kernel
theorem d_W_nextBehind_70 : decode c_W_nextBehind 70 = .ok (.ireturn, 1) := by decide +kernel
theorem d_W_nextBehind_71 : decode c_W_nextBehind 71 = .ok (.iinc 2 1, 3) := by decide +kernel
theorem d_W_nextBehind_74 : decode c_W_nextBehind 74 = .ok (.goto (-42), 3) := by decide +kernel
theorem d_W_nextBehind_77 : decode c_W_nextBehind 77 = .ok (.iconst (-1), 1) := by decide +kernel
theorem d_W_nextBehind_78 : decode c_W_nextBehind 78 = .ok (.ireturn, 1) := by decide +kernel
abbrev c_W_staysSafeBehind : ByteArray := prog_4_method_8_code
def y_W_staysSafeBehind : MethodName := ⟨"ReadGraph$Walks", "staysSafeBehind", "(I)Z"⟩
theorem d_W_staysSafeBehind_0 : decode c_W_staysSafeBehind 0 = .ok (.iconst 0, 1) := by decide +kernel
theorem d_W_staysSafeBehind_1 : decode c_W_staysSafeBehind 1 = .ok (.istore_n 2, 1) := by decide +kernel
theorem d_W_staysSafeBehind_2 : decode c_W_staysSafeBehind 2 = .ok (.iload_n 2, 1) := by decide +kernel
theorem d_W_staysSafeBehind_3 : decode c_W_staysSafeBehind 3 = .ok (.aload_n 0, 1) := by decide +kernel
theorem d_W_staysSafeBehind_4 : decode c_W_staysSafeBehind 4 = .ok (.getfield 36, 3) := by decide +kernel
theorem d_W_staysSafeBehind_7 : decode c_W_staysSafeBehind 7 = .ok (.if_icmp .ge 28, 3) := by decide +kernel
theorem d_W_staysSafeBehind_10 : decode c_W_staysSafeBehind 10 = .ok (.aload_n 0, 1) := by decide +kernel
theorem d_W_staysSafeBehind_11 : decode c_W_staysSafeBehind 11 = .ok (.getfield 24, 3) := by decide +kernel
theorem d_W_staysSafeBehind_14 : decode c_W_staysSafeBehind 14 = .ok (.aload_n 0, 1) := by decide +kernel
theorem d_W_staysSafeBehind_15 : decode c_W_staysSafeBehind 15 = .ok (.getfield 18, 3) := by decide +kernel
theorem d_W_staysSafeBehind_18 : decode c_W_staysSafeBehind 18 = .ok (.iload_n 2, 1) := by decide +kernel
theorem d_W_staysSafeBehind_19 : decode c_W_staysSafeBehind 19 = .ok (.iaload, 1) := by decide +kernel
theorem d_W_staysSafeBehind_20 : decode c_W_staysSafeBehind 20 = .ok (.iload_n 1, 1) := by decide +kernel
theorem d_W_staysSafeBehind_21 : decode c_W_staysSafeBehind 21 = .ok (.invokevirtual 68, 3) := by decide +kernel
theorem d_W_staysSafeBehind_24 : decode c_W_staysSafeBehind 24 = .ok (.ifCond .eq 5, 3) := by decide +kernel
theorem d_W_staysSafeBehind_27 : decode c_W_staysSafeBehind 27 = .ok (.iconst 0, 1) := by decide +kernel
theorem d_W_staysSafeBehind_28 : decode c_W_staysSafeBehind 28 = .ok (.ireturn, 1) := by decide +kernel
theorem d_W_staysSafeBehind_29 : decode c_W_staysSafeBehind 29 = .ok (.iinc 2 1, 3) := by decide +kernel
theorem d_W_staysSafeBehind_32 : decode c_W_staysSafeBehind 32 = .ok (.goto (-30), 3) := by decide +kernel
theorem d_W_staysSafeBehind_35 : decode c_W_staysSafeBehind 35 = .ok (.iconst 1, 1) := by decide +kernel
theorem d_W_staysSafeBehind_36 : decode c_W_staysSafeBehind 36 = .ok (.ireturn, 1) := by decide +kernel
abbrev c_W_hasBefore : ByteArray := prog_4_method_9_code
def y_W_hasBefore : MethodName := ⟨"ReadGraph$Walks", "hasBefore", "()Z"⟩
theorem d_W_hasBefore_0 : decode c_W_hasBefore 0 = .ok (.iconst 0, 1) := by decide +kernel
theorem d_W_hasBefore_1 : decode c_W_hasBefore 1 = .ok (.istore_n 1, 1) := by decide +kernel
theorem d_W_hasBefore_2 : decode c_W_hasBefore 2 = .ok (.iload_n 1, 1) := by decide +kernel
theorem d_W_hasBefore_3 : decode c_W_hasBefore 3 = .ok (.aload_n 0, 1) := by decide +kernel
theorem d_W_hasBefore_4 : decode c_W_hasBefore 4 = .ok (.getfield 24, 3) := by decide +kernel
theorem d_W_hasBefore_7 : decode c_W_hasBefore 7 = .ok (.getfield 33, 3) := by decide +kernel
theorem d_W_hasBefore_10 : decode c_W_hasBefore 10 = .ok (.if_icmp .ge 45, 3) := by decide +kernel
theorem d_W_hasBefore_13 : decode c_W_hasBefore 13 = .ok (.aload_n 0, 1) := by decide +kernel
theorem d_W_hasBefore_14 : decode c_W_hasBefore 14 = .ok (.getfield 24, 3) := by decide +kernel
theorem d_W_hasBefore_17 : decode c_W_hasBefore 17 = .ok (.getfield 61, 3) := by decide +kernel
theorem d_W_hasBefore_20 : decode c_W_hasBefore 20 = .ok (.iload_n 1, 1) := by decide +kernel
theorem d_W_hasBefore_21 : decode c_W_hasBefore 21 = .ok (.iaload, 1) := by decide +kernel
theorem d_W_hasBefore_22 : decode c_W_hasBefore 22 = .ok (.aload_n 0, 1) := by decide +kernel
theorem d_W_hasBefore_23 : decode c_W_hasBefore 23 = .ok (.getfield 24, 3) := by decide +kernel
theorem d_W_hasBefore_26 : decode c_W_hasBefore 26 = .ok (.getfield 72, 3) := by decide +kernel
theorem d_W_hasBefore_29 : decode c_W_hasBefore 29 = .ok (.aload_n 0, 1) := by decide +kernel
theorem d_W_hasBefore_30 : decode c_W_hasBefore 30 = .ok (.getfield 18, 3) := by decide +kernel
theorem d_W_hasBefore_33 : decode c_W_hasBefore 33 = .ok (.iconst 0, 1) := by decide +kernel
theorem d_W_hasBefore_34 : decode c_W_hasBefore 34 = .ok (.iaload, 1) := by decide +kernel
theorem d_W_hasBefore_35 : decode c_W_hasBefore 35 = .ok (.iaload, 1) := by decide +kernel
theorem d_W_hasBefore_36 : decode c_W_hasBefore 36 = .ok (.if_icmp .ne 13, 3) := by decide +kernel
theorem d_W_hasBefore_39 : decode c_W_hasBefore 39 = .ok (.aload_n 0, 1) := by decide +kernel
theorem d_W_hasBefore_40 : decode c_W_hasBefore 40 = .ok (.iload_n 1, 1) := by decide +kernel
theorem d_W_hasBefore_41 : decode c_W_hasBefore 41 = .ok (.invokevirtual 75, 3) := by decide +kernel
theorem d_W_hasBefore_44 : decode c_W_hasBefore 44 = .ok (.ifCond .eq 5, 3) := by decide +kernel
theorem d_W_hasBefore_47 : decode c_W_hasBefore 47 = .ok (.iconst 1, 1) := by decide +kernel
theorem d_W_hasBefore_48 : decode c_W_hasBefore 48 = .ok (.ireturn, 1) := by decide +kernel
theorem d_W_hasBefore_49 : decode c_W_hasBefore 49 = .ok (.iinc 1 1, 3) := by decide +kernel
theorem d_W_hasBefore_52 : decode c_W_hasBefore 52 = .ok (.goto (-50), 3) := by decide +kernel
theorem d_W_hasBefore_55 : decode c_W_hasBefore 55 = .ok (.iconst 0, 1) := by decide +kernel
theorem d_W_hasBefore_56 : decode c_W_hasBefore 56 = .ok (.ireturn, 1) := by decide +kernel
abbrev c_W_staysSafeBefore : ByteArray := prog_4_method_10_code
def y_W_staysSafeBefore : MethodName := ⟨"ReadGraph$Walks", "staysSafeBefore", "(I)Z"⟩
theorem d_W_staysSafeBefore_0 : decode c_W_staysSafeBefore 0 = .ok (.iconst 0, 1) := by decide +kernel
theorem d_W_staysSafeBefore_1 : decode c_W_staysSafeBefore 1 = .ok (.istore_n 2, 1) := by decide +kernel
theorem d_W_staysSafeBefore_2 : decode c_W_staysSafeBefore 2 = .ok (.iload_n 2, 1) := by decide +kernel
theorem d_W_staysSafeBefore_3 : decode c_W_staysSafeBefore 3 = .ok (.aload_n 0, 1) := by decide +kernel
theorem d_W_staysSafeBefore_4 : decode c_W_staysSafeBefore 4 = .ok (.getfield 36, 3) := by decide +kernel
theorem d_W_staysSafeBefore_7 : decode c_W_staysSafeBefore 7 = .ok (.if_icmp .ge 28, 3) := by decide +kernel
theorem d_W_staysSafeBefore_10 : decode c_W_staysSafeBefore 10 = .ok (.aload_n 0, 1) := by decide +kernel
theorem d_W_staysSafeBefore_11 : decode c_W_staysSafeBefore 11 = .ok (.getfield 24, 3) := by decide +kernel
theorem d_W_staysSafeBefore_14 : decode c_W_staysSafeBefore 14 = .ok (.iload_n 1, 1) := by decide +kernel
theorem d_W_staysSafeBefore_15 : decode c_W_staysSafeBefore 15 = .ok (.aload_n 0, 1) := by decide +kernel
theorem d_W_staysSafeBefore_16 : decode c_W_staysSafeBefore 16 = .ok (.getfield 18, 3) := by decide +kernel
theorem d_W_staysSafeBefore_19 : decode c_W_staysSafeBefore 19 = .ok (.iload_n 2, 1) := by decide +kernel
theorem d_W_staysSafeBefore_20 : decode c_W_staysSafeBefore 20 = .ok (.iaload, 1) := by decide +kernel
theorem d_W_staysSafeBefore_21 : decode c_W_staysSafeBefore 21 = .ok (.invokevirtual 68, 3) := by decide +kernel
theorem d_W_staysSafeBefore_24 : decode c_W_staysSafeBefore 24 = .ok (.ifCond .eq 5, 3) := by decide +kernel
theorem d_W_staysSafeBefore_27 : decode c_W_staysSafeBefore 27 = .ok (.iconst 0, 1) := by decide +kernel
theorem d_W_staysSafeBefore_28 : decode c_W_staysSafeBefore 28 = .ok (.ireturn, 1) := by decide +kernel
theorem d_W_staysSafeBefore_29 : decode c_W_staysSafeBefore 29 = .ok (.iinc 2 1, 3) := by decide +kernel
theorem d_W_staysSafeBefore_32 : decode c_W_staysSafeBefore 32 = .ok (.goto (-30), 3) := by decide +kernel
theorem d_W_staysSafeBefore_35 : decode c_W_staysSafeBefore 35 = .ok (.iconst 1, 1) := by decide +kernel
theorem d_W_staysSafeBefore_36 : decode c_W_staysSafeBefore 36 = .ok (.ireturn, 1) := by decide +kernel
abbrev c_W_keepTrail : ByteArray := prog_4_method_11_code
def y_W_keepTrail : MethodName := ⟨"ReadGraph$Walks", "keepTrail", "()Z"⟩
theorem d_W_keepTrail_0 : decode c_W_keepTrail 0 = .ok (.aload_n 0, 1) := by decide +kernel
theorem d_W_keepTrail_1 : decode c_W_keepTrail 1 = .ok (.getfield 28, 3) := by decide +kernel
theorem d_W_keepTrail_4 : decode c_W_keepTrail 4 = .ok (.bipush 50, 2) := by decide +kernel
theorem d_W_keepTrail_6 : decode c_W_keepTrail 6 = .ok (.if_icmp .ne 5, 3) := by decide +kernel
theorem d_W_keepTrail_9 : decode c_W_keepTrail 9 = .ok (.iconst 0, 1) := by decide +kernel
theorem d_W_keepTrail_10 : decode c_W_keepTrail 10 = .ok (.ireturn, 1) := by decide +kernel
theorem d_W_keepTrail_11 : decode c_W_keepTrail 11 = .ok (.iconst 0, 1) := by decide +kernel
theorem d_W_keepTrail_12 : decode c_W_keepTrail 12 = .ok (.istore_n 1, 1) := by decide +kernel
theorem d_W_keepTrail_13 : decode c_W_keepTrail 13 = .ok (.iload_n 1, 1) := by decide +kernel
theorem d_W_keepTrail_14 : decode c_W_keepTrail 14 = .ok (.aload_n 0, 1) := by decide +kernel
theorem d_W_keepTrail_15 : decode c_W_keepTrail 15 = .ok (.getfield 36, 3) := by decide +kernel
theorem d_W_keepTrail_18 : decode c_W_keepTrail 18 = .ok (.if_icmp .ge 29, 3) := by decide +kernel
theorem d_W_keepTrail_21 : decode c_W_keepTrail 21 = .ok (.aload_n 0, 1) := by decide +kernel
theorem d_W_keepTrail_22 : decode c_W_keepTrail 22 = .ok (.getfield 9, 3) := by decide +kernel
theorem d_W_keepTrail_25 : decode c_W_keepTrail 25 = .ok (.aload_n 0, 1) := by decide +kernel
theorem d_W_keepTrail_26 : decode c_W_keepTrail 26 = .ok (.getfield 28, 3) := by decide +kernel
theorem d_W_keepTrail_29 : decode c_W_keepTrail 29 = .ok (.bipush 40, 2) := by decide +kernel
theorem d_W_keepTrail_31 : decode c_W_keepTrail 31 = .ok (.imul, 1) := by decide +kernel
theorem d_W_keepTrail_32 : decode c_W_keepTrail 32 = .ok (.iload_n 1, 1) := by decide +kernel
theorem d_W_keepTrail_33 : decode c_W_keepTrail 33 = .ok (.iadd, 1) := by decide +kernel
theorem d_W_keepTrail_34 : decode c_W_keepTrail 34 = .ok (.aload_n 0, 1) := by decide +kernel
theorem d_W_keepTrail_35 : decode c_W_keepTrail 35 = .ok (.getfield 18, 3) := by decide +kernel
theorem d_W_keepTrail_38 : decode c_W_keepTrail 38 = .ok (.iload_n 1, 1) := by decide +kernel
theorem d_W_keepTrail_39 : decode c_W_keepTrail 39 = .ok (.iaload, 1) := by decide +kernel
theorem d_W_keepTrail_40 : decode c_W_keepTrail 40 = .ok (.iastore, 1) := by decide +kernel
theorem d_W_keepTrail_41 : decode c_W_keepTrail 41 = .ok (.iinc 1 1, 3) := by decide +kernel
theorem d_W_keepTrail_44 : decode c_W_keepTrail 44 = .ok (.goto (-31), 3) := by decide +kernel
theorem d_W_keepTrail_47 : decode c_W_keepTrail 47 = .ok (.aload_n 0, 1) := by decide +kernel
theorem d_W_keepTrail_48 : decode c_W_keepTrail 48 = .ok (.getfield 15, 3) := by decide +kernel
theorem d_W_keepTrail_51 : decode c_W_keepTrail 51 = .ok (.aload_n 0, 1) := by decide +kernel
theorem d_W_keepTrail_52 : decode c_W_keepTrail 52 = .ok (.getfield 28, 3) := by decide +kernel
theorem d_W_keepTrail_55 : decode c_W_keepTrail 55 = .ok (.aload_n 0, 1) := by decide +kernel
theorem d_W_keepTrail_56 : decode c_W_keepTrail 56 = .ok (.getfield 36, 3) := by decide +kernel
theorem d_W_keepTrail_59 : decode c_W_keepTrail 59 = .ok (.iastore, 1) := by decide +kernel
theorem d_W_keepTrail_60 : decode c_W_keepTrail 60 = .ok (.aload_n 0, 1) := by decide +kernel
theorem d_W_keepTrail_61 : decode c_W_keepTrail 61 = .ok (.dup, 1) := by decide +kernel
theorem d_W_keepTrail_62 : decode c_W_keepTrail 62 = .ok (.getfield 28, 3) := by decide +kernel
theorem d_W_keepTrail_65 : decode c_W_keepTrail 65 = .ok (.iconst 1, 1) := by decide +kernel
theorem d_W_keepTrail_66 : decode c_W_keepTrail 66 = .ok (.iadd, 1) := by decide +kernel
theorem d_W_keepTrail_67 : decode c_W_keepTrail 67 = .ok (.putfield 28, 3) := by decide +kernel
theorem d_W_keepTrail_70 : decode c_W_keepTrail 70 = .ok (.iconst 1, 1) := by decide +kernel
theorem d_W_keepTrail_71 : decode c_W_keepTrail 71 = .ok (.ireturn, 1) := by decide +kernel
