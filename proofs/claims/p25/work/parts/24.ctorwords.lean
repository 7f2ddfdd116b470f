def y_Co_init : MethodName := ⟨jR0, "<init>", "()V"⟩
def y_Pg_init : MethodName := ⟨jR1, "<init>", "()V"⟩
def y_Rd_init : MethodName := ⟨jR2, "<init>", "(LMistletoeCourt$Page;)V"⟩
def y_Sh_init : MethodName := ⟨jR3, "<init>", "()V"⟩
def y_Si_init : MethodName := ⟨jR4, "<init>", "()V"⟩
def y_Gu_init : MethodName := ⟨jR5, "<init>", "(LMistletoeCourt$Shire;)V"⟩
def y_Pl_init : MethodName := ⟨jR6, "<init>", "(LMistletoeCourt$Shire;)V"⟩
def y_Cn_init : MethodName := ⟨jR7, "<init>", "(LMistletoeCourt$Shire;)V"⟩
def y_Fo_init : MethodName := ⟨jR8, "<init>", "(LMistletoeCourt$Shire;)V"⟩
def y_Rw_init : MethodName := ⟨jR9, "<init>", "(I)V"⟩
theorem mt_Co_init : Mt y_Co_init prog_1_method_1_code 1 none 0 := ⟨gt_of 30 (by decide +kernel) rfl, gt_of 9 (by decide +kernel) rfl, ⟨by decide +kernel, by decide +kernel⟩, by decide +kernel, by decide⟩
theorem ms_Co_init : Cond.instanceMethod y_Co_init ∈ gtbl := gt_of 29 (by decide +kernel) rfl
theorem d_Co_init_0 : decode prog_1_method_1_code 0 = .ok (.aload_n 0, 1) := by decide +kernel
theorem d_Co_init_1 : decode prog_1_method_1_code 1 = .ok (.invokespecial 1, 3) := by decide +kernel
theorem ml_Co_1 : Cond.methodLink jR0 1 Lib.objectInit ∈ gtbl := gt_of 31 (by decide +kernel) rfl
theorem d_Co_init_4 : decode prog_1_method_1_code 4 = .ok (.aload_n 0, 1) := by decide +kernel
theorem d_Co_init_5 : decode prog_1_method_1_code 5 = .ok (.new 7, 3) := by decide +kernel
theorem cl_Co_7 : Cond.classLink jR0 7 jR1 ∈ gtbl := gt_of 34 (by decide +kernel) rfl
theorem d_Co_init_8 : decode prog_1_method_1_code 8 = .ok (.dup, 1) := by decide +kernel
theorem d_Co_init_9 : decode prog_1_method_1_code 9 = .ok (.invokespecial 9, 3) := by decide +kernel
theorem mn_Co_9 : Cond.methodLinkNest jR0 9 y_Pg_init "MistletoeCourt" ∈ lw_tbl := List.mem_of_getElem? (i := 36) (by decide +kernel)
theorem d_Co_init_12 : decode prog_1_method_1_code 12 = .ok (.putfield 10, 3) := by decide +kernel
theorem fc_Co_10 : Cond.fieldLink jR0 10 (jT0 0).1 (jT0 0).2.1 (jT0 0).2.2.1 ∈ gtbl := gt_of 224 (by decide +kernel) rfl
theorem d_Co_init_15 : decode prog_1_method_1_code 15 = .ok (.aload_n 0, 1) := by decide +kernel
theorem d_Co_init_16 : decode prog_1_method_1_code 16 = .ok (.new 16, 3) := by decide +kernel
theorem cl_Co_16 : Cond.classLink jR0 16 jR2 ∈ gtbl := gt_of 58 (by decide +kernel) rfl
theorem d_Co_init_19 : decode prog_1_method_1_code 19 = .ok (.dup, 1) := by decide +kernel
theorem d_Co_init_20 : decode prog_1_method_1_code 20 = .ok (.aload_n 0, 1) := by decide +kernel
theorem d_Co_init_21 : decode prog_1_method_1_code 21 = .ok (.getfield 10, 3) := by decide +kernel
theorem d_Co_init_24 : decode prog_1_method_1_code 24 = .ok (.invokespecial 18, 3) := by decide +kernel
theorem ml_Co_18 : Cond.methodLink jR0 18 y_Rd_init ∈ gtbl := gt_of 60 (by decide +kernel) rfl
theorem d_Co_init_27 : decode prog_1_method_1_code 27 = .ok (.putfield 21, 3) := by decide +kernel
theorem fc_Co_21 : Cond.fieldLink jR0 21 (jT0 1).1 (jT0 1).2.1 (jT0 1).2.2.1 ∈ gtbl := gt_of 225 (by decide +kernel) rfl
theorem d_Co_init_30 : decode prog_1_method_1_code 30 = .ok (.aload_n 0, 1) := by decide +kernel
theorem d_Co_init_31 : decode prog_1_method_1_code 31 = .ok (.new 25, 3) := by decide +kernel
theorem cl_Co_25 : Cond.classLink jR0 25 jR3 ∈ gtbl := gt_of 77 (by decide +kernel) rfl
theorem d_Co_init_34 : decode prog_1_method_1_code 34 = .ok (.dup, 1) := by decide +kernel
theorem d_Co_init_35 : decode prog_1_method_1_code 35 = .ok (.invokespecial 27, 3) := by decide +kernel
theorem mn_Co_27 : Cond.methodLinkNest jR0 27 y_Sh_init "MistletoeCourt" ∈ lw_tbl := List.mem_of_getElem? (i := 79) (by decide +kernel)
theorem d_Co_init_38 : decode prog_1_method_1_code 38 = .ok (.putfield 28, 3) := by decide +kernel
theorem fc_Co_28 : Cond.fieldLink jR0 28 (jT0 2).1 (jT0 2).2.1 (jT0 2).2.2.1 ∈ gtbl := gt_of 226 (by decide +kernel) rfl
theorem d_Co_init_41 : decode prog_1_method_1_code 41 = .ok (.aload_n 0, 1) := by decide +kernel
theorem d_Co_init_42 : decode prog_1_method_1_code 42 = .ok (.new 25, 3) := by decide +kernel
theorem d_Co_init_45 : decode prog_1_method_1_code 45 = .ok (.dup, 1) := by decide +kernel
theorem d_Co_init_46 : decode prog_1_method_1_code 46 = .ok (.invokespecial 27, 3) := by decide +kernel
theorem d_Co_init_49 : decode prog_1_method_1_code 49 = .ok (.putfield 32, 3) := by decide +kernel
theorem fc_Co_32 : Cond.fieldLink jR0 32 (jT0 3).1 (jT0 3).2.1 (jT0 3).2.2.1 ∈ gtbl := gt_of 227 (by decide +kernel) rfl
theorem d_Co_init_52 : decode prog_1_method_1_code 52 = .ok (.aload_n 0, 1) := by decide +kernel
theorem d_Co_init_53 : decode prog_1_method_1_code 53 = .ok (.new 35, 3) := by decide +kernel
theorem cl_Co_35 : Cond.classLink jR0 35 jR5 ∈ gtbl := gt_of 149 (by decide +kernel) rfl
theorem d_Co_init_56 : decode prog_1_method_1_code 56 = .ok (.dup, 1) := by decide +kernel
theorem d_Co_init_57 : decode prog_1_method_1_code 57 = .ok (.aload_n 0, 1) := by decide +kernel
theorem d_Co_init_58 : decode prog_1_method_1_code 58 = .ok (.getfield 28, 3) := by decide +kernel
theorem d_Co_init_61 : decode prog_1_method_1_code 61 = .ok (.invokespecial 37, 3) := by decide +kernel
theorem ml_Co_37 : Cond.methodLink jR0 37 y_Gu_init ∈ gtbl := gt_of 151 (by decide +kernel) rfl
theorem d_Co_init_64 : decode prog_1_method_1_code 64 = .ok (.putfield 40, 3) := by decide +kernel
theorem fc_Co_40 : Cond.fieldLink jR0 40 (jT0 4).1 (jT0 4).2.1 (jT0 4).2.2.1 ∈ gtbl := gt_of 228 (by decide +kernel) rfl
theorem d_Co_init_67 : decode prog_1_method_1_code 67 = .ok (.aload_n 0, 1) := by decide +kernel
theorem d_Co_init_68 : decode prog_1_method_1_code 68 = .ok (.new 44, 3) := by decide +kernel
theorem cl_Co_44 : Cond.classLink jR0 44 jR6 ∈ gtbl := gt_of 159 (by decide +kernel) rfl
theorem d_Co_init_71 : decode prog_1_method_1_code 71 = .ok (.dup, 1) := by decide +kernel
theorem d_Co_init_72 : decode prog_1_method_1_code 72 = .ok (.aload_n 0, 1) := by decide +kernel
theorem d_Co_init_73 : decode prog_1_method_1_code 73 = .ok (.getfield 28, 3) := by decide +kernel
theorem d_Co_init_76 : decode prog_1_method_1_code 76 = .ok (.invokespecial 46, 3) := by decide +kernel
theorem ml_Co_46 : Cond.methodLink jR0 46 y_Pl_init ∈ gtbl := gt_of 161 (by decide +kernel) rfl
theorem d_Co_init_79 : decode prog_1_method_1_code 79 = .ok (.putfield 47, 3) := by decide +kernel
theorem fc_Co_47 : Cond.fieldLink jR0 47 (jT0 5).1 (jT0 5).2.1 (jT0 5).2.2.1 ∈ gtbl := gt_of 229 (by decide +kernel) rfl
theorem d_Co_init_82 : decode prog_1_method_1_code 82 = .ok (.aload_n 0, 1) := by decide +kernel
theorem d_Co_init_83 : decode prog_1_method_1_code 83 = .ok (.new 51, 3) := by decide +kernel
theorem cl_Co_51 : Cond.classLink jR0 51 jR7 ∈ gtbl := gt_of 184 (by decide +kernel) rfl
theorem d_Co_init_86 : decode prog_1_method_1_code 86 = .ok (.dup, 1) := by decide +kernel
theorem d_Co_init_87 : decode prog_1_method_1_code 87 = .ok (.aload_n 0, 1) := by decide +kernel
theorem d_Co_init_88 : decode prog_1_method_1_code 88 = .ok (.getfield 28, 3) := by decide +kernel
theorem d_Co_init_91 : decode prog_1_method_1_code 91 = .ok (.invokespecial 53, 3) := by decide +kernel
theorem ml_Co_53 : Cond.methodLink jR0 53 y_Cn_init ∈ gtbl := gt_of 186 (by decide +kernel) rfl
theorem d_Co_init_94 : decode prog_1_method_1_code 94 = .ok (.putfield 54, 3) := by decide +kernel
theorem fc_Co_54 : Cond.fieldLink jR0 54 (jT0 6).1 (jT0 6).2.1 (jT0 6).2.2.1 ∈ gtbl := gt_of 230 (by decide +kernel) rfl
theorem d_Co_init_97 : decode prog_1_method_1_code 97 = .ok (.aload_n 0, 1) := by decide +kernel
theorem d_Co_init_98 : decode prog_1_method_1_code 98 = .ok (.new 58, 3) := by decide +kernel
theorem cl_Co_58 : Cond.classLink jR0 58 jR8 ∈ gtbl := gt_of 206 (by decide +kernel) rfl
theorem d_Co_init_101 : decode prog_1_method_1_code 101 = .ok (.dup, 1) := by decide +kernel
theorem d_Co_init_102 : decode prog_1_method_1_code 102 = .ok (.aload_n 0, 1) := by decide +kernel
theorem d_Co_init_103 : decode prog_1_method_1_code 103 = .ok (.getfield 28, 3) := by decide +kernel
theorem d_Co_init_106 : decode prog_1_method_1_code 106 = .ok (.invokespecial 60, 3) := by decide +kernel
theorem ml_Co_60 : Cond.methodLink jR0 60 y_Fo_init ∈ gtbl := gt_of 208 (by decide +kernel) rfl
theorem d_Co_init_109 : decode prog_1_method_1_code 109 = .ok (.putfield 61, 3) := by decide +kernel
theorem fc_Co_61 : Cond.fieldLink jR0 61 (jT0 7).1 (jT0 7).2.1 (jT0 7).2.2.1 ∈ gtbl := gt_of 231 (by decide +kernel) rfl
theorem d_Co_init_112 : decode prog_1_method_1_code 112 = .ok (.return_, 1) := by decide +kernel
theorem mt_Pg_init : Mt y_Pg_init prog_6_method_1_code 1 none 0 := ⟨gt_of 38 (by decide +kernel) rfl, gt_of 10 (by decide +kernel) rfl, ⟨by decide +kernel, by decide +kernel⟩, by decide +kernel, by decide⟩
theorem ms_Pg_init : Cond.instanceMethod y_Pg_init ∈ gtbl := gt_of 37 (by decide +kernel) rfl
theorem d_Pg_init_0 : decode prog_6_method_1_code 0 = .ok (.aload_n 0, 1) := by decide +kernel
theorem d_Pg_init_1 : decode prog_6_method_1_code 1 = .ok (.invokespecial 3, 3) := by decide +kernel
theorem ml_Pg_3 : Cond.methodLink jR1 3 Lib.objectInit ∈ gtbl := gt_of 39 (by decide +kernel) rfl
theorem d_Pg_init_4 : decode prog_6_method_1_code 4 = .ok (.aload_n 0, 1) := by decide +kernel
theorem d_Pg_init_5 : decode prog_6_method_1_code 5 = .ok (.new 9, 3) := by decide +kernel
theorem cl_Pg_9 : Cond.classLink jR1 9 jR9 ∈ gtbl := gt_of 40 (by decide +kernel) rfl
theorem d_Pg_init_8 : decode prog_6_method_1_code 8 = .ok (.dup, 1) := by decide +kernel
theorem d_Pg_init_9 : decode prog_6_method_1_code 9 = .ok (.bipush 46, 2) := by decide +kernel
theorem d_Pg_init_11 : decode prog_6_method_1_code 11 = .ok (.invokespecial 11, 3) := by decide +kernel
theorem ml_Pg_11 : Cond.methodLink jR1 11 y_Rw_init ∈ gtbl := gt_of 42 (by decide +kernel) rfl
theorem d_Pg_init_14 : decode prog_6_method_1_code 14 = .ok (.putfield 14, 3) := by decide +kernel
theorem fc_Pg_14 : Cond.fieldLink jR1 14 (jT1 0).1 (jT1 0).2.1 (jT1 0).2.2.1 ∈ gtbl := gt_of 51 (by decide +kernel) rfl
theorem d_Pg_init_17 : decode prog_6_method_1_code 17 = .ok (.return_, 1) := by decide +kernel
theorem mt_Rd_init : Mt y_Rd_init prog_8_method_1_code 2 none 1 := ⟨gt_of 62 (by decide +kernel) rfl, gt_of 12 (by decide +kernel) rfl, ⟨by decide +kernel, by decide +kernel⟩, by decide +kernel, by decide⟩
theorem ms_Rd_init : Cond.instanceMethod y_Rd_init ∈ gtbl := gt_of 61 (by decide +kernel) rfl
theorem d_Rd_init_0 : decode prog_8_method_1_code 0 = .ok (.aload_n 0, 1) := by decide +kernel
theorem d_Rd_init_1 : decode prog_8_method_1_code 1 = .ok (.invokespecial 3, 3) := by decide +kernel
theorem ml_Rd_3 : Cond.methodLink jR2 3 Lib.objectInit ∈ gtbl := gt_of 63 (by decide +kernel) rfl
theorem d_Rd_init_4 : decode prog_8_method_1_code 4 = .ok (.aload_n 0, 1) := by decide +kernel
theorem d_Rd_init_5 : decode prog_8_method_1_code 5 = .ok (.aload_n 1, 1) := by decide +kernel
theorem d_Rd_init_6 : decode prog_8_method_1_code 6 = .ok (.putfield 9, 3) := by decide +kernel
theorem fc_Rd_9 : Cond.fieldLink jR2 9 (jT2 0).1 (jT2 0).2.1 (jT2 0).2.2.1 ∈ gtbl := gt_of 64 (by decide +kernel) rfl
theorem d_Rd_init_9 : decode prog_8_method_1_code 9 = .ok (.return_, 1) := by decide +kernel
theorem mt_Sh_init : Mt y_Sh_init prog_10_method_1_code 1 none 0 := ⟨gt_of 81 (by decide +kernel) rfl, gt_of 13 (by decide +kernel) rfl, ⟨by decide +kernel, by decide +kernel⟩, by decide +kernel, by decide⟩
theorem ms_Sh_init : Cond.instanceMethod y_Sh_init ∈ gtbl := gt_of 80 (by decide +kernel) rfl
theorem d_Sh_init_0 : decode prog_10_method_1_code 0 = .ok (.aload_n 0, 1) := by decide +kernel
theorem d_Sh_init_1 : decode prog_10_method_1_code 1 = .ok (.invokespecial 3, 3) := by decide +kernel
theorem ml_Sh_3 : Cond.methodLink jR3 3 Lib.objectInit ∈ gtbl := gt_of 82 (by decide +kernel) rfl
theorem d_Sh_init_4 : decode prog_10_method_1_code 4 = .ok (.aload_n 0, 1) := by decide +kernel
theorem d_Sh_init_5 : decode prog_10_method_1_code 5 = .ok (.new 9, 3) := by decide +kernel
theorem cl_Sh_9 : Cond.classLink jR3 9 jR9 ∈ gtbl := gt_of 83 (by decide +kernel) rfl
theorem d_Sh_init_8 : decode prog_10_method_1_code 8 = .ok (.dup, 1) := by decide +kernel
theorem d_Sh_init_9 : decode prog_10_method_1_code 9 = .ok (.iconst 3, 1) := by decide +kernel
theorem d_Sh_init_10 : decode prog_10_method_1_code 10 = .ok (.invokespecial 11, 3) := by decide +kernel
theorem ml_Sh_11 : Cond.methodLink jR3 11 y_Rw_init ∈ gtbl := gt_of 84 (by decide +kernel) rfl
theorem d_Sh_init_13 : decode prog_10_method_1_code 13 = .ok (.putfield 14, 3) := by decide +kernel
theorem fc_Sh_14 : Cond.fieldLink jR3 14 (jT3 2).1 (jT3 2).2.1 (jT3 2).2.2.1 ∈ gtbl := gt_of 108 (by decide +kernel) rfl
theorem d_Sh_init_16 : decode prog_10_method_1_code 16 = .ok (.aload_n 0, 1) := by decide +kernel
theorem d_Sh_init_17 : decode prog_10_method_1_code 17 = .ok (.new 9, 3) := by decide +kernel
theorem d_Sh_init_20 : decode prog_10_method_1_code 20 = .ok (.dup, 1) := by decide +kernel
theorem d_Sh_init_21 : decode prog_10_method_1_code 21 = .ok (.iconst 3, 1) := by decide +kernel
theorem d_Sh_init_22 : decode prog_10_method_1_code 22 = .ok (.invokespecial 11, 3) := by decide +kernel
theorem d_Sh_init_25 : decode prog_10_method_1_code 25 = .ok (.putfield 20, 3) := by decide +kernel
theorem fc_Sh_20 : Cond.fieldLink jR3 20 (jT3 3).1 (jT3 3).2.1 (jT3 3).2.2.1 ∈ gtbl := gt_of 109 (by decide +kernel) rfl
theorem d_Sh_init_28 : decode prog_10_method_1_code 28 = .ok (.aload_n 0, 1) := by decide +kernel
theorem d_Sh_init_29 : decode prog_10_method_1_code 29 = .ok (.new 9, 3) := by decide +kernel
theorem d_Sh_init_32 : decode prog_10_method_1_code 32 = .ok (.dup, 1) := by decide +kernel
theorem d_Sh_init_33 : decode prog_10_method_1_code 33 = .ok (.bipush 7, 2) := by decide +kernel
theorem d_Sh_init_35 : decode prog_10_method_1_code 35 = .ok (.invokespecial 11, 3) := by decide +kernel
theorem d_Sh_init_38 : decode prog_10_method_1_code 38 = .ok (.putfield 23, 3) := by decide +kernel
theorem fc_Sh_23 : Cond.fieldLink jR3 23 (jT3 4).1 (jT3 4).2.1 (jT3 4).2.2.1 ∈ gtbl := gt_of 110 (by decide +kernel) rfl
theorem d_Sh_init_41 : decode prog_10_method_1_code 41 = .ok (.aload_n 0, 1) := by decide +kernel
theorem d_Sh_init_42 : decode prog_10_method_1_code 42 = .ok (.new 9, 3) := by decide +kernel
theorem d_Sh_init_45 : decode prog_10_method_1_code 45 = .ok (.dup, 1) := by decide +kernel
theorem d_Sh_init_46 : decode prog_10_method_1_code 46 = .ok (.bipush 7, 2) := by decide +kernel
theorem d_Sh_init_48 : decode prog_10_method_1_code 48 = .ok (.invokespecial 11, 3) := by decide +kernel
theorem d_Sh_init_51 : decode prog_10_method_1_code 51 = .ok (.putfield 26, 3) := by decide +kernel
theorem fc_Sh_26 : Cond.fieldLink jR3 26 (jT3 5).1 (jT3 5).2.1 (jT3 5).2.2.1 ∈ gtbl := gt_of 111 (by decide +kernel) rfl
theorem d_Sh_init_54 : decode prog_10_method_1_code 54 = .ok (.aload_n 0, 1) := by decide +kernel
theorem d_Sh_init_55 : decode prog_10_method_1_code 55 = .ok (.new 9, 3) := by decide +kernel
theorem d_Sh_init_58 : decode prog_10_method_1_code 58 = .ok (.dup, 1) := by decide +kernel
theorem d_Sh_init_59 : decode prog_10_method_1_code 59 = .ok (.bipush 7, 2) := by decide +kernel
theorem d_Sh_init_61 : decode prog_10_method_1_code 61 = .ok (.invokespecial 11, 3) := by decide +kernel
theorem d_Sh_init_64 : decode prog_10_method_1_code 64 = .ok (.putfield 29, 3) := by decide +kernel
theorem fc_Sh_29 : Cond.fieldLink jR3 29 (jT3 6).1 (jT3 6).2.1 (jT3 6).2.2.1 ∈ gtbl := gt_of 112 (by decide +kernel) rfl
theorem d_Sh_init_67 : decode prog_10_method_1_code 67 = .ok (.aload_n 0, 1) := by decide +kernel
theorem d_Sh_init_68 : decode prog_10_method_1_code 68 = .ok (.new 9, 3) := by decide +kernel
theorem d_Sh_init_71 : decode prog_10_method_1_code 71 = .ok (.dup, 1) := by decide +kernel
theorem d_Sh_init_72 : decode prog_10_method_1_code 72 = .ok (.bipush 7, 2) := by decide +kernel
theorem d_Sh_init_74 : decode prog_10_method_1_code 74 = .ok (.invokespecial 11, 3) := by decide +kernel
theorem d_Sh_init_77 : decode prog_10_method_1_code 77 = .ok (.putfield 32, 3) := by decide +kernel
theorem fc_Sh_32 : Cond.fieldLink jR3 32 (jT3 7).1 (jT3 7).2.1 (jT3 7).2.2.1 ∈ gtbl := gt_of 113 (by decide +kernel) rfl
theorem d_Sh_init_80 : decode prog_10_method_1_code 80 = .ok (.aload_n 0, 1) := by decide +kernel
theorem d_Sh_init_81 : decode prog_10_method_1_code 81 = .ok (.new 9, 3) := by decide +kernel
theorem d_Sh_init_84 : decode prog_10_method_1_code 84 = .ok (.dup, 1) := by decide +kernel
theorem d_Sh_init_85 : decode prog_10_method_1_code 85 = .ok (.bipush 7, 2) := by decide +kernel
theorem d_Sh_init_87 : decode prog_10_method_1_code 87 = .ok (.invokespecial 11, 3) := by decide +kernel
theorem d_Sh_init_90 : decode prog_10_method_1_code 90 = .ok (.putfield 35, 3) := by decide +kernel
theorem fc_Sh_35 : Cond.fieldLink jR3 35 (jT3 8).1 (jT3 8).2.1 (jT3 8).2.2.1 ∈ gtbl := gt_of 114 (by decide +kernel) rfl
theorem d_Sh_init_93 : decode prog_10_method_1_code 93 = .ok (.aload_n 0, 1) := by decide +kernel
theorem d_Sh_init_94 : decode prog_10_method_1_code 94 = .ok (.new 9, 3) := by decide +kernel
theorem d_Sh_init_97 : decode prog_10_method_1_code 97 = .ok (.dup, 1) := by decide +kernel
theorem d_Sh_init_98 : decode prog_10_method_1_code 98 = .ok (.bipush 7, 2) := by decide +kernel
theorem d_Sh_init_100 : decode prog_10_method_1_code 100 = .ok (.invokespecial 11, 3) := by decide +kernel
theorem d_Sh_init_103 : decode prog_10_method_1_code 103 = .ok (.putfield 38, 3) := by decide +kernel
theorem fc_Sh_38 : Cond.fieldLink jR3 38 (jT3 9).1 (jT3 9).2.1 (jT3 9).2.2.1 ∈ gtbl := gt_of 115 (by decide +kernel) rfl
theorem d_Sh_init_106 : decode prog_10_method_1_code 106 = .ok (.aload_n 0, 1) := by decide +kernel
theorem d_Sh_init_107 : decode prog_10_method_1_code 107 = .ok (.new 41, 3) := by decide +kernel
theorem cl_Sh_41 : Cond.classLink jR3 41 jR4 ∈ gtbl := gt_of 85 (by decide +kernel) rfl
theorem d_Sh_init_110 : decode prog_10_method_1_code 110 = .ok (.dup, 1) := by decide +kernel
theorem d_Sh_init_111 : decode prog_10_method_1_code 111 = .ok (.invokespecial 43, 3) := by decide +kernel
theorem mn_Sh_43 : Cond.methodLinkNest jR3 43 y_Si_init "MistletoeCourt" ∈ lw_tbl := List.mem_of_getElem? (i := 87) (by decide +kernel)
theorem d_Sh_init_114 : decode prog_10_method_1_code 114 = .ok (.putfield 44, 3) := by decide +kernel
theorem fc_Sh_44 : Cond.fieldLink jR3 44 (jT3 10).1 (jT3 10).2.1 (jT3 10).2.2.1 ∈ gtbl := gt_of 116 (by decide +kernel) rfl
theorem d_Sh_init_117 : decode prog_10_method_1_code 117 = .ok (.return_, 1) := by decide +kernel
theorem mt_Si_init : Mt y_Si_init prog_11_method_1_code 1 none 0 := ⟨gt_of 89 (by decide +kernel) rfl, gt_of 14 (by decide +kernel) rfl, ⟨by decide +kernel, by decide +kernel⟩, by decide +kernel, by decide⟩
theorem ms_Si_init : Cond.instanceMethod y_Si_init ∈ gtbl := gt_of 88 (by decide +kernel) rfl
theorem d_Si_init_0 : decode prog_11_method_1_code 0 = .ok (.aload_n 0, 1) := by decide +kernel
theorem d_Si_init_1 : decode prog_11_method_1_code 1 = .ok (.invokespecial 3, 3) := by decide +kernel
theorem ml_Si_3 : Cond.methodLink jR4 3 Lib.objectInit ∈ gtbl := gt_of 90 (by decide +kernel) rfl
theorem d_Si_init_4 : decode prog_11_method_1_code 4 = .ok (.aload_n 0, 1) := by decide +kernel
theorem d_Si_init_5 : decode prog_11_method_1_code 5 = .ok (.new 9, 3) := by decide +kernel
theorem cl_Si_9 : Cond.classLink jR4 9 jR9 ∈ gtbl := gt_of 91 (by decide +kernel) rfl
theorem d_Si_init_8 : decode prog_11_method_1_code 8 = .ok (.dup, 1) := by decide +kernel
theorem d_Si_init_9 : decode prog_11_method_1_code 9 = .ok (.bipush 8, 2) := by decide +kernel
theorem d_Si_init_11 : decode prog_11_method_1_code 11 = .ok (.invokespecial 11, 3) := by decide +kernel
theorem ml_Si_11 : Cond.methodLink jR4 11 y_Rw_init ∈ gtbl := gt_of 92 (by decide +kernel) rfl
theorem d_Si_init_14 : decode prog_11_method_1_code 14 = .ok (.putfield 14, 3) := by decide +kernel
theorem fc_Si_14 : Cond.fieldLink jR4 14 (jT4 0).1 (jT4 0).2.1 (jT4 0).2.2.1 ∈ gtbl := gt_of 93 (by decide +kernel) rfl
theorem d_Si_init_17 : decode prog_11_method_1_code 17 = .ok (.aload_n 0, 1) := by decide +kernel
theorem d_Si_init_18 : decode prog_11_method_1_code 18 = .ok (.new 9, 3) := by decide +kernel
theorem d_Si_init_21 : decode prog_11_method_1_code 21 = .ok (.dup, 1) := by decide +kernel
theorem d_Si_init_22 : decode prog_11_method_1_code 22 = .ok (.bipush 8, 2) := by decide +kernel
theorem d_Si_init_24 : decode prog_11_method_1_code 24 = .ok (.invokespecial 11, 3) := by decide +kernel
theorem d_Si_init_27 : decode prog_11_method_1_code 27 = .ok (.putfield 20, 3) := by decide +kernel
theorem fc_Si_20 : Cond.fieldLink jR4 20 (jT4 1).1 (jT4 1).2.1 (jT4 1).2.2.1 ∈ gtbl := gt_of 94 (by decide +kernel) rfl
theorem d_Si_init_30 : decode prog_11_method_1_code 30 = .ok (.aload_n 0, 1) := by decide +kernel
theorem d_Si_init_31 : decode prog_11_method_1_code 31 = .ok (.new 9, 3) := by decide +kernel
theorem d_Si_init_34 : decode prog_11_method_1_code 34 = .ok (.dup, 1) := by decide +kernel
theorem d_Si_init_35 : decode prog_11_method_1_code 35 = .ok (.bipush 8, 2) := by decide +kernel
theorem d_Si_init_37 : decode prog_11_method_1_code 37 = .ok (.invokespecial 11, 3) := by decide +kernel
theorem d_Si_init_40 : decode prog_11_method_1_code 40 = .ok (.putfield 23, 3) := by decide +kernel
theorem fc_Si_23 : Cond.fieldLink jR4 23 (jT4 2).1 (jT4 2).2.1 (jT4 2).2.2.1 ∈ gtbl := gt_of 95 (by decide +kernel) rfl
theorem d_Si_init_43 : decode prog_11_method_1_code 43 = .ok (.return_, 1) := by decide +kernel
theorem mt_Gu_init : Mt y_Gu_init prog_5_method_1_code 2 none 1 := ⟨gt_of 153 (by decide +kernel) rfl, gt_of 15 (by decide +kernel) rfl, ⟨by decide +kernel, by decide +kernel⟩, by decide +kernel, by decide⟩
theorem ms_Gu_init : Cond.instanceMethod y_Gu_init ∈ gtbl := gt_of 152 (by decide +kernel) rfl
theorem d_Gu_init_0 : decode prog_5_method_1_code 0 = .ok (.aload_n 0, 1) := by decide +kernel
theorem d_Gu_init_1 : decode prog_5_method_1_code 1 = .ok (.invokespecial 3, 3) := by decide +kernel
theorem ml_Gu_3 : Cond.methodLink jR5 3 Lib.objectInit ∈ gtbl := gt_of 154 (by decide +kernel) rfl
theorem d_Gu_init_4 : decode prog_5_method_1_code 4 = .ok (.aload_n 0, 1) := by decide +kernel
theorem d_Gu_init_5 : decode prog_5_method_1_code 5 = .ok (.aload_n 1, 1) := by decide +kernel
theorem d_Gu_init_6 : decode prog_5_method_1_code 6 = .ok (.putfield 9, 3) := by decide +kernel
theorem fc_Gu_9 : Cond.fieldLink jR5 9 (jT5 0).1 (jT5 0).2.1 (jT5 0).2.2.1 ∈ gtbl := gt_of 155 (by decide +kernel) rfl
theorem d_Gu_init_9 : decode prog_5_method_1_code 9 = .ok (.return_, 1) := by decide +kernel
theorem mt_Pl_init : Mt y_Pl_init prog_7_method_1_code 2 none 1 := ⟨gt_of 163 (by decide +kernel) rfl, gt_of 16 (by decide +kernel) rfl, ⟨by decide +kernel, by decide +kernel⟩, by decide +kernel, by decide⟩
theorem ms_Pl_init : Cond.instanceMethod y_Pl_init ∈ gtbl := gt_of 162 (by decide +kernel) rfl
theorem d_Pl_init_0 : decode prog_7_method_1_code 0 = .ok (.aload_n 0, 1) := by decide +kernel
theorem d_Pl_init_1 : decode prog_7_method_1_code 1 = .ok (.invokespecial 3, 3) := by decide +kernel
theorem ml_Pl_3 : Cond.methodLink jR6 3 Lib.objectInit ∈ gtbl := gt_of 164 (by decide +kernel) rfl
theorem d_Pl_init_4 : decode prog_7_method_1_code 4 = .ok (.aload_n 0, 1) := by decide +kernel
theorem d_Pl_init_5 : decode prog_7_method_1_code 5 = .ok (.new 9, 3) := by decide +kernel
theorem cl_Pl_9 : Cond.classLink jR6 9 jR9 ∈ gtbl := gt_of 165 (by decide +kernel) rfl
theorem d_Pl_init_8 : decode prog_7_method_1_code 8 = .ok (.dup, 1) := by decide +kernel
theorem d_Pl_init_9 : decode prog_7_method_1_code 9 = .ok (.iconst 3, 1) := by decide +kernel
theorem d_Pl_init_10 : decode prog_7_method_1_code 10 = .ok (.invokespecial 11, 3) := by decide +kernel
theorem ml_Pl_11 : Cond.methodLink jR6 11 y_Rw_init ∈ gtbl := gt_of 166 (by decide +kernel) rfl
theorem d_Pl_init_13 : decode prog_7_method_1_code 13 = .ok (.putfield 14, 3) := by decide +kernel
theorem fc_Pl_14 : Cond.fieldLink jR6 14 (jT6 1).1 (jT6 1).2.1 (jT6 1).2.2.1 ∈ gtbl := gt_of 168 (by decide +kernel) rfl
theorem d_Pl_init_16 : decode prog_7_method_1_code 16 = .ok (.aload_n 0, 1) := by decide +kernel
theorem d_Pl_init_17 : decode prog_7_method_1_code 17 = .ok (.new 9, 3) := by decide +kernel
theorem d_Pl_init_20 : decode prog_7_method_1_code 20 = .ok (.dup, 1) := by decide +kernel
theorem d_Pl_init_21 : decode prog_7_method_1_code 21 = .ok (.bipush 7, 2) := by decide +kernel
theorem d_Pl_init_23 : decode prog_7_method_1_code 23 = .ok (.invokespecial 11, 3) := by decide +kernel
theorem d_Pl_init_26 : decode prog_7_method_1_code 26 = .ok (.putfield 20, 3) := by decide +kernel
theorem fc_Pl_20 : Cond.fieldLink jR6 20 (jT6 2).1 (jT6 2).2.1 (jT6 2).2.2.1 ∈ gtbl := gt_of 169 (by decide +kernel) rfl
theorem d_Pl_init_29 : decode prog_7_method_1_code 29 = .ok (.aload_n 0, 1) := by decide +kernel
theorem d_Pl_init_30 : decode prog_7_method_1_code 30 = .ok (.new 9, 3) := by decide +kernel
theorem d_Pl_init_33 : decode prog_7_method_1_code 33 = .ok (.dup, 1) := by decide +kernel
theorem d_Pl_init_34 : decode prog_7_method_1_code 34 = .ok (.bipush 7, 2) := by decide +kernel
theorem d_Pl_init_36 : decode prog_7_method_1_code 36 = .ok (.invokespecial 11, 3) := by decide +kernel
theorem d_Pl_init_39 : decode prog_7_method_1_code 39 = .ok (.putfield 23, 3) := by decide +kernel
theorem fc_Pl_23 : Cond.fieldLink jR6 23 (jT6 3).1 (jT6 3).2.1 (jT6 3).2.2.1 ∈ gtbl := gt_of 170 (by decide +kernel) rfl
theorem d_Pl_init_42 : decode prog_7_method_1_code 42 = .ok (.aload_n 0, 1) := by decide +kernel
theorem d_Pl_init_43 : decode prog_7_method_1_code 43 = .ok (.aload_n 1, 1) := by decide +kernel
theorem d_Pl_init_44 : decode prog_7_method_1_code 44 = .ok (.putfield 26, 3) := by decide +kernel
theorem fc_Pl_26 : Cond.fieldLink jR6 26 (jT6 0).1 (jT6 0).2.1 (jT6 0).2.2.1 ∈ gtbl := gt_of 167 (by decide +kernel) rfl
theorem d_Pl_init_47 : decode prog_7_method_1_code 47 = .ok (.return_, 1) := by decide +kernel
theorem mt_Cn_init : Mt y_Cn_init prog_3_method_1_code 2 none 1 := ⟨gt_of 188 (by decide +kernel) rfl, gt_of 17 (by decide +kernel) rfl, ⟨by decide +kernel, by decide +kernel⟩, by decide +kernel, by decide⟩
theorem ms_Cn_init : Cond.instanceMethod y_Cn_init ∈ gtbl := gt_of 187 (by decide +kernel) rfl
theorem d_Cn_init_0 : decode prog_3_method_1_code 0 = .ok (.aload_n 0, 1) := by decide +kernel
theorem d_Cn_init_1 : decode prog_3_method_1_code 1 = .ok (.invokespecial 3, 3) := by decide +kernel
theorem ml_Cn_3 : Cond.methodLink jR7 3 Lib.objectInit ∈ gtbl := gt_of 189 (by decide +kernel) rfl
theorem d_Cn_init_4 : decode prog_3_method_1_code 4 = .ok (.aload_n 0, 1) := by decide +kernel
theorem d_Cn_init_5 : decode prog_3_method_1_code 5 = .ok (.new 9, 3) := by decide +kernel
theorem cl_Cn_9 : Cond.classLink jR7 9 jR9 ∈ gtbl := gt_of 190 (by decide +kernel) rfl
theorem d_Cn_init_8 : decode prog_3_method_1_code 8 = .ok (.dup, 1) := by decide +kernel
theorem d_Cn_init_9 : decode prog_3_method_1_code 9 = .ok (.sipush 128, 3) := by decide +kernel
theorem d_Cn_init_12 : decode prog_3_method_1_code 12 = .ok (.invokespecial 11, 3) := by decide +kernel
theorem ml_Cn_11 : Cond.methodLink jR7 11 y_Rw_init ∈ gtbl := gt_of 191 (by decide +kernel) rfl
theorem d_Cn_init_15 : decode prog_3_method_1_code 15 = .ok (.putfield 14, 3) := by decide +kernel
theorem fc_Cn_14 : Cond.fieldLink jR7 14 (jT7 1).1 (jT7 1).2.1 (jT7 1).2.2.1 ∈ gtbl := gt_of 193 (by decide +kernel) rfl
theorem d_Cn_init_18 : decode prog_3_method_1_code 18 = .ok (.aload_n 0, 1) := by decide +kernel
theorem d_Cn_init_19 : decode prog_3_method_1_code 19 = .ok (.new 9, 3) := by decide +kernel
theorem d_Cn_init_22 : decode prog_3_method_1_code 22 = .ok (.dup, 1) := by decide +kernel
theorem d_Cn_init_23 : decode prog_3_method_1_code 23 = .ok (.bipush 7, 2) := by decide +kernel
theorem d_Cn_init_25 : decode prog_3_method_1_code 25 = .ok (.invokespecial 11, 3) := by decide +kernel
theorem d_Cn_init_28 : decode prog_3_method_1_code 28 = .ok (.putfield 20, 3) := by decide +kernel
theorem fc_Cn_20 : Cond.fieldLink jR7 20 (jT7 2).1 (jT7 2).2.1 (jT7 2).2.2.1 ∈ gtbl := gt_of 194 (by decide +kernel) rfl
theorem d_Cn_init_31 : decode prog_3_method_1_code 31 = .ok (.aload_n 0, 1) := by decide +kernel
theorem d_Cn_init_32 : decode prog_3_method_1_code 32 = .ok (.aload_n 1, 1) := by decide +kernel
theorem d_Cn_init_33 : decode prog_3_method_1_code 33 = .ok (.putfield 23, 3) := by decide +kernel
theorem fc_Cn_23 : Cond.fieldLink jR7 23 (jT7 0).1 (jT7 0).2.1 (jT7 0).2.2.1 ∈ gtbl := gt_of 192 (by decide +kernel) rfl
theorem d_Cn_init_36 : decode prog_3_method_1_code 36 = .ok (.return_, 1) := by decide +kernel
theorem mt_Fo_init : Mt y_Fo_init prog_4_method_1_code 2 none 1 := ⟨gt_of 210 (by decide +kernel) rfl, gt_of 18 (by decide +kernel) rfl, ⟨by decide +kernel, by decide +kernel⟩, by decide +kernel, by decide⟩
theorem ms_Fo_init : Cond.instanceMethod y_Fo_init ∈ gtbl := gt_of 209 (by decide +kernel) rfl
theorem d_Fo_init_0 : decode prog_4_method_1_code 0 = .ok (.aload_n 0, 1) := by decide +kernel
theorem d_Fo_init_1 : decode prog_4_method_1_code 1 = .ok (.invokespecial 1, 3) := by decide +kernel
theorem ml_Fo_1 : Cond.methodLink jR8 1 Lib.objectInit ∈ gtbl := gt_of 211 (by decide +kernel) rfl
theorem d_Fo_init_4 : decode prog_4_method_1_code 4 = .ok (.aload_n 0, 1) := by decide +kernel
theorem d_Fo_init_5 : decode prog_4_method_1_code 5 = .ok (.new 7, 3) := by decide +kernel
theorem cl_Fo_7 : Cond.classLink jR8 7 jR3 ∈ gtbl := gt_of 212 (by decide +kernel) rfl
theorem d_Fo_init_8 : decode prog_4_method_1_code 8 = .ok (.dup, 1) := by decide +kernel
theorem d_Fo_init_9 : decode prog_4_method_1_code 9 = .ok (.invokespecial 9, 3) := by decide +kernel
theorem mn_Fo_9 : Cond.methodLinkNest jR8 9 y_Sh_init "MistletoeCourt" ∈ lw_tbl := List.mem_of_getElem? (i := 213) (by decide +kernel)
theorem d_Fo_init_12 : decode prog_4_method_1_code 12 = .ok (.putfield 10, 3) := by decide +kernel
theorem fc_Fo_10 : Cond.fieldLink jR8 10 (jT8 1).1 (jT8 1).2.1 (jT8 1).2.2.1 ∈ gtbl := gt_of 215 (by decide +kernel) rfl
theorem d_Fo_init_15 : decode prog_4_method_1_code 15 = .ok (.aload_n 0, 1) := by decide +kernel
theorem d_Fo_init_16 : decode prog_4_method_1_code 16 = .ok (.aload_n 1, 1) := by decide +kernel
theorem d_Fo_init_17 : decode prog_4_method_1_code 17 = .ok (.putfield 16, 3) := by decide +kernel
theorem fc_Fo_16 : Cond.fieldLink jR8 16 (jT8 0).1 (jT8 0).2.1 (jT8 0).2.2.1 ∈ gtbl := gt_of 214 (by decide +kernel) rfl
theorem d_Fo_init_20 : decode prog_4_method_1_code 20 = .ok (.return_, 1) := by decide +kernel
theorem mt_Rw_init : Mt y_Rw_init prog_9_method_1_code 2 none 1 := ⟨gt_of 44 (by decide +kernel) rfl, gt_of 11 (by decide +kernel) rfl, ⟨by decide +kernel, by decide +kernel⟩, by decide +kernel, by decide⟩
theorem ms_Rw_init : Cond.instanceMethod y_Rw_init ∈ gtbl := gt_of 43 (by decide +kernel) rfl
theorem d_Rw_init_0 : decode prog_9_method_1_code 0 = .ok (.aload_n 0, 1) := by decide +kernel
theorem d_Rw_init_1 : decode prog_9_method_1_code 1 = .ok (.invokespecial 1, 3) := by decide +kernel
theorem ml_Rw_1 : Cond.methodLink jR9 1 Lib.objectInit ∈ gtbl := gt_of 45 (by decide +kernel) rfl
theorem d_Rw_init_4 : decode prog_9_method_1_code 4 = .ok (.aload_n 0, 1) := by decide +kernel
theorem d_Rw_init_5 : decode prog_9_method_1_code 5 = .ok (.iload_n 1, 1) := by decide +kernel
theorem d_Rw_init_6 : decode prog_9_method_1_code 6 = .ok (.ifCond .ge 7, 3) := by decide +kernel
theorem d_Rw_init_9 : decode prog_9_method_1_code 9 = .ok (.iconst 0, 1) := by decide +kernel
theorem d_Rw_init_10 : decode prog_9_method_1_code 10 = .ok (.goto 4, 3) := by decide +kernel
theorem d_Rw_init_13 : decode prog_9_method_1_code 13 = .ok (.iload_n 1, 1) := by decide +kernel
theorem d_Rw_init_14 : decode prog_9_method_1_code 14 = .ok (.newarray .int, 2) := by decide +kernel
theorem d_Rw_init_16 : decode prog_9_method_1_code 16 = .ok (.putfield 7, 3) := by decide +kernel
theorem fc_Rw_7 : Cond.fieldLink jR9 7 (jT9 0).1 (jT9 0).2.1 (jT9 0).2.2.1 ∈ gtbl := gt_of 46 (by decide +kernel) rfl
theorem d_Rw_init_19 : decode prog_9_method_1_code 19 = .ok (.return_, 1) := by decide +kernel
theorem in_0 : Cond.instantiable jR0 11 ∈ gtbl := gt_of 27 (by decide +kernel) rfl
theorem iz_0 : Cond.initialized jR0 ∈ gtbl := gt_of 9 (by decide +kernel) rfl
theorem df_0 : ∀ j, j < 11 → defaultValue (jt0 j) = (if jv_ty 0 j = 0 then .int 0 else if jv_ty 0 j = 1 then .null else .long 0) := by decide +kernel
theorem in_1 : Cond.instantiable jR1 2 ∈ gtbl := gt_of 35 (by decide +kernel) rfl
theorem iz_1 : Cond.initialized jR1 ∈ gtbl := gt_of 10 (by decide +kernel) rfl
theorem df_1 : ∀ j, j < 2 → defaultValue (jt1 j) = (if jv_ty 1 j = 0 then .int 0 else if jv_ty 1 j = 1 then .null else .long 0) := by decide +kernel
theorem in_2 : Cond.instantiable jR2 4 ∈ gtbl := gt_of 59 (by decide +kernel) rfl
theorem iz_2 : Cond.initialized jR2 ∈ gtbl := gt_of 12 (by decide +kernel) rfl
theorem df_2 : ∀ j, j < 4 → defaultValue (jt2 j) = (if jv_ty 2 j = 0 then .int 0 else if jv_ty 2 j = 1 then .null else .long 0) := by decide +kernel
theorem in_3 : Cond.instantiable jR3 14 ∈ gtbl := gt_of 78 (by decide +kernel) rfl
theorem iz_3 : Cond.initialized jR3 ∈ gtbl := gt_of 13 (by decide +kernel) rfl
theorem df_3 : ∀ j, j < 14 → defaultValue (jt3 j) = (if jv_ty 3 j = 0 then .int 0 else if jv_ty 3 j = 1 then .null else .long 0) := by decide +kernel
theorem in_4 : Cond.instantiable jR4 4 ∈ gtbl := gt_of 86 (by decide +kernel) rfl
theorem iz_4 : Cond.initialized jR4 ∈ gtbl := gt_of 14 (by decide +kernel) rfl
theorem df_4 : ∀ j, j < 4 → defaultValue (jt4 j) = (if jv_ty 4 j = 0 then .int 0 else if jv_ty 4 j = 1 then .null else .long 0) := by decide +kernel
theorem in_5 : Cond.instantiable jR5 1 ∈ gtbl := gt_of 150 (by decide +kernel) rfl
theorem iz_5 : Cond.initialized jR5 ∈ gtbl := gt_of 15 (by decide +kernel) rfl
theorem df_5 : ∀ j, j < 1 → defaultValue (jt5 j) = (if jv_ty 5 j = 0 then .int 0 else if jv_ty 5 j = 1 then .null else .long 0) := by decide +kernel
theorem in_6 : Cond.instantiable jR6 6 ∈ gtbl := gt_of 160 (by decide +kernel) rfl
theorem iz_6 : Cond.initialized jR6 ∈ gtbl := gt_of 16 (by decide +kernel) rfl
theorem df_6 : ∀ j, j < 6 → defaultValue (jt6 j) = (if jv_ty 6 j = 0 then .int 0 else if jv_ty 6 j = 1 then .null else .long 0) := by decide +kernel
theorem in_7 : Cond.instantiable jR7 5 ∈ gtbl := gt_of 185 (by decide +kernel) rfl
theorem iz_7 : Cond.initialized jR7 ∈ gtbl := gt_of 17 (by decide +kernel) rfl
theorem df_7 : ∀ j, j < 5 → defaultValue (jt7 j) = (if jv_ty 7 j = 0 then .int 0 else if jv_ty 7 j = 1 then .null else .long 0) := by decide +kernel
theorem in_8 : Cond.instantiable jR8 3 ∈ gtbl := gt_of 207 (by decide +kernel) rfl
theorem iz_8 : Cond.initialized jR8 ∈ gtbl := gt_of 18 (by decide +kernel) rfl
theorem df_8 : ∀ j, j < 3 → defaultValue (jt8 j) = (if jv_ty 8 j = 0 then .int 0 else if jv_ty 8 j = 1 then .null else .long 0) := by decide +kernel
theorem in_9 : Cond.instantiable jR9 1 ∈ gtbl := gt_of 41 (by decide +kernel) rfl
theorem iz_9 : Cond.initialized jR9 ∈ gtbl := gt_of 11 (by decide +kernel) rfl
theorem df_9 : ∀ j, j < 1 → defaultValue (jt9 j) = (if jv_ty 9 j = 0 then .int 0 else if jv_ty 9 j = 1 then .null else .long 0) := by decide +kernel
theorem oi_i : Cond.instanceMethod Lib.objectInit ∈ gtbl := gt_of 32 (by decide +kernel) rfl
theorem oi_c : Cond.code Lib.objectInit ⟨#[0xb1]⟩ 1 none ∈ gtbl := gt_of 33 (by decide +kernel) rfl
theorem ac_i : Cond.arrayClass (newarray.typeOf .int) ∈ gtbl := gt_of 50 (by decide +kernel) rfl
theorem ac_b : Cond.arrayClass (newarray.typeOf .byte) ∈ gtbl := gt_of 685 (by decide +kernel) rfl
