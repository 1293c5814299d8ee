/-! DECODE ROWS (by program) -/
theorem d_M_init_0 : decode b_M_init 0 = .ok (.aload_n 0, 1) := by decide +kernel
theorem d_M_init_1 : decode b_M_init 1 = .ok (.invokespecial 1, 3) := by decide +kernel
theorem d_M_init_4 : decode b_M_init 4 = .ok (.aload_n 0, 1) := by decide +kernel
theorem d_M_init_5 : decode b_M_init 5 = .ok (.bipush 16, 2) := by decide +kernel
theorem d_M_init_7 : decode b_M_init 7 = .ok (.newarray .long, 2) := by decide +kernel
theorem d_M_init_9 : decode b_M_init 9 = .ok (.putfield 7, 3) := by decide +kernel
theorem d_M_init_12 : decode b_M_init 12 = .ok (.aload_n 0, 1) := by decide +kernel
theorem d_M_init_13 : decode b_M_init 13 = .ok (.bipush 16, 2) := by decide +kernel
theorem d_M_init_15 : decode b_M_init 15 = .ok (.newarray .long, 2) := by decide +kernel
theorem d_M_init_17 : decode b_M_init 17 = .ok (.putfield 13, 3) := by decide +kernel
theorem d_M_init_20 : decode b_M_init 20 = .ok (.aload_n 0, 1) := by decide +kernel
theorem d_M_init_21 : decode b_M_init 21 = .ok (.bipush 16, 2) := by decide +kernel
theorem d_M_init_23 : decode b_M_init 23 = .ok (.newarray .long, 2) := by decide +kernel
theorem d_M_init_25 : decode b_M_init 25 = .ok (.putfield 16, 3) := by decide +kernel
theorem d_M_init_28 : decode b_M_init 28 = .ok (.aload_n 0, 1) := by decide +kernel
theorem d_M_init_29 : decode b_M_init 29 = .ok (.bipush 16, 2) := by decide +kernel
theorem d_M_init_31 : decode b_M_init 31 = .ok (.newarray .boolean, 2) := by decide +kernel
theorem d_M_init_33 : decode b_M_init 33 = .ok (.putfield 19, 3) := by decide +kernel
theorem d_M_init_36 : decode b_M_init 36 = .ok (.aload_n 0, 1) := by decide +kernel
theorem d_M_init_37 : decode b_M_init 37 = .ok (.bipush 16, 2) := by decide +kernel
theorem d_M_init_39 : decode b_M_init 39 = .ok (.newarray .boolean, 2) := by decide +kernel
theorem d_M_init_41 : decode b_M_init 41 = .ok (.putfield 23, 3) := by decide +kernel
theorem d_M_init_44 : decode b_M_init 44 = .ok (.aload_n 0, 1) := by decide +kernel
theorem d_M_init_45 : decode b_M_init 45 = .ok (.bipush 16, 2) := by decide +kernel
theorem d_M_init_47 : decode b_M_init 47 = .ok (.newarray .int, 2) := by decide +kernel
theorem d_M_init_49 : decode b_M_init 49 = .ok (.putfield 26, 3) := by decide +kernel
theorem d_M_init_52 : decode b_M_init 52 = .ok (.aload_n 0, 1) := by decide +kernel
theorem d_M_init_53 : decode b_M_init 53 = .ok (.bipush 16, 2) := by decide +kernel
theorem d_M_init_55 : decode b_M_init 55 = .ok (.newarray .int, 2) := by decide +kernel
theorem d_M_init_57 : decode b_M_init 57 = .ok (.putfield 30, 3) := by decide +kernel
theorem d_M_init_60 : decode b_M_init 60 = .ok (.aload_n 0, 1) := by decide +kernel
theorem d_M_init_61 : decode b_M_init 61 = .ok (.bipush 96, 2) := by decide +kernel
theorem d_M_init_63 : decode b_M_init 63 = .ok (.newarray .int, 2) := by decide +kernel
theorem d_M_init_65 : decode b_M_init 65 = .ok (.putfield 33, 3) := by decide +kernel
theorem d_M_init_68 : decode b_M_init 68 = .ok (.aload_n 0, 1) := by decide +kernel
theorem d_M_init_69 : decode b_M_init 69 = .ok (.bipush 96, 2) := by decide +kernel
theorem d_M_init_71 : decode b_M_init 71 = .ok (.newarray .int, 2) := by decide +kernel
theorem d_M_init_73 : decode b_M_init 73 = .ok (.putfield 36, 3) := by decide +kernel
theorem d_M_init_76 : decode b_M_init 76 = .ok (.aload_n 0, 1) := by decide +kernel
theorem d_M_init_77 : decode b_M_init 77 = .ok (.bipush 16, 2) := by decide +kernel
theorem d_M_init_79 : decode b_M_init 79 = .ok (.newarray .int, 2) := by decide +kernel
theorem d_M_init_81 : decode b_M_init 81 = .ok (.putfield 39, 3) := by decide +kernel
theorem d_M_init_84 : decode b_M_init 84 = .ok (.aload_n 0, 1) := by decide +kernel
theorem d_M_init_85 : decode b_M_init 85 = .ok (.bipush 64, 2) := by decide +kernel
theorem d_M_init_87 : decode b_M_init 87 = .ok (.newarray .int, 2) := by decide +kernel
theorem d_M_init_89 : decode b_M_init 89 = .ok (.putfield 42, 3) := by decide +kernel
theorem d_M_init_92 : decode b_M_init 92 = .ok (.aload_n 0, 1) := by decide +kernel
theorem d_M_init_93 : decode b_M_init 93 = .ok (.bipush 64, 2) := by decide +kernel
theorem d_M_init_95 : decode b_M_init 95 = .ok (.newarray .long, 2) := by decide +kernel
theorem d_M_init_97 : decode b_M_init 97 = .ok (.putfield 45, 3) := by decide +kernel
theorem d_M_init_100 : decode b_M_init 100 = .ok (.aload_n 0, 1) := by decide +kernel
theorem d_M_init_101 : decode b_M_init 101 = .ok (.sipush 384, 3) := by decide +kernel
theorem d_M_init_104 : decode b_M_init 104 = .ok (.newarray .long, 2) := by decide +kernel
theorem d_M_init_106 : decode b_M_init 106 = .ok (.putfield 48, 3) := by decide +kernel
theorem d_M_init_109 : decode b_M_init 109 = .ok (.aload_n 0, 1) := by decide +kernel
theorem d_M_init_110 : decode b_M_init 110 = .ok (.sipush 384, 3) := by decide +kernel
theorem d_M_init_113 : decode b_M_init 113 = .ok (.newarray .boolean, 2) := by decide +kernel
theorem d_M_init_115 : decode b_M_init 115 = .ok (.putfield 51, 3) := by decide +kernel
theorem d_M_init_118 : decode b_M_init 118 = .ok (.aload_n 0, 1) := by decide +kernel
theorem d_M_init_119 : decode b_M_init 119 = .ok (.bipush 16, 2) := by decide +kernel
theorem d_M_init_121 : decode b_M_init 121 = .ok (.newarray .int, 2) := by decide +kernel
theorem d_M_init_123 : decode b_M_init 123 = .ok (.putfield 54, 3) := by decide +kernel
theorem d_M_init_126 : decode b_M_init 126 = .ok (.aload_n 0, 1) := by decide +kernel
theorem d_M_init_127 : decode b_M_init 127 = .ok (.bipush 16, 2) := by decide +kernel
theorem d_M_init_129 : decode b_M_init 129 = .ok (.newarray .int, 2) := by decide +kernel
theorem d_M_init_131 : decode b_M_init 131 = .ok (.putfield 57, 3) := by decide +kernel
theorem d_M_init_134 : decode b_M_init 134 = .ok (.aload_n 0, 1) := by decide +kernel
theorem d_M_init_135 : decode b_M_init 135 = .ok (.iconst 5, 1) := by decide +kernel
theorem d_M_init_136 : decode b_M_init 136 = .ok (.newarray .int, 2) := by decide +kernel
theorem d_M_init_138 : decode b_M_init 138 = .ok (.putfield 60, 3) := by decide +kernel
theorem d_M_init_141 : decode b_M_init 141 = .ok (.aload_n 0, 1) := by decide +kernel
theorem d_M_init_142 : decode b_M_init 142 = .ok (.iconst 4, 1) := by decide +kernel
theorem d_M_init_143 : decode b_M_init 143 = .ok (.newarray .int, 2) := by decide +kernel
theorem d_M_init_145 : decode b_M_init 145 = .ok (.putfield 63, 3) := by decide +kernel
theorem d_M_init_148 : decode b_M_init 148 = .ok (.aload_n 0, 1) := by decide +kernel
theorem d_M_init_149 : decode b_M_init 149 = .ok (.bipush 16, 2) := by decide +kernel
theorem d_M_init_151 : decode b_M_init 151 = .ok (.newarray .boolean, 2) := by decide +kernel
theorem d_M_init_153 : decode b_M_init 153 = .ok (.putfield 66, 3) := by decide +kernel
theorem d_M_init_156 : decode b_M_init 156 = .ok (.aload_n 0, 1) := by decide +kernel
theorem d_M_init_157 : decode b_M_init 157 = .ok (.bipush 16, 2) := by decide +kernel
theorem d_M_init_159 : decode b_M_init 159 = .ok (.newarray .boolean, 2) := by decide +kernel
theorem d_M_init_161 : decode b_M_init 161 = .ok (.putfield 69, 3) := by decide +kernel
theorem d_M_init_164 : decode b_M_init 164 = .ok (.return_, 1) := by decide +kernel
theorem d_M_thrown_0 : decode b_M_thrown 0 = .ok (.aload_n 0, 1) := by decide +kernel
theorem d_M_thrown_1 : decode b_M_thrown 1 = .ok (.getfield 72, 3) := by decide +kernel
theorem d_M_thrown_4 : decode b_M_thrown 4 = .ok (.ireturn, 1) := by decide +kernel
theorem d_M_isFile_0 : decode b_M_isFile 0 = .ok (.iload_n 1, 1) := by decide +kernel
theorem d_M_isFile_1 : decode b_M_isFile 1 = .ok (.ifCond .lt 15, 3) := by decide +kernel
theorem d_M_isFile_4 : decode b_M_isFile 4 = .ok (.iload_n 1, 1) := by decide +kernel
theorem d_M_isFile_5 : decode b_M_isFile 5 = .ok (.aload_n 0, 1) := by decide +kernel
theorem d_M_isFile_6 : decode b_M_isFile 6 = .ok (.getfield 76, 3) := by decide +kernel
theorem d_M_isFile_9 : decode b_M_isFile 9 = .ok (.if_icmp .ge 7, 3) := by decide +kernel
theorem d_M_isFile_12 : decode b_M_isFile 12 = .ok (.iconst 1, 1) := by decide +kernel
theorem d_M_isFile_13 : decode b_M_isFile 13 = .ok (.goto 4, 3) := by decide +kernel
theorem d_M_isFile_16 : decode b_M_isFile 16 = .ok (.iconst 0, 1) := by decide +kernel
theorem d_M_isFile_17 : decode b_M_isFile 17 = .ok (.ireturn, 1) := by decide +kernel
theorem d_M_isStep_0 : decode b_M_isStep 0 = .ok (.iload_n 1, 1) := by decide +kernel
theorem d_M_isStep_1 : decode b_M_isStep 1 = .ok (.ifCond .lt 15, 3) := by decide +kernel
theorem d_M_isStep_4 : decode b_M_isStep 4 = .ok (.iload_n 1, 1) := by decide +kernel
theorem d_M_isStep_5 : decode b_M_isStep 5 = .ok (.aload_n 0, 1) := by decide +kernel
theorem d_M_isStep_6 : decode b_M_isStep 6 = .ok (.getfield 79, 3) := by decide +kernel
theorem d_M_isStep_9 : decode b_M_isStep 9 = .ok (.if_icmp .ge 7, 3) := by decide +kernel
theorem d_M_isStep_12 : decode b_M_isStep 12 = .ok (.iconst 1, 1) := by decide +kernel
theorem d_M_isStep_13 : decode b_M_isStep 13 = .ok (.goto 4, 3) := by decide +kernel
theorem d_M_isStep_16 : decode b_M_isStep 16 = .ok (.iconst 0, 1) := by decide +kernel
theorem d_M_isStep_17 : decode b_M_isStep 17 = .ok (.ireturn, 1) := by decide +kernel
theorem d_M_file_0 : decode b_M_file 0 = .ok (.aload_n 0, 1) := by decide +kernel
theorem d_M_file_1 : decode b_M_file 1 = .ok (.iconst 0, 1) := by decide +kernel
theorem d_M_file_2 : decode b_M_file 2 = .ok (.putfield 72, 3) := by decide +kernel
theorem d_M_file_5 : decode b_M_file 5 = .ok (.aload_n 0, 1) := by decide +kernel
theorem d_M_file_6 : decode b_M_file 6 = .ok (.getfield 76, 3) := by decide +kernel
theorem d_M_file_9 : decode b_M_file 9 = .ok (.bipush 16, 2) := by decide +kernel
theorem d_M_file_11 : decode b_M_file 11 = .ok (.if_icmp .ne 5, 3) := by decide +kernel
theorem d_M_file_14 : decode b_M_file 14 = .ok (.iconst (-1), 1) := by decide +kernel
theorem d_M_file_15 : decode b_M_file 15 = .ok (.ireturn, 1) := by decide +kernel
theorem d_M_file_16 : decode b_M_file 16 = .ok (.aload_n 0, 1) := by decide +kernel
theorem d_M_file_17 : decode b_M_file 17 = .ok (.getfield 7, 3) := by decide +kernel
theorem d_M_file_20 : decode b_M_file 20 = .ok (.aload_n 0, 1) := by decide +kernel
theorem d_M_file_21 : decode b_M_file 21 = .ok (.getfield 76, 3) := by decide +kernel
theorem d_M_file_24 : decode b_M_file 24 = .ok (.lload_n 1, 1) := by decide +kernel
theorem d_M_file_25 : decode b_M_file 25 = .ok (.lastore, 1) := by decide +kernel
theorem d_M_file_26 : decode b_M_file 26 = .ok (.aload_n 0, 1) := by decide +kernel
theorem d_M_file_27 : decode b_M_file 27 = .ok (.getfield 19, 3) := by decide +kernel
theorem d_M_file_30 : decode b_M_file 30 = .ok (.aload_n 0, 1) := by decide +kernel
theorem d_M_file_31 : decode b_M_file 31 = .ok (.getfield 76, 3) := by decide +kernel
theorem d_M_file_34 : decode b_M_file 34 = .ok (.iconst 1, 1) := by decide +kernel
theorem d_M_file_35 : decode b_M_file 35 = .ok (.bastore, 1) := by decide +kernel
theorem d_M_file_36 : decode b_M_file 36 = .ok (.aload_n 0, 1) := by decide +kernel
theorem d_M_file_37 : decode b_M_file 37 = .ok (.dup, 1) := by decide +kernel
theorem d_M_file_38 : decode b_M_file 38 = .ok (.getfield 76, 3) := by decide +kernel
theorem d_M_file_41 : decode b_M_file 41 = .ok (.iconst 1, 1) := by decide +kernel
theorem d_M_file_42 : decode b_M_file 42 = .ok (.iadd, 1) := by decide +kernel
theorem d_M_file_43 : decode b_M_file 43 = .ok (.putfield 76, 3) := by decide +kernel
theorem d_M_file_46 : decode b_M_file 46 = .ok (.aload_n 0, 1) := by decide +kernel
theorem d_M_file_47 : decode b_M_file 47 = .ok (.getfield 76, 3) := by decide +kernel
theorem d_M_file_50 : decode b_M_file 50 = .ok (.iconst 1, 1) := by decide +kernel
theorem d_M_file_51 : decode b_M_file 51 = .ok (.isub, 1) := by decide +kernel
theorem d_M_file_52 : decode b_M_file 52 = .ok (.ireturn, 1) := by decide +kernel
theorem d_M_set_0 : decode b_M_set 0 = .ok (.aload_n 0, 1) := by decide +kernel
theorem d_M_set_1 : decode b_M_set 1 = .ok (.iconst 0, 1) := by decide +kernel
theorem d_M_set_2 : decode b_M_set 2 = .ok (.putfield 72, 3) := by decide +kernel
theorem d_M_set_5 : decode b_M_set 5 = .ok (.aload_n 0, 1) := by decide +kernel
theorem d_M_set_6 : decode b_M_set 6 = .ok (.iload_n 1, 1) := by decide +kernel
theorem d_M_set_7 : decode b_M_set 7 = .ok (.invokevirtual 82, 3) := by decide +kernel
theorem d_M_set_10 : decode b_M_set 10 = .ok (.ifCond .ne 5, 3) := by decide +kernel
theorem d_M_set_13 : decode b_M_set 13 = .ok (.iconst 0, 1) := by decide +kernel
theorem d_M_set_14 : decode b_M_set 14 = .ok (.ireturn, 1) := by decide +kernel
theorem d_M_set_15 : decode b_M_set 15 = .ok (.aload_n 0, 1) := by decide +kernel
theorem d_M_set_16 : decode b_M_set 16 = .ok (.getfield 19, 3) := by decide +kernel
theorem d_M_set_19 : decode b_M_set 19 = .ok (.iload_n 1, 1) := by decide +kernel
theorem d_M_set_20 : decode b_M_set 20 = .ok (.iload_n 2, 1) := by decide +kernel
theorem d_M_set_21 : decode b_M_set 21 = .ok (.bastore, 1) := by decide +kernel
theorem d_M_set_22 : decode b_M_set 22 = .ok (.aload_n 0, 1) := by decide +kernel
theorem d_M_set_23 : decode b_M_set 23 = .ok (.getfield 7, 3) := by decide +kernel
theorem d_M_set_26 : decode b_M_set 26 = .ok (.iload_n 1, 1) := by decide +kernel
theorem d_M_set_27 : decode b_M_set 27 = .ok (.iload_n 2, 1) := by decide +kernel
theorem d_M_set_28 : decode b_M_set 28 = .ok (.ifCond .eq 7, 3) := by decide +kernel
theorem d_M_set_31 : decode b_M_set 31 = .ok (.lload_n 3, 1) := by decide +kernel
theorem d_M_set_32 : decode b_M_set 32 = .ok (.goto 4, 3) := by decide +kernel
theorem d_M_set_35 : decode b_M_set 35 = .ok (.lconst 0, 1) := by decide +kernel
theorem d_M_set_36 : decode b_M_set 36 = .ok (.lastore, 1) := by decide +kernel
theorem d_M_set_37 : decode b_M_set 37 = .ok (.iconst 1, 1) := by decide +kernel
theorem d_M_set_38 : decode b_M_set 38 = .ok (.ireturn, 1) := by decide +kernel
theorem d_M_touch_0 : decode b_M_touch 0 = .ok (.aload_n 0, 1) := by decide +kernel
theorem d_M_touch_1 : decode b_M_touch 1 = .ok (.iconst 0, 1) := by decide +kernel
theorem d_M_touch_2 : decode b_M_touch 2 = .ok (.putfield 72, 3) := by decide +kernel
theorem d_M_touch_5 : decode b_M_touch 5 = .ok (.aload_n 0, 1) := by decide +kernel
theorem d_M_touch_6 : decode b_M_touch 6 = .ok (.iload_n 1, 1) := by decide +kernel
theorem d_M_touch_7 : decode b_M_touch 7 = .ok (.invokevirtual 82, 3) := by decide +kernel
theorem d_M_touch_10 : decode b_M_touch 10 = .ok (.ifCond .ne 5, 3) := by decide +kernel
theorem d_M_touch_13 : decode b_M_touch 13 = .ok (.iconst (-1), 1) := by decide +kernel
theorem d_M_touch_14 : decode b_M_touch 14 = .ok (.ireturn, 1) := by decide +kernel
theorem d_M_touch_15 : decode b_M_touch 15 = .ok (.aload_n 0, 1) := by decide +kernel
theorem d_M_touch_16 : decode b_M_touch 16 = .ok (.getfield 26, 3) := by decide +kernel
theorem d_M_touch_19 : decode b_M_touch 19 = .ok (.iload_n 1, 1) := by decide +kernel
theorem d_M_touch_20 : decode b_M_touch 20 = .ok (.dup2, 1) := by decide +kernel
theorem d_M_touch_21 : decode b_M_touch 21 = .ok (.iaload, 1) := by decide +kernel
theorem d_M_touch_22 : decode b_M_touch 22 = .ok (.iconst 1, 1) := by decide +kernel
theorem d_M_touch_23 : decode b_M_touch 23 = .ok (.iadd, 1) := by decide +kernel
theorem d_M_touch_24 : decode b_M_touch 24 = .ok (.iastore, 1) := by decide +kernel
theorem d_M_touch_25 : decode b_M_touch 25 = .ok (.aload_n 0, 1) := by decide +kernel
theorem d_M_touch_26 : decode b_M_touch 26 = .ok (.getfield 26, 3) := by decide +kernel
theorem d_M_touch_29 : decode b_M_touch 29 = .ok (.iload_n 1, 1) := by decide +kernel
theorem d_M_touch_30 : decode b_M_touch 30 = .ok (.iaload, 1) := by decide +kernel
theorem d_M_touch_31 : decode b_M_touch 31 = .ok (.ireturn, 1) := by decide +kernel
theorem d_M_step_0 : decode b_M_step 0 = .ok (.aload_n 0, 1) := by decide +kernel
theorem d_M_step_1 : decode b_M_step 1 = .ok (.iconst 0, 1) := by decide +kernel
theorem d_M_step_2 : decode b_M_step 2 = .ok (.putfield 72, 3) := by decide +kernel
theorem d_M_step_5 : decode b_M_step 5 = .ok (.aload_n 0, 1) := by decide +kernel
theorem d_M_step_6 : decode b_M_step 6 = .ok (.getfield 79, 3) := by decide +kernel
theorem d_M_step_9 : decode b_M_step 9 = .ok (.bipush 16, 2) := by decide +kernel
theorem d_M_step_11 : decode b_M_step 11 = .ok (.if_icmp .eq 9, 3) := by decide +kernel
theorem d_M_step_14 : decode b_M_step 14 = .ok (.lload_n 3, 1) := by decide +kernel
theorem d_M_step_15 : decode b_M_step 15 = .ok (.lconst 0, 1) := by decide +kernel
theorem d_M_step_16 : decode b_M_step 16 = .ok (.lcmp, 1) := by decide +kernel
theorem d_M_step_17 : decode b_M_step 17 = .ok (.ifCond .ge 5, 3) := by decide +kernel
theorem d_M_step_20 : decode b_M_step 20 = .ok (.iconst (-1), 1) := by decide +kernel
theorem d_M_step_21 : decode b_M_step 21 = .ok (.ireturn, 1) := by decide +kernel
theorem d_M_step_22 : decode b_M_step 22 = .ok (.aload_n 0, 1) := by decide +kernel
theorem d_M_step_23 : decode b_M_step 23 = .ok (.getfield 13, 3) := by decide +kernel
theorem d_M_step_26 : decode b_M_step 26 = .ok (.aload_n 0, 1) := by decide +kernel
theorem d_M_step_27 : decode b_M_step 27 = .ok (.getfield 79, 3) := by decide +kernel
theorem d_M_step_30 : decode b_M_step 30 = .ok (.lload_n 1, 1) := by decide +kernel
theorem d_M_step_31 : decode b_M_step 31 = .ok (.lastore, 1) := by decide +kernel
theorem d_M_step_32 : decode b_M_step 32 = .ok (.aload_n 0, 1) := by decide +kernel
theorem d_M_step_33 : decode b_M_step 33 = .ok (.getfield 16, 3) := by decide +kernel
theorem d_M_step_36 : decode b_M_step 36 = .ok (.aload_n 0, 1) := by decide +kernel
theorem d_M_step_37 : decode b_M_step 37 = .ok (.getfield 79, 3) := by decide +kernel
theorem d_M_step_40 : decode b_M_step 40 = .ok (.lload_n 3, 1) := by decide +kernel
theorem d_M_step_41 : decode b_M_step 41 = .ok (.lastore, 1) := by decide +kernel
theorem d_M_step_42 : decode b_M_step 42 = .ok (.aload_n 0, 1) := by decide +kernel
theorem d_M_step_43 : decode b_M_step 43 = .ok (.dup, 1) := by decide +kernel
theorem d_M_step_44 : decode b_M_step 44 = .ok (.getfield 79, 3) := by decide +kernel
theorem d_M_step_47 : decode b_M_step 47 = .ok (.iconst 1, 1) := by decide +kernel
theorem d_M_step_48 : decode b_M_step 48 = .ok (.iadd, 1) := by decide +kernel
theorem d_M_step_49 : decode b_M_step 49 = .ok (.putfield 79, 3) := by decide +kernel
theorem d_M_step_52 : decode b_M_step 52 = .ok (.aload_n 0, 1) := by decide +kernel
theorem d_M_step_53 : decode b_M_step 53 = .ok (.getfield 79, 3) := by decide +kernel
theorem d_M_step_56 : decode b_M_step 56 = .ok (.iconst 1, 1) := by decide +kernel
theorem d_M_step_57 : decode b_M_step 57 = .ok (.isub, 1) := by decide +kernel
theorem d_M_step_58 : decode b_M_step 58 = .ok (.ireturn, 1) := by decide +kernel
theorem d_M_more_0 : decode b_M_more 0 = .ok (.aload_n 0, 1) := by decide +kernel
theorem d_M_more_1 : decode b_M_more 1 = .ok (.getfield 30, 3) := by decide +kernel
theorem d_M_more_4 : decode b_M_more 4 = .ok (.iload_n 1, 1) := by decide +kernel
theorem d_M_more_5 : decode b_M_more 5 = .ok (.iaload, 1) := by decide +kernel
theorem d_M_more_6 : decode b_M_more 6 = .ok (.bipush 6, 2) := by decide +kernel
theorem d_M_more_8 : decode b_M_more 8 = .ok (.if_icmp .ne 5, 3) := by decide +kernel
theorem d_M_more_11 : decode b_M_more 11 = .ok (.iconst 0, 1) := by decide +kernel
theorem d_M_more_12 : decode b_M_more 12 = .ok (.ireturn, 1) := by decide +kernel
theorem d_M_more_13 : decode b_M_more 13 = .ok (.iconst 0, 1) := by decide +kernel
theorem d_M_more_14 : decode b_M_more 14 = .ok (.istore 4, 2) := by decide +kernel
theorem d_M_more_16 : decode b_M_more 16 = .ok (.iload 4, 2) := by decide +kernel
theorem d_M_more_18 : decode b_M_more 18 = .ok (.aload_n 0, 1) := by decide +kernel
theorem d_M_more_19 : decode b_M_more 19 = .ok (.getfield 30, 3) := by decide +kernel
theorem d_M_more_22 : decode b_M_more 22 = .ok (.iload_n 1, 1) := by decide +kernel
theorem d_M_more_23 : decode b_M_more 23 = .ok (.iaload, 1) := by decide +kernel
theorem d_M_more_24 : decode b_M_more 24 = .ok (.if_icmp .ge 43, 3) := by decide +kernel
theorem d_M_more_27 : decode b_M_more 27 = .ok (.aload_n 0, 1) := by decide +kernel
theorem d_M_more_28 : decode b_M_more 28 = .ok (.getfield 33, 3) := by decide +kernel
theorem d_M_more_31 : decode b_M_more 31 = .ok (.bipush 6, 2) := by decide +kernel
theorem d_M_more_33 : decode b_M_more 33 = .ok (.iload_n 1, 1) := by decide +kernel
theorem d_M_more_34 : decode b_M_more 34 = .ok (.imul, 1) := by decide +kernel
theorem d_M_more_35 : decode b_M_more 35 = .ok (.iload 4, 2) := by decide +kernel
theorem d_M_more_37 : decode b_M_more 37 = .ok (.iadd, 1) := by decide +kernel
theorem d_M_more_38 : decode b_M_more 38 = .ok (.iaload, 1) := by decide +kernel
theorem d_M_more_39 : decode b_M_more 39 = .ok (.iload_n 2, 1) := by decide +kernel
theorem d_M_more_40 : decode b_M_more 40 = .ok (.if_icmp .ne 21, 3) := by decide +kernel
theorem d_M_more_43 : decode b_M_more 43 = .ok (.aload_n 0, 1) := by decide +kernel
theorem d_M_more_44 : decode b_M_more 44 = .ok (.getfield 36, 3) := by decide +kernel
theorem d_M_more_47 : decode b_M_more 47 = .ok (.bipush 6, 2) := by decide +kernel
theorem d_M_more_49 : decode b_M_more 49 = .ok (.iload_n 1, 1) := by decide +kernel
theorem d_M_more_50 : decode b_M_more 50 = .ok (.imul, 1) := by decide +kernel
theorem d_M_more_51 : decode b_M_more 51 = .ok (.iload 4, 2) := by decide +kernel
theorem d_M_more_53 : decode b_M_more 53 = .ok (.iadd, 1) := by decide +kernel
theorem d_M_more_54 : decode b_M_more 54 = .ok (.iaload, 1) := by decide +kernel
theorem d_M_more_55 : decode b_M_more 55 = .ok (.iload_n 3, 1) := by decide +kernel
theorem d_M_more_56 : decode b_M_more 56 = .ok (.if_icmp .ne 5, 3) := by decide +kernel
theorem d_M_more_59 : decode b_M_more 59 = .ok (.iconst 0, 1) := by decide +kernel
theorem d_M_more_60 : decode b_M_more 60 = .ok (.ireturn, 1) := by decide +kernel
theorem d_M_more_61 : decode b_M_more 61 = .ok (.iinc 4 1, 3) := by decide +kernel
theorem d_M_more_64 : decode b_M_more 64 = .ok (.goto (-48), 3) := by decide +kernel
theorem d_M_more_67 : decode b_M_more 67 = .ok (.aload_n 0, 1) := by decide +kernel
theorem d_M_more_68 : decode b_M_more 68 = .ok (.getfield 33, 3) := by decide +kernel
theorem d_M_more_71 : decode b_M_more 71 = .ok (.bipush 6, 2) := by decide +kernel
theorem d_M_more_73 : decode b_M_more 73 = .ok (.iload_n 1, 1) := by decide +kernel
theorem d_M_more_74 : decode b_M_more 74 = .ok (.imul, 1) := by decide +kernel
theorem d_M_more_75 : decode b_M_more 75 = .ok (.aload_n 0, 1) := by decide +kernel
theorem d_M_more_76 : decode b_M_more 76 = .ok (.getfield 30, 3) := by decide +kernel
theorem d_M_more_79 : decode b_M_more 79 = .ok (.iload_n 1, 1) := by decide +kernel
theorem d_M_more_80 : decode b_M_more 80 = .ok (.iaload, 1) := by decide +kernel
theorem d_M_more_81 : decode b_M_more 81 = .ok (.iadd, 1) := by decide +kernel
theorem d_M_more_82 : decode b_M_more 82 = .ok (.iload_n 2, 1) := by decide +kernel
theorem d_M_more_83 : decode b_M_more 83 = .ok (.iastore, 1) := by decide +kernel
theorem d_M_more_84 : decode b_M_more 84 = .ok (.aload_n 0, 1) := by decide +kernel
theorem d_M_more_85 : decode b_M_more 85 = .ok (.getfield 36, 3) := by decide +kernel
theorem d_M_more_88 : decode b_M_more 88 = .ok (.bipush 6, 2) := by decide +kernel
theorem d_M_more_90 : decode b_M_more 90 = .ok (.iload_n 1, 1) := by decide +kernel
theorem d_M_more_91 : decode b_M_more 91 = .ok (.imul, 1) := by decide +kernel
theorem d_M_more_92 : decode b_M_more 92 = .ok (.aload_n 0, 1) := by decide +kernel
theorem d_M_more_93 : decode b_M_more 93 = .ok (.getfield 30, 3) := by decide +kernel
theorem d_M_more_96 : decode b_M_more 96 = .ok (.iload_n 1, 1) := by decide +kernel
theorem d_M_more_97 : decode b_M_more 97 = .ok (.iaload, 1) := by decide +kernel
theorem d_M_more_98 : decode b_M_more 98 = .ok (.iadd, 1) := by decide +kernel
theorem d_M_more_99 : decode b_M_more 99 = .ok (.iload_n 3, 1) := by decide +kernel
theorem d_M_more_100 : decode b_M_more 100 = .ok (.iastore, 1) := by decide +kernel
theorem d_M_more_101 : decode b_M_more 101 = .ok (.aload_n 0, 1) := by decide +kernel
theorem d_M_more_102 : decode b_M_more 102 = .ok (.getfield 30, 3) := by decide +kernel
theorem d_M_more_105 : decode b_M_more 105 = .ok (.iload_n 1, 1) := by decide +kernel
theorem d_M_more_106 : decode b_M_more 106 = .ok (.dup2, 1) := by decide +kernel
theorem d_M_more_107 : decode b_M_more 107 = .ok (.iaload, 1) := by decide +kernel
theorem d_M_more_108 : decode b_M_more 108 = .ok (.iconst 1, 1) := by decide +kernel
theorem d_M_more_109 : decode b_M_more 109 = .ok (.iadd, 1) := by decide +kernel
theorem d_M_more_110 : decode b_M_more 110 = .ok (.iastore, 1) := by decide +kernel
theorem d_M_more_111 : decode b_M_more 111 = .ok (.aload_n 0, 1) := by decide +kernel
theorem d_M_more_112 : decode b_M_more 112 = .ok (.getfield 39, 3) := by decide +kernel
theorem d_M_more_115 : decode b_M_more 115 = .ok (.iload_n 1, 1) := by decide +kernel
theorem d_M_more_116 : decode b_M_more 116 = .ok (.iconst 0, 1) := by decide +kernel
theorem d_M_more_117 : decode b_M_more 117 = .ok (.iastore, 1) := by decide +kernel
theorem d_M_more_118 : decode b_M_more 118 = .ok (.iconst 1, 1) := by decide +kernel
theorem d_M_more_119 : decode b_M_more 119 = .ok (.ireturn, 1) := by decide +kernel
theorem d_M_readsFile_0 : decode b_M_readsFile 0 = .ok (.aload_n 0, 1) := by decide +kernel
theorem d_M_readsFile_1 : decode b_M_readsFile 1 = .ok (.iconst 0, 1) := by decide +kernel
theorem d_M_readsFile_2 : decode b_M_readsFile 2 = .ok (.putfield 72, 3) := by decide +kernel
theorem d_M_readsFile_5 : decode b_M_readsFile 5 = .ok (.aload_n 0, 1) := by decide +kernel
theorem d_M_readsFile_6 : decode b_M_readsFile 6 = .ok (.iload_n 1, 1) := by decide +kernel
theorem d_M_readsFile_7 : decode b_M_readsFile 7 = .ok (.invokevirtual 86, 3) := by decide +kernel
theorem d_M_readsFile_10 : decode b_M_readsFile 10 = .ok (.ifCond .eq 25, 3) := by decide +kernel
theorem d_M_readsFile_13 : decode b_M_readsFile 13 = .ok (.aload_n 0, 1) := by decide +kernel
theorem d_M_readsFile_14 : decode b_M_readsFile 14 = .ok (.iload_n 2, 1) := by decide +kernel
theorem d_M_readsFile_15 : decode b_M_readsFile 15 = .ok (.invokevirtual 82, 3) := by decide +kernel
theorem d_M_readsFile_18 : decode b_M_readsFile 18 = .ok (.ifCond .eq 17, 3) := by decide +kernel
theorem d_M_readsFile_21 : decode b_M_readsFile 21 = .ok (.aload_n 0, 1) := by decide +kernel
theorem d_M_readsFile_22 : decode b_M_readsFile 22 = .ok (.iload_n 1, 1) := by decide +kernel
theorem d_M_readsFile_23 : decode b_M_readsFile 23 = .ok (.iload_n 2, 1) := by decide +kernel
theorem d_M_readsFile_24 : decode b_M_readsFile 24 = .ok (.iconst 2, 1) := by decide +kernel
theorem d_M_readsFile_25 : decode b_M_readsFile 25 = .ok (.invokevirtual 89, 3) := by decide +kernel
theorem d_M_readsFile_28 : decode b_M_readsFile 28 = .ok (.ifCond .eq 7, 3) := by decide +kernel
theorem d_M_readsFile_31 : decode b_M_readsFile 31 = .ok (.iconst 1, 1) := by decide +kernel
theorem d_M_readsFile_32 : decode b_M_readsFile 32 = .ok (.goto 4, 3) := by decide +kernel
theorem d_M_readsFile_35 : decode b_M_readsFile 35 = .ok (.iconst 0, 1) := by decide +kernel
theorem d_M_readsFile_36 : decode b_M_readsFile 36 = .ok (.ireturn, 1) := by decide +kernel
theorem d_M_readsPart_0 : decode b_M_readsPart 0 = .ok (.aload_n 0, 1) := by decide +kernel
theorem d_M_readsPart_1 : decode b_M_readsPart 1 = .ok (.iconst 0, 1) := by decide +kernel
theorem d_M_readsPart_2 : decode b_M_readsPart 2 = .ok (.putfield 72, 3) := by decide +kernel
theorem d_M_readsPart_5 : decode b_M_readsPart 5 = .ok (.aload_n 0, 1) := by decide +kernel
theorem d_M_readsPart_6 : decode b_M_readsPart 6 = .ok (.iload_n 1, 1) := by decide +kernel
theorem d_M_readsPart_7 : decode b_M_readsPart 7 = .ok (.invokevirtual 86, 3) := by decide +kernel
theorem d_M_readsPart_10 : decode b_M_readsPart 10 = .ok (.ifCond .eq 35, 3) := by decide +kernel
theorem d_M_readsPart_13 : decode b_M_readsPart 13 = .ok (.iload_n 2, 1) := by decide +kernel
theorem d_M_readsPart_14 : decode b_M_readsPart 14 = .ok (.ifCond .lt 31, 3) := by decide +kernel
theorem d_M_readsPart_17 : decode b_M_readsPart 17 = .ok (.iload_n 2, 1) := by decide +kernel
theorem d_M_readsPart_18 : decode b_M_readsPart 18 = .ok (.iload_n 1, 1) := by decide +kernel
theorem d_M_readsPart_19 : decode b_M_readsPart 19 = .ok (.if_icmp .ge 26, 3) := by decide +kernel
theorem d_M_readsPart_22 : decode b_M_readsPart 22 = .ok (.iload_n 3, 1) := by decide +kernel
theorem d_M_readsPart_23 : decode b_M_readsPart 23 = .ok (.ifCond .eq 8, 3) := by decide +kernel
theorem d_M_readsPart_26 : decode b_M_readsPart 26 = .ok (.iload_n 3, 1) := by decide +kernel
theorem d_M_readsPart_27 : decode b_M_readsPart 27 = .ok (.iconst 1, 1) := by decide +kernel
theorem d_M_readsPart_28 : decode b_M_readsPart 28 = .ok (.if_icmp .ne 17, 3) := by decide +kernel
theorem d_M_readsPart_31 : decode b_M_readsPart 31 = .ok (.aload_n 0, 1) := by decide +kernel
theorem d_M_readsPart_32 : decode b_M_readsPart 32 = .ok (.iload_n 1, 1) := by decide +kernel
theorem d_M_readsPart_33 : decode b_M_readsPart 33 = .ok (.iload_n 2, 1) := by decide +kernel
theorem d_M_readsPart_34 : decode b_M_readsPart 34 = .ok (.iload_n 3, 1) := by decide +kernel
theorem d_M_readsPart_35 : decode b_M_readsPart 35 = .ok (.invokevirtual 89, 3) := by decide +kernel
theorem d_M_readsPart_38 : decode b_M_readsPart 38 = .ok (.ifCond .eq 7, 3) := by decide +kernel
theorem d_M_readsPart_41 : decode b_M_readsPart 41 = .ok (.iconst 1, 1) := by decide +kernel
theorem d_M_readsPart_42 : decode b_M_readsPart 42 = .ok (.goto 4, 3) := by decide +kernel
theorem d_M_readsPart_45 : decode b_M_readsPart 45 = .ok (.iconst 0, 1) := by decide +kernel
theorem d_M_readsPart_46 : decode b_M_readsPart 46 = .ok (.ireturn, 1) := by decide +kernel
theorem d_M_force_0 : decode b_M_force 0 = .ok (.aload_n 0, 1) := by decide +kernel
theorem d_M_force_1 : decode b_M_force 1 = .ok (.iconst 0, 1) := by decide +kernel
theorem d_M_force_2 : decode b_M_force 2 = .ok (.putfield 72, 3) := by decide +kernel
theorem d_M_force_5 : decode b_M_force 5 = .ok (.aload_n 0, 1) := by decide +kernel
theorem d_M_force_6 : decode b_M_force 6 = .ok (.iload_n 1, 1) := by decide +kernel
theorem d_M_force_7 : decode b_M_force 7 = .ok (.invokevirtual 86, 3) := by decide +kernel
theorem d_M_force_10 : decode b_M_force 10 = .ok (.ifCond .eq 12, 3) := by decide +kernel
theorem d_M_force_13 : decode b_M_force 13 = .ok (.aload_n 0, 1) := by decide +kernel
theorem d_M_force_14 : decode b_M_force 14 = .ok (.getfield 23, 3) := by decide +kernel
theorem d_M_force_17 : decode b_M_force 17 = .ok (.iload_n 1, 1) := by decide +kernel
theorem d_M_force_18 : decode b_M_force 18 = .ok (.baload, 1) := by decide +kernel
theorem d_M_force_19 : decode b_M_force 19 = .ok (.ifCond .eq 5, 3) := by decide +kernel
theorem d_M_force_22 : decode b_M_force 22 = .ok (.iconst 0, 1) := by decide +kernel
theorem d_M_force_23 : decode b_M_force 23 = .ok (.ireturn, 1) := by decide +kernel
theorem d_M_force_24 : decode b_M_force 24 = .ok (.aload_n 0, 1) := by decide +kernel
theorem d_M_force_25 : decode b_M_force 25 = .ok (.getfield 23, 3) := by decide +kernel
theorem d_M_force_28 : decode b_M_force 28 = .ok (.iload_n 1, 1) := by decide +kernel
theorem d_M_force_29 : decode b_M_force 29 = .ok (.iconst 1, 1) := by decide +kernel
theorem d_M_force_30 : decode b_M_force 30 = .ok (.bastore, 1) := by decide +kernel
theorem d_M_force_31 : decode b_M_force 31 = .ok (.iconst 1, 1) := by decide +kernel
theorem d_M_force_32 : decode b_M_force 32 = .ok (.ireturn, 1) := by decide +kernel
theorem d_M_record4_0 : decode b_M_record4 0 = .ok (.iconst 4, 1) := by decide +kernel
theorem d_M_record4_1 : decode b_M_record4 1 = .ok (.iload_n 0, 1) := by decide +kernel
theorem d_M_record4_2 : decode b_M_record4 2 = .ok (.imul, 1) := by decide +kernel
theorem d_M_record4_3 : decode b_M_record4 3 = .ok (.iload_n 1, 1) := by decide +kernel
theorem d_M_record4_4 : decode b_M_record4 4 = .ok (.iadd, 1) := by decide +kernel
theorem d_M_record4_5 : decode b_M_record4 5 = .ok (.ireturn, 1) := by decide +kernel
theorem d_M_isFileRead_0 : decode b_M_isFileRead 0 = .ok (.aload_n 0, 1) := by decide +kernel
theorem d_M_isFileRead_1 : decode b_M_isFileRead 1 = .ok (.getfield 36, 3) := by decide +kernel
theorem d_M_isFileRead_4 : decode b_M_isFileRead 4 = .ok (.bipush 6, 2) := by decide +kernel
theorem d_M_isFileRead_6 : decode b_M_isFileRead 6 = .ok (.iload_n 1, 1) := by decide +kernel
theorem d_M_isFileRead_7 : decode b_M_isFileRead 7 = .ok (.imul, 1) := by decide +kernel
theorem d_M_isFileRead_8 : decode b_M_isFileRead 8 = .ok (.iload_n 2, 1) := by decide +kernel
theorem d_M_isFileRead_9 : decode b_M_isFileRead 9 = .ok (.iadd, 1) := by decide +kernel
theorem d_M_isFileRead_10 : decode b_M_isFileRead 10 = .ok (.iaload, 1) := by decide +kernel
theorem d_M_isFileRead_11 : decode b_M_isFileRead 11 = .ok (.iconst 2, 1) := by decide +kernel
theorem d_M_isFileRead_12 : decode b_M_isFileRead 12 = .ok (.if_icmp .ne 7, 3) := by decide +kernel
theorem d_M_isFileRead_15 : decode b_M_isFileRead 15 = .ok (.iconst 1, 1) := by decide +kernel
theorem d_M_isFileRead_16 : decode b_M_isFileRead 16 = .ok (.goto 4, 3) := by decide +kernel
theorem d_M_isFileRead_19 : decode b_M_isFileRead 19 = .ok (.iconst 0, 1) := by decide +kernel
theorem d_M_isFileRead_20 : decode b_M_isFileRead 20 = .ok (.ireturn, 1) := by decide +kernel
theorem d_M_partOf_0 : decode b_M_partOf 0 = .ok (.iload_n 2, 1) := by decide +kernel
theorem d_M_partOf_1 : decode b_M_partOf 1 = .ok (.ifCond .ne 23, 3) := by decide +kernel
theorem d_M_partOf_4 : decode b_M_partOf 4 = .ok (.aload_n 0, 1) := by decide +kernel
theorem d_M_partOf_5 : decode b_M_partOf 5 = .ok (.getfield 45, 3) := by decide +kernel
theorem d_M_partOf_8 : decode b_M_partOf 8 = .ok (.iload_n 1, 1) := by decide +kernel
theorem d_M_partOf_9 : decode b_M_partOf 9 = .ok (.iconst 0, 1) := by decide +kernel
theorem d_M_partOf_10 : decode b_M_partOf 10 = .ok (.invokestatic 93, 3) := by decide +kernel
theorem d_M_partOf_13 : decode b_M_partOf 13 = .ok (.laload, 1) := by decide +kernel
theorem d_M_partOf_14 : decode b_M_partOf 14 = .ok (.aload_n 0, 1) := by decide +kernel
theorem d_M_partOf_15 : decode b_M_partOf 15 = .ok (.getfield 13, 3) := by decide +kernel
theorem d_M_partOf_18 : decode b_M_partOf 18 = .ok (.iload_n 1, 1) := by decide +kernel
theorem d_M_partOf_19 : decode b_M_partOf 19 = .ok (.laload, 1) := by decide +kernel
theorem d_M_partOf_20 : decode b_M_partOf 20 = .ok (.land, 1) := by decide +kernel
theorem d_M_partOf_21 : decode b_M_partOf 21 = .ok (.goto 13, 3) := by decide +kernel
theorem d_M_partOf_24 : decode b_M_partOf 24 = .ok (.aload_n 0, 1) := by decide +kernel
theorem d_M_partOf_25 : decode b_M_partOf 25 = .ok (.getfield 45, 3) := by decide +kernel
theorem d_M_partOf_28 : decode b_M_partOf 28 = .ok (.iload_n 1, 1) := by decide +kernel
theorem d_M_partOf_29 : decode b_M_partOf 29 = .ok (.iconst 0, 1) := by decide +kernel
theorem d_M_partOf_30 : decode b_M_partOf 30 = .ok (.invokestatic 93, 3) := by decide +kernel
theorem d_M_partOf_33 : decode b_M_partOf 33 = .ok (.laload, 1) := by decide +kernel
theorem d_M_partOf_34 : decode b_M_partOf 34 = .ok (.lreturn, 1) := by decide +kernel
theorem d_M_valueNow_0 : decode b_M_valueNow 0 = .ok (.aload_n 0, 1) := by decide +kernel
theorem d_M_valueNow_1 : decode b_M_valueNow 1 = .ok (.getfield 33, 3) := by decide +kernel
theorem d_M_valueNow_4 : decode b_M_valueNow 4 = .ok (.bipush 6, 2) := by decide +kernel
theorem d_M_valueNow_6 : decode b_M_valueNow 6 = .ok (.iload_n 1, 1) := by decide +kernel
theorem d_M_valueNow_7 : decode b_M_valueNow 7 = .ok (.imul, 1) := by decide +kernel
theorem d_M_valueNow_8 : decode b_M_valueNow 8 = .ok (.iload_n 2, 1) := by decide +kernel
theorem d_M_valueNow_9 : decode b_M_valueNow 9 = .ok (.iadd, 1) := by decide +kernel
theorem d_M_valueNow_10 : decode b_M_valueNow 10 = .ok (.iaload, 1) := by decide +kernel
theorem d_M_valueNow_11 : decode b_M_valueNow 11 = .ok (.istore_n 3, 1) := by decide +kernel
theorem d_M_valueNow_12 : decode b_M_valueNow 12 = .ok (.aload_n 0, 1) := by decide +kernel
theorem d_M_valueNow_13 : decode b_M_valueNow 13 = .ok (.iload_n 1, 1) := by decide +kernel
theorem d_M_valueNow_14 : decode b_M_valueNow 14 = .ok (.iload_n 2, 1) := by decide +kernel
theorem d_M_valueNow_15 : decode b_M_valueNow 15 = .ok (.invokevirtual 97, 3) := by decide +kernel
theorem d_M_valueNow_18 : decode b_M_valueNow 18 = .ok (.ifCond .eq 25, 3) := by decide +kernel
theorem d_M_valueNow_21 : decode b_M_valueNow 21 = .ok (.aload_n 0, 1) := by decide +kernel
theorem d_M_valueNow_22 : decode b_M_valueNow 22 = .ok (.getfield 19, 3) := by decide +kernel
theorem d_M_valueNow_25 : decode b_M_valueNow 25 = .ok (.iload_n 3, 1) := by decide +kernel
theorem d_M_valueNow_26 : decode b_M_valueNow 26 = .ok (.baload, 1) := by decide +kernel
theorem d_M_valueNow_27 : decode b_M_valueNow 27 = .ok (.ifCond .eq 12, 3) := by decide +kernel
theorem d_M_valueNow_30 : decode b_M_valueNow 30 = .ok (.aload_n 0, 1) := by decide +kernel
theorem d_M_valueNow_31 : decode b_M_valueNow 31 = .ok (.getfield 7, 3) := by decide +kernel
theorem d_M_valueNow_34 : decode b_M_valueNow 34 = .ok (.iload_n 3, 1) := by decide +kernel
theorem d_M_valueNow_35 : decode b_M_valueNow 35 = .ok (.laload, 1) := by decide +kernel
theorem d_M_valueNow_36 : decode b_M_valueNow 36 = .ok (.goto 23, 3) := by decide +kernel
theorem d_M_valueNow_39 : decode b_M_valueNow 39 = .ok (.lconst 0, 1) := by decide +kernel
theorem d_M_valueNow_40 : decode b_M_valueNow 40 = .ok (.goto 19, 3) := by decide +kernel
theorem d_M_valueNow_43 : decode b_M_valueNow 43 = .ok (.aload_n 0, 1) := by decide +kernel
theorem d_M_valueNow_44 : decode b_M_valueNow 44 = .ok (.iload_n 3, 1) := by decide +kernel
theorem d_M_valueNow_45 : decode b_M_valueNow 45 = .ok (.aload_n 0, 1) := by decide +kernel
theorem d_M_valueNow_46 : decode b_M_valueNow 46 = .ok (.getfield 36, 3) := by decide +kernel
theorem d_M_valueNow_49 : decode b_M_valueNow 49 = .ok (.bipush 6, 2) := by decide +kernel
theorem d_M_valueNow_51 : decode b_M_valueNow 51 = .ok (.iload_n 1, 1) := by decide +kernel
theorem d_M_valueNow_52 : decode b_M_valueNow 52 = .ok (.imul, 1) := by decide +kernel
theorem d_M_valueNow_53 : decode b_M_valueNow 53 = .ok (.iload_n 2, 1) := by decide +kernel
theorem d_M_valueNow_54 : decode b_M_valueNow 54 = .ok (.iadd, 1) := by decide +kernel
theorem d_M_valueNow_55 : decode b_M_valueNow 55 = .ok (.iaload, 1) := by decide +kernel
theorem d_M_valueNow_56 : decode b_M_valueNow 56 = .ok (.invokevirtual 101, 3) := by decide +kernel
theorem d_M_valueNow_59 : decode b_M_valueNow 59 = .ok (.lreturn, 1) := by decide +kernel
theorem d_M_thereNow_0 : decode b_M_thereNow 0 = .ok (.aload_n 0, 1) := by decide +kernel
theorem d_M_thereNow_1 : decode b_M_thereNow 1 = .ok (.iload_n 1, 1) := by decide +kernel
theorem d_M_thereNow_2 : decode b_M_thereNow 2 = .ok (.iload_n 2, 1) := by decide +kernel
theorem d_M_thereNow_3 : decode b_M_thereNow 3 = .ok (.invokevirtual 97, 3) := by decide +kernel
theorem d_M_thereNow_6 : decode b_M_thereNow 6 = .ok (.ifCond .eq 22, 3) := by decide +kernel
theorem d_M_thereNow_9 : decode b_M_thereNow 9 = .ok (.aload_n 0, 1) := by decide +kernel
theorem d_M_thereNow_10 : decode b_M_thereNow 10 = .ok (.getfield 19, 3) := by decide +kernel
theorem d_M_thereNow_13 : decode b_M_thereNow 13 = .ok (.aload_n 0, 1) := by decide +kernel
theorem d_M_thereNow_14 : decode b_M_thereNow 14 = .ok (.getfield 33, 3) := by decide +kernel
theorem d_M_thereNow_17 : decode b_M_thereNow 17 = .ok (.bipush 6, 2) := by decide +kernel
theorem d_M_thereNow_19 : decode b_M_thereNow 19 = .ok (.iload_n 1, 1) := by decide +kernel
theorem d_M_thereNow_20 : decode b_M_thereNow 20 = .ok (.imul, 1) := by decide +kernel
theorem d_M_thereNow_21 : decode b_M_thereNow 21 = .ok (.iload_n 2, 1) := by decide +kernel
theorem d_M_thereNow_22 : decode b_M_thereNow 22 = .ok (.iadd, 1) := by decide +kernel
theorem d_M_thereNow_23 : decode b_M_thereNow 23 = .ok (.iaload, 1) := by decide +kernel
theorem d_M_thereNow_24 : decode b_M_thereNow 24 = .ok (.baload, 1) := by decide +kernel
theorem d_M_thereNow_25 : decode b_M_thereNow 25 = .ok (.ifCond .eq 7, 3) := by decide +kernel
theorem d_M_thereNow_28 : decode b_M_thereNow 28 = .ok (.iconst 1, 1) := by decide +kernel
theorem d_M_thereNow_29 : decode b_M_thereNow 29 = .ok (.goto 4, 3) := by decide +kernel
theorem d_M_thereNow_32 : decode b_M_thereNow 32 = .ok (.iconst 0, 1) := by decide +kernel
theorem d_M_thereNow_33 : decode b_M_thereNow 33 = .ok (.ireturn, 1) := by decide +kernel
theorem d_M_isAsWas_0 : decode b_M_isAsWas 0 = .ok (.bipush 6, 2) := by decide +kernel
theorem d_M_isAsWas_2 : decode b_M_isAsWas 2 = .ok (.iload_n 1, 1) := by decide +kernel
theorem d_M_isAsWas_3 : decode b_M_isAsWas 3 = .ok (.iload_n 2, 1) := by decide +kernel
theorem d_M_isAsWas_4 : decode b_M_isAsWas 4 = .ok (.invokestatic 93, 3) := by decide +kernel
theorem d_M_isAsWas_7 : decode b_M_isAsWas 7 = .ok (.imul, 1) := by decide +kernel
theorem d_M_isAsWas_8 : decode b_M_isAsWas 8 = .ok (.iload_n 3, 1) := by decide +kernel
theorem d_M_isAsWas_9 : decode b_M_isAsWas 9 = .ok (.iadd, 1) := by decide +kernel
theorem d_M_isAsWas_10 : decode b_M_isAsWas 10 = .ok (.istore 4, 2) := by decide +kernel
theorem d_M_isAsWas_12 : decode b_M_isAsWas 12 = .ok (.aload_n 0, 1) := by decide +kernel
theorem d_M_isAsWas_13 : decode b_M_isAsWas 13 = .ok (.getfield 51, 3) := by decide +kernel
theorem d_M_isAsWas_16 : decode b_M_isAsWas 16 = .ok (.iload 4, 2) := by decide +kernel
theorem d_M_isAsWas_18 : decode b_M_isAsWas 18 = .ok (.baload, 1) := by decide +kernel
theorem d_M_isAsWas_19 : decode b_M_isAsWas 19 = .ok (.aload_n 0, 1) := by decide +kernel
theorem d_M_isAsWas_20 : decode b_M_isAsWas 20 = .ok (.iload_n 1, 1) := by decide +kernel
theorem d_M_isAsWas_21 : decode b_M_isAsWas 21 = .ok (.iload_n 3, 1) := by decide +kernel
theorem d_M_isAsWas_22 : decode b_M_isAsWas 22 = .ok (.invokevirtual 105, 3) := by decide +kernel
theorem d_M_isAsWas_25 : decode b_M_isAsWas 25 = .ok (.if_icmp .ne 24, 3) := by decide +kernel
theorem d_M_isAsWas_28 : decode b_M_isAsWas 28 = .ok (.aload_n 0, 1) := by decide +kernel
theorem d_M_isAsWas_29 : decode b_M_isAsWas 29 = .ok (.getfield 48, 3) := by decide +kernel
theorem d_M_isAsWas_32 : decode b_M_isAsWas 32 = .ok (.iload 4, 2) := by decide +kernel
theorem d_M_isAsWas_34 : decode b_M_isAsWas 34 = .ok (.laload, 1) := by decide +kernel
theorem d_M_isAsWas_35 : decode b_M_isAsWas 35 = .ok (.aload_n 0, 1) := by decide +kernel
theorem d_M_isAsWas_36 : decode b_M_isAsWas 36 = .ok (.iload_n 1, 1) := by decide +kernel
theorem d_M_isAsWas_37 : decode b_M_isAsWas 37 = .ok (.iload_n 3, 1) := by decide +kernel
theorem d_M_isAsWas_38 : decode b_M_isAsWas 38 = .ok (.invokevirtual 108, 3) := by decide +kernel
theorem d_M_isAsWas_41 : decode b_M_isAsWas 41 = .ok (.lcmp, 1) := by decide +kernel
theorem d_M_isAsWas_42 : decode b_M_isAsWas 42 = .ok (.ifCond .ne 7, 3) := by decide +kernel
theorem d_M_isAsWas_45 : decode b_M_isAsWas 45 = .ok (.iconst 1, 1) := by decide +kernel
theorem d_M_isAsWas_46 : decode b_M_isAsWas 46 = .ok (.goto 4, 3) := by decide +kernel
theorem d_M_isAsWas_49 : decode b_M_isAsWas 49 = .ok (.iconst 0, 1) := by decide +kernel
theorem d_M_isAsWas_50 : decode b_M_isAsWas 50 = .ok (.ireturn, 1) := by decide +kernel
theorem d_M_matching_0 : decode b_M_matching 0 = .ok (.iconst 0, 1) := by decide +kernel
theorem d_M_matching_1 : decode b_M_matching 1 = .ok (.istore_n 2, 1) := by decide +kernel
theorem d_M_matching_2 : decode b_M_matching 2 = .ok (.iload_n 2, 1) := by decide +kernel
theorem d_M_matching_3 : decode b_M_matching 3 = .ok (.aload_n 0, 1) := by decide +kernel
theorem d_M_matching_4 : decode b_M_matching 4 = .ok (.getfield 39, 3) := by decide +kernel
theorem d_M_matching_7 : decode b_M_matching 7 = .ok (.iload_n 1, 1) := by decide +kernel
theorem d_M_matching_8 : decode b_M_matching 8 = .ok (.iaload, 1) := by decide +kernel
theorem d_M_matching_9 : decode b_M_matching 9 = .ok (.if_icmp .ge 58, 3) := by decide +kernel
theorem d_M_matching_12 : decode b_M_matching 12 = .ok (.iconst 1, 1) := by decide +kernel
theorem d_M_matching_13 : decode b_M_matching 13 = .ok (.istore_n 3, 1) := by decide +kernel
theorem d_M_matching_14 : decode b_M_matching 14 = .ok (.iconst 0, 1) := by decide +kernel
theorem d_M_matching_15 : decode b_M_matching 15 = .ok (.istore 4, 2) := by decide +kernel
theorem d_M_matching_17 : decode b_M_matching 17 = .ok (.iload 4, 2) := by decide +kernel
theorem d_M_matching_19 : decode b_M_matching 19 = .ok (.aload_n 0, 1) := by decide +kernel
theorem d_M_matching_20 : decode b_M_matching 20 = .ok (.getfield 30, 3) := by decide +kernel
theorem d_M_matching_23 : decode b_M_matching 23 = .ok (.iload_n 1, 1) := by decide +kernel
theorem d_M_matching_24 : decode b_M_matching 24 = .ok (.iaload, 1) := by decide +kernel
theorem d_M_matching_25 : decode b_M_matching 25 = .ok (.if_icmp .ge 30, 3) := by decide +kernel
theorem d_M_matching_28 : decode b_M_matching 28 = .ok (.iload_n 3, 1) := by decide +kernel
theorem d_M_matching_29 : decode b_M_matching 29 = .ok (.ifCond .eq 18, 3) := by decide +kernel
theorem d_M_matching_32 : decode b_M_matching 32 = .ok (.aload_n 0, 1) := by decide +kernel
theorem d_M_matching_33 : decode b_M_matching 33 = .ok (.iload_n 1, 1) := by decide +kernel
theorem d_M_matching_34 : decode b_M_matching 34 = .ok (.iload_n 2, 1) := by decide +kernel
theorem d_M_matching_35 : decode b_M_matching 35 = .ok (.iload 4, 2) := by decide +kernel
theorem d_M_matching_37 : decode b_M_matching 37 = .ok (.invokevirtual 111, 3) := by decide +kernel
theorem d_M_matching_40 : decode b_M_matching 40 = .ok (.ifCond .eq 7, 3) := by decide +kernel
theorem d_M_matching_43 : decode b_M_matching 43 = .ok (.iconst 1, 1) := by decide +kernel
theorem d_M_matching_44 : decode b_M_matching 44 = .ok (.goto 4, 3) := by decide +kernel
theorem d_M_matching_47 : decode b_M_matching 47 = .ok (.iconst 0, 1) := by decide +kernel
theorem d_M_matching_48 : decode b_M_matching 48 = .ok (.istore_n 3, 1) := by decide +kernel
theorem d_M_matching_49 : decode b_M_matching 49 = .ok (.iinc 4 1, 3) := by decide +kernel
theorem d_M_matching_52 : decode b_M_matching 52 = .ok (.goto (-35), 3) := by decide +kernel
theorem d_M_matching_55 : decode b_M_matching 55 = .ok (.iload_n 3, 1) := by decide +kernel
theorem d_M_matching_56 : decode b_M_matching 56 = .ok (.ifCond .eq 5, 3) := by decide +kernel
theorem d_M_matching_59 : decode b_M_matching 59 = .ok (.iload_n 2, 1) := by decide +kernel
theorem d_M_matching_60 : decode b_M_matching 60 = .ok (.ireturn, 1) := by decide +kernel
theorem d_M_matching_61 : decode b_M_matching 61 = .ok (.iinc 2 1, 3) := by decide +kernel
theorem d_M_matching_64 : decode b_M_matching 64 = .ok (.goto (-62), 3) := by decide +kernel
theorem d_M_matching_67 : decode b_M_matching 67 = .ok (.iconst (-1), 1) := by decide +kernel
theorem d_M_matching_68 : decode b_M_matching 68 = .ok (.ireturn, 1) := by decide +kernel
theorem d_M_copy_0 : decode b_M_copy 0 = .ok (.aload_n 0, 1) := by decide +kernel
theorem d_M_copy_1 : decode b_M_copy 1 = .ok (.getfield 45, 3) := by decide +kernel
theorem d_M_copy_4 : decode b_M_copy 4 = .ok (.iload_n 1, 1) := by decide +kernel
theorem d_M_copy_5 : decode b_M_copy 5 = .ok (.iload_n 3, 1) := by decide +kernel
theorem d_M_copy_6 : decode b_M_copy 6 = .ok (.invokestatic 93, 3) := by decide +kernel
theorem d_M_copy_9 : decode b_M_copy 9 = .ok (.aload_n 0, 1) := by decide +kernel
theorem d_M_copy_10 : decode b_M_copy 10 = .ok (.getfield 45, 3) := by decide +kernel
theorem d_M_copy_13 : decode b_M_copy 13 = .ok (.iload_n 1, 1) := by decide +kernel
theorem d_M_copy_14 : decode b_M_copy 14 = .ok (.iload_n 2, 1) := by decide +kernel
theorem d_M_copy_15 : decode b_M_copy 15 = .ok (.invokestatic 93, 3) := by decide +kernel
theorem d_M_copy_18 : decode b_M_copy 18 = .ok (.laload, 1) := by decide +kernel
theorem d_M_copy_19 : decode b_M_copy 19 = .ok (.lastore, 1) := by decide +kernel
theorem d_M_copy_20 : decode b_M_copy 20 = .ok (.aload_n 0, 1) := by decide +kernel
theorem d_M_copy_21 : decode b_M_copy 21 = .ok (.getfield 42, 3) := by decide +kernel
theorem d_M_copy_24 : decode b_M_copy 24 = .ok (.iload_n 1, 1) := by decide +kernel
theorem d_M_copy_25 : decode b_M_copy 25 = .ok (.iload_n 3, 1) := by decide +kernel
theorem d_M_copy_26 : decode b_M_copy 26 = .ok (.invokestatic 93, 3) := by decide +kernel
theorem d_M_copy_29 : decode b_M_copy 29 = .ok (.aload_n 0, 1) := by decide +kernel
theorem d_M_copy_30 : decode b_M_copy 30 = .ok (.getfield 42, 3) := by decide +kernel
theorem d_M_copy_33 : decode b_M_copy 33 = .ok (.iload_n 1, 1) := by decide +kernel
theorem d_M_copy_34 : decode b_M_copy 34 = .ok (.iload_n 2, 1) := by decide +kernel
theorem d_M_copy_35 : decode b_M_copy 35 = .ok (.invokestatic 93, 3) := by decide +kernel
theorem d_M_copy_38 : decode b_M_copy 38 = .ok (.iaload, 1) := by decide +kernel
theorem d_M_copy_39 : decode b_M_copy 39 = .ok (.iastore, 1) := by decide +kernel
theorem d_M_copy_40 : decode b_M_copy 40 = .ok (.iconst 0, 1) := by decide +kernel
theorem d_M_copy_41 : decode b_M_copy 41 = .ok (.istore 4, 2) := by decide +kernel
theorem d_M_copy_43 : decode b_M_copy 43 = .ok (.iload 4, 2) := by decide +kernel
theorem d_M_copy_45 : decode b_M_copy 45 = .ok (.bipush 6, 2) := by decide +kernel
theorem d_M_copy_47 : decode b_M_copy 47 = .ok (.if_icmp .ge 73, 3) := by decide +kernel
theorem d_M_copy_50 : decode b_M_copy 50 = .ok (.aload_n 0, 1) := by decide +kernel
theorem d_M_copy_51 : decode b_M_copy 51 = .ok (.getfield 48, 3) := by decide +kernel
theorem d_M_copy_54 : decode b_M_copy 54 = .ok (.bipush 6, 2) := by decide +kernel
theorem d_M_copy_56 : decode b_M_copy 56 = .ok (.iload_n 1, 1) := by decide +kernel
theorem d_M_copy_57 : decode b_M_copy 57 = .ok (.iload_n 3, 1) := by decide +kernel
theorem d_M_copy_58 : decode b_M_copy 58 = .ok (.invokestatic 93, 3) := by decide +kernel
theorem d_M_copy_61 : decode b_M_copy 61 = .ok (.imul, 1) := by decide +kernel
theorem d_M_copy_62 : decode b_M_copy 62 = .ok (.iload 4, 2) := by decide +kernel
theorem d_M_copy_64 : decode b_M_copy 64 = .ok (.iadd, 1) := by decide +kernel
theorem d_M_copy_65 : decode b_M_copy 65 = .ok (.aload_n 0, 1) := by decide +kernel
theorem d_M_copy_66 : decode b_M_copy 66 = .ok (.getfield 48, 3) := by decide +kernel
theorem d_M_copy_69 : decode b_M_copy 69 = .ok (.bipush 6, 2) := by decide +kernel
theorem d_M_copy_71 : decode b_M_copy 71 = .ok (.iload_n 1, 1) := by decide +kernel
theorem d_M_copy_72 : decode b_M_copy 72 = .ok (.iload_n 2, 1) := by decide +kernel
theorem d_M_copy_73 : decode b_M_copy 73 = .ok (.invokestatic 93, 3) := by decide +kernel
theorem d_M_copy_76 : decode b_M_copy 76 = .ok (.imul, 1) := by decide +kernel
theorem d_M_copy_77 : decode b_M_copy 77 = .ok (.iload 4, 2) := by decide +kernel
theorem d_M_copy_79 : decode b_M_copy 79 = .ok (.iadd, 1) := by decide +kernel
theorem d_M_copy_80 : decode b_M_copy 80 = .ok (.laload, 1) := by decide +kernel
theorem d_M_copy_81 : decode b_M_copy 81 = .ok (.lastore, 1) := by decide +kernel
theorem d_M_copy_82 : decode b_M_copy 82 = .ok (.aload_n 0, 1) := by decide +kernel
theorem d_M_copy_83 : decode b_M_copy 83 = .ok (.getfield 51, 3) := by decide +kernel
theorem d_M_copy_86 : decode b_M_copy 86 = .ok (.bipush 6, 2) := by decide +kernel
theorem d_M_copy_88 : decode b_M_copy 88 = .ok (.iload_n 1, 1) := by decide +kernel
theorem d_M_copy_89 : decode b_M_copy 89 = .ok (.iload_n 3, 1) := by decide +kernel
theorem d_M_copy_90 : decode b_M_copy 90 = .ok (.invokestatic 93, 3) := by decide +kernel
theorem d_M_copy_93 : decode b_M_copy 93 = .ok (.imul, 1) := by decide +kernel
theorem d_M_copy_94 : decode b_M_copy 94 = .ok (.iload 4, 2) := by decide +kernel
theorem d_M_copy_96 : decode b_M_copy 96 = .ok (.iadd, 1) := by decide +kernel
theorem d_M_copy_97 : decode b_M_copy 97 = .ok (.aload_n 0, 1) := by decide +kernel
theorem d_M_copy_98 : decode b_M_copy 98 = .ok (.getfield 51, 3) := by decide +kernel
theorem d_M_copy_101 : decode b_M_copy 101 = .ok (.bipush 6, 2) := by decide +kernel
theorem d_M_copy_103 : decode b_M_copy 103 = .ok (.iload_n 1, 1) := by decide +kernel
theorem d_M_copy_104 : decode b_M_copy 104 = .ok (.iload_n 2, 1) := by decide +kernel
theorem d_M_copy_105 : decode b_M_copy 105 = .ok (.invokestatic 93, 3) := by decide +kernel
theorem d_M_copy_108 : decode b_M_copy 108 = .ok (.imul, 1) := by decide +kernel
theorem d_M_copy_109 : decode b_M_copy 109 = .ok (.iload 4, 2) := by decide +kernel
theorem d_M_copy_111 : decode b_M_copy 111 = .ok (.iadd, 1) := by decide +kernel
theorem d_M_copy_112 : decode b_M_copy 112 = .ok (.baload, 1) := by decide +kernel
theorem d_M_copy_113 : decode b_M_copy 113 = .ok (.bastore, 1) := by decide +kernel
theorem d_M_copy_114 : decode b_M_copy 114 = .ok (.iinc 4 1, 3) := by decide +kernel
theorem d_M_copy_117 : decode b_M_copy 117 = .ok (.goto (-74), 3) := by decide +kernel
theorem d_M_copy_120 : decode b_M_copy 120 = .ok (.return_, 1) := by decide +kernel
theorem d_M_moveBack_0 : decode b_M_moveBack 0 = .ok (.iload_n 2, 1) := by decide +kernel
theorem d_M_moveBack_1 : decode b_M_moveBack 1 = .ok (.istore_n 3, 1) := by decide +kernel
theorem d_M_moveBack_2 : decode b_M_moveBack 2 = .ok (.iload_n 3, 1) := by decide +kernel
theorem d_M_moveBack_3 : decode b_M_moveBack 3 = .ok (.ifCond .le 18, 3) := by decide +kernel
theorem d_M_moveBack_6 : decode b_M_moveBack 6 = .ok (.aload_n 0, 1) := by decide +kernel
theorem d_M_moveBack_7 : decode b_M_moveBack 7 = .ok (.iload_n 1, 1) := by decide +kernel
theorem d_M_moveBack_8 : decode b_M_moveBack 8 = .ok (.iload_n 3, 1) := by decide +kernel
theorem d_M_moveBack_9 : decode b_M_moveBack 9 = .ok (.iconst 1, 1) := by decide +kernel
theorem d_M_moveBack_10 : decode b_M_moveBack 10 = .ok (.isub, 1) := by decide +kernel
theorem d_M_moveBack_11 : decode b_M_moveBack 11 = .ok (.iload_n 3, 1) := by decide +kernel
theorem d_M_moveBack_12 : decode b_M_moveBack 12 = .ok (.invokevirtual 114, 3) := by decide +kernel
theorem d_M_moveBack_15 : decode b_M_moveBack 15 = .ok (.iinc 3 (-1), 3) := by decide +kernel
theorem d_M_moveBack_18 : decode b_M_moveBack 18 = .ok (.goto (-16), 3) := by decide +kernel
theorem d_M_moveBack_21 : decode b_M_moveBack 21 = .ok (.return_, 1) := by decide +kernel
theorem d_M_bring_0 : decode b_M_bring 0 = .ok (.aload_n 0, 1) := by decide +kernel
theorem d_M_bring_1 : decode b_M_bring 1 = .ok (.iload_n 1, 1) := by decide +kernel
theorem d_M_bring_2 : decode b_M_bring 2 = .ok (.iload_n 2, 1) := by decide +kernel
theorem d_M_bring_3 : decode b_M_bring 3 = .ok (.iconst 3, 1) := by decide +kernel
theorem d_M_bring_4 : decode b_M_bring 4 = .ok (.invokevirtual 114, 3) := by decide +kernel
theorem d_M_bring_7 : decode b_M_bring 7 = .ok (.aload_n 0, 1) := by decide +kernel
theorem d_M_bring_8 : decode b_M_bring 8 = .ok (.iload_n 1, 1) := by decide +kernel
theorem d_M_bring_9 : decode b_M_bring 9 = .ok (.iload_n 2, 1) := by decide +kernel
theorem d_M_bring_10 : decode b_M_bring 10 = .ok (.invokevirtual 118, 3) := by decide +kernel
theorem d_M_bring_13 : decode b_M_bring 13 = .ok (.aload_n 0, 1) := by decide +kernel
theorem d_M_bring_14 : decode b_M_bring 14 = .ok (.iload_n 1, 1) := by decide +kernel
theorem d_M_bring_15 : decode b_M_bring 15 = .ok (.iconst 3, 1) := by decide +kernel
theorem d_M_bring_16 : decode b_M_bring 16 = .ok (.iconst 0, 1) := by decide +kernel
theorem d_M_bring_17 : decode b_M_bring 17 = .ok (.invokevirtual 114, 3) := by decide +kernel
theorem d_M_bring_20 : decode b_M_bring 20 = .ok (.return_, 1) := by decide +kernel
theorem d_M_hasOutput_0 : decode b_M_hasOutput 0 = .ok (.aload_n 0, 1) := by decide +kernel
theorem d_M_hasOutput_1 : decode b_M_hasOutput 1 = .ok (.getfield 39, 3) := by decide +kernel
theorem d_M_hasOutput_4 : decode b_M_hasOutput 4 = .ok (.iload_n 1, 1) := by decide +kernel
theorem d_M_hasOutput_5 : decode b_M_hasOutput 5 = .ok (.iaload, 1) := by decide +kernel
theorem d_M_hasOutput_6 : decode b_M_hasOutput 6 = .ok (.ifCond .le 21, 3) := by decide +kernel
theorem d_M_hasOutput_9 : decode b_M_hasOutput 9 = .ok (.aload_n 0, 1) := by decide +kernel
theorem d_M_hasOutput_10 : decode b_M_hasOutput 10 = .ok (.getfield 42, 3) := by decide +kernel
theorem d_M_hasOutput_13 : decode b_M_hasOutput 13 = .ok (.iload_n 1, 1) := by decide +kernel
theorem d_M_hasOutput_14 : decode b_M_hasOutput 14 = .ok (.iconst 0, 1) := by decide +kernel
theorem d_M_hasOutput_15 : decode b_M_hasOutput 15 = .ok (.invokestatic 93, 3) := by decide +kernel
theorem d_M_hasOutput_18 : decode b_M_hasOutput 18 = .ok (.iaload, 1) := by decide +kernel
theorem d_M_hasOutput_19 : decode b_M_hasOutput 19 = .ok (.iconst (-1), 1) := by decide +kernel
theorem d_M_hasOutput_20 : decode b_M_hasOutput 20 = .ok (.if_icmp .ne 7, 3) := by decide +kernel
theorem d_M_hasOutput_23 : decode b_M_hasOutput 23 = .ok (.iconst 1, 1) := by decide +kernel
theorem d_M_hasOutput_24 : decode b_M_hasOutput 24 = .ok (.goto 4, 3) := by decide +kernel
theorem d_M_hasOutput_27 : decode b_M_hasOutput 27 = .ok (.iconst 0, 1) := by decide +kernel
theorem d_M_hasOutput_28 : decode b_M_hasOutput 28 = .ok (.ireturn, 1) := by decide +kernel
theorem d_M_take_0 : decode b_M_take 0 = .ok (.aload_n 0, 1) := by decide +kernel
theorem d_M_take_1 : decode b_M_take 1 = .ok (.getfield 79, 3) := by decide +kernel
theorem d_M_take_4 : decode b_M_take 4 = .ok (.iconst 1, 1) := by decide +kernel
theorem d_M_take_5 : decode b_M_take 5 = .ok (.isub, 1) := by decide +kernel
theorem d_M_take_6 : decode b_M_take 6 = .ok (.istore_n 2, 1) := by decide +kernel
theorem d_M_take_7 : decode b_M_take 7 = .ok (.iload_n 2, 1) := by decide +kernel
theorem d_M_take_8 : decode b_M_take 8 = .ok (.ifCond .lt 122, 3) := by decide +kernel
theorem d_M_take_11 : decode b_M_take 11 = .ok (.aload_n 0, 1) := by decide +kernel
theorem d_M_take_12 : decode b_M_take 12 = .ok (.getfield 66, 3) := by decide +kernel
theorem d_M_take_15 : decode b_M_take 15 = .ok (.iload_n 2, 1) := by decide +kernel
theorem d_M_take_16 : decode b_M_take 16 = .ok (.iload_n 1, 1) := by decide +kernel
theorem d_M_take_17 : decode b_M_take 17 = .ok (.iload_n 2, 1) := by decide +kernel
theorem d_M_take_18 : decode b_M_take 18 = .ok (.ishr, 1) := by decide +kernel
theorem d_M_take_19 : decode b_M_take 19 = .ok (.iconst 1, 1) := by decide +kernel
theorem d_M_take_20 : decode b_M_take 20 = .ok (.iand, 1) := by decide +kernel
theorem d_M_take_21 : decode b_M_take 21 = .ok (.iconst 1, 1) := by decide +kernel
theorem d_M_take_22 : decode b_M_take 22 = .ok (.if_icmp .ne 7, 3) := by decide +kernel
theorem d_M_take_25 : decode b_M_take 25 = .ok (.iconst 1, 1) := by decide +kernel
theorem d_M_take_26 : decode b_M_take 26 = .ok (.goto 4, 3) := by decide +kernel
theorem d_M_take_29 : decode b_M_take 29 = .ok (.iconst 0, 1) := by decide +kernel
theorem d_M_take_30 : decode b_M_take 30 = .ok (.bastore, 1) := by decide +kernel
theorem d_M_take_31 : decode b_M_take 31 = .ok (.iload_n 2, 1) := by decide +kernel
theorem d_M_take_32 : decode b_M_take 32 = .ok (.iconst 1, 1) := by decide +kernel
theorem d_M_take_33 : decode b_M_take 33 = .ok (.iadd, 1) := by decide +kernel
theorem d_M_take_34 : decode b_M_take 34 = .ok (.istore_n 3, 1) := by decide +kernel
theorem d_M_take_35 : decode b_M_take 35 = .ok (.iload_n 3, 1) := by decide +kernel
theorem d_M_take_36 : decode b_M_take 36 = .ok (.aload_n 0, 1) := by decide +kernel
theorem d_M_take_37 : decode b_M_take 37 = .ok (.getfield 79, 3) := by decide +kernel
theorem d_M_take_40 : decode b_M_take 40 = .ok (.if_icmp .ge 84, 3) := by decide +kernel
theorem d_M_take_43 : decode b_M_take 43 = .ok (.iconst 0, 1) := by decide +kernel
theorem d_M_take_44 : decode b_M_take 44 = .ok (.istore 4, 2) := by decide +kernel
theorem d_M_take_46 : decode b_M_take 46 = .ok (.iload 4, 2) := by decide +kernel
theorem d_M_take_48 : decode b_M_take 48 = .ok (.aload_n 0, 1) := by decide +kernel
theorem d_M_take_49 : decode b_M_take 49 = .ok (.getfield 30, 3) := by decide +kernel
theorem d_M_take_52 : decode b_M_take 52 = .ok (.iload_n 3, 1) := by decide +kernel
theorem d_M_take_53 : decode b_M_take 53 = .ok (.iaload, 1) := by decide +kernel
theorem d_M_take_54 : decode b_M_take 54 = .ok (.if_icmp .ge 64, 3) := by decide +kernel
theorem d_M_take_57 : decode b_M_take 57 = .ok (.aload_n 0, 1) := by decide +kernel
theorem d_M_take_58 : decode b_M_take 58 = .ok (.getfield 66, 3) := by decide +kernel
theorem d_M_take_61 : decode b_M_take 61 = .ok (.iload_n 2, 1) := by decide +kernel
theorem d_M_take_62 : decode b_M_take 62 = .ok (.aload_n 0, 1) := by decide +kernel
theorem d_M_take_63 : decode b_M_take 63 = .ok (.getfield 66, 3) := by decide +kernel
theorem d_M_take_66 : decode b_M_take 66 = .ok (.iload_n 2, 1) := by decide +kernel
theorem d_M_take_67 : decode b_M_take 67 = .ok (.baload, 1) := by decide +kernel
theorem d_M_take_68 : decode b_M_take 68 = .ok (.ifCond .ne 38, 3) := by decide +kernel
theorem d_M_take_71 : decode b_M_take 71 = .ok (.aload_n 0, 1) := by decide +kernel
theorem d_M_take_72 : decode b_M_take 72 = .ok (.getfield 66, 3) := by decide +kernel
theorem d_M_take_75 : decode b_M_take 75 = .ok (.iload_n 3, 1) := by decide +kernel
theorem d_M_take_76 : decode b_M_take 76 = .ok (.baload, 1) := by decide +kernel
theorem d_M_take_77 : decode b_M_take 77 = .ok (.ifCond .eq 33, 3) := by decide +kernel
theorem d_M_take_80 : decode b_M_take 80 = .ok (.aload_n 0, 1) := by decide +kernel
theorem d_M_take_81 : decode b_M_take 81 = .ok (.iload_n 3, 1) := by decide +kernel
theorem d_M_take_82 : decode b_M_take 82 = .ok (.iload 4, 2) := by decide +kernel
theorem d_M_take_84 : decode b_M_take 84 = .ok (.invokevirtual 97, 3) := by decide +kernel
theorem d_M_take_87 : decode b_M_take 87 = .ok (.ifCond .ne 23, 3) := by decide +kernel
theorem d_M_take_90 : decode b_M_take 90 = .ok (.aload_n 0, 1) := by decide +kernel
theorem d_M_take_91 : decode b_M_take 91 = .ok (.getfield 33, 3) := by decide +kernel
theorem d_M_take_94 : decode b_M_take 94 = .ok (.bipush 6, 2) := by decide +kernel
theorem d_M_take_96 : decode b_M_take 96 = .ok (.iload_n 3, 1) := by decide +kernel
theorem d_M_take_97 : decode b_M_take 97 = .ok (.imul, 1) := by decide +kernel
theorem d_M_take_98 : decode b_M_take 98 = .ok (.iload 4, 2) := by decide +kernel
theorem d_M_take_100 : decode b_M_take 100 = .ok (.iadd, 1) := by decide +kernel
theorem d_M_take_101 : decode b_M_take 101 = .ok (.iaload, 1) := by decide +kernel
theorem d_M_take_102 : decode b_M_take 102 = .ok (.iload_n 2, 1) := by decide +kernel
theorem d_M_take_103 : decode b_M_take 103 = .ok (.if_icmp .ne 7, 3) := by decide +kernel
theorem d_M_take_106 : decode b_M_take 106 = .ok (.iconst 1, 1) := by decide +kernel
theorem d_M_take_107 : decode b_M_take 107 = .ok (.goto 4, 3) := by decide +kernel
theorem d_M_take_110 : decode b_M_take 110 = .ok (.iconst 0, 1) := by decide +kernel
theorem d_M_take_111 : decode b_M_take 111 = .ok (.bastore, 1) := by decide +kernel
theorem d_M_take_112 : decode b_M_take 112 = .ok (.iinc 4 1, 3) := by decide +kernel
theorem d_M_take_115 : decode b_M_take 115 = .ok (.goto (-69), 3) := by decide +kernel
theorem d_M_take_118 : decode b_M_take 118 = .ok (.iinc 3 1, 3) := by decide +kernel
theorem d_M_take_121 : decode b_M_take 121 = .ok (.goto (-86), 3) := by decide +kernel
theorem d_M_take_124 : decode b_M_take 124 = .ok (.iinc 2 (-1), 3) := by decide +kernel
theorem d_M_take_127 : decode b_M_take 127 = .ok (.goto (-120), 3) := by decide +kernel
theorem d_M_take_130 : decode b_M_take 130 = .ok (.return_, 1) := by decide +kernel
theorem d_M_mark_0 : decode b_M_mark 0 = .ok (.iconst 0, 1) := by decide +kernel
theorem d_M_mark_1 : decode b_M_mark 1 = .ok (.istore_n 1, 1) := by decide +kernel
theorem d_M_mark_2 : decode b_M_mark 2 = .ok (.iload_n 1, 1) := by decide +kernel
theorem d_M_mark_3 : decode b_M_mark 3 = .ok (.aload_n 0, 1) := by decide +kernel
theorem d_M_mark_4 : decode b_M_mark 4 = .ok (.getfield 79, 3) := by decide +kernel
theorem d_M_mark_7 : decode b_M_mark 7 = .ok (.if_icmp .ge 158, 3) := by decide +kernel
theorem d_M_mark_10 : decode b_M_mark 10 = .ok (.aload_n 0, 1) := by decide +kernel
theorem d_M_mark_11 : decode b_M_mark 11 = .ok (.getfield 69, 3) := by decide +kernel
theorem d_M_mark_14 : decode b_M_mark 14 = .ok (.iload_n 1, 1) := by decide +kernel
theorem d_M_mark_15 : decode b_M_mark 15 = .ok (.aload_n 0, 1) := by decide +kernel
theorem d_M_mark_16 : decode b_M_mark 16 = .ok (.getfield 66, 3) := by decide +kernel
theorem d_M_mark_19 : decode b_M_mark 19 = .ok (.iload_n 1, 1) := by decide +kernel
theorem d_M_mark_20 : decode b_M_mark 20 = .ok (.baload, 1) := by decide +kernel
theorem d_M_mark_21 : decode b_M_mark 21 = .ok (.ifCond .eq 25, 3) := by decide +kernel
theorem d_M_mark_24 : decode b_M_mark 24 = .ok (.aload_n 0, 1) := by decide +kernel
theorem d_M_mark_25 : decode b_M_mark 25 = .ok (.getfield 39, 3) := by decide +kernel
theorem d_M_mark_28 : decode b_M_mark 28 = .ok (.iload_n 1, 1) := by decide +kernel
theorem d_M_mark_29 : decode b_M_mark 29 = .ok (.iaload, 1) := by decide +kernel
theorem d_M_mark_30 : decode b_M_mark 30 = .ok (.ifCond .eq 12, 3) := by decide +kernel
theorem d_M_mark_33 : decode b_M_mark 33 = .ok (.aload_n 0, 1) := by decide +kernel
theorem d_M_mark_34 : decode b_M_mark 34 = .ok (.getfield 23, 3) := by decide +kernel
theorem d_M_mark_37 : decode b_M_mark 37 = .ok (.iload_n 1, 1) := by decide +kernel
theorem d_M_mark_38 : decode b_M_mark 38 = .ok (.baload, 1) := by decide +kernel
theorem d_M_mark_39 : decode b_M_mark 39 = .ok (.ifCond .eq 7, 3) := by decide +kernel
theorem d_M_mark_42 : decode b_M_mark 42 = .ok (.iconst 1, 1) := by decide +kernel
theorem d_M_mark_43 : decode b_M_mark 43 = .ok (.goto 4, 3) := by decide +kernel
theorem d_M_mark_46 : decode b_M_mark 46 = .ok (.iconst 0, 1) := by decide +kernel
theorem d_M_mark_47 : decode b_M_mark 47 = .ok (.bastore, 1) := by decide +kernel
theorem d_M_mark_48 : decode b_M_mark 48 = .ok (.iconst 0, 1) := by decide +kernel
theorem d_M_mark_49 : decode b_M_mark 49 = .ok (.istore_n 2, 1) := by decide +kernel
theorem d_M_mark_50 : decode b_M_mark 50 = .ok (.iload_n 2, 1) := by decide +kernel
theorem d_M_mark_51 : decode b_M_mark 51 = .ok (.aload_n 0, 1) := by decide +kernel
theorem d_M_mark_52 : decode b_M_mark 52 = .ok (.getfield 30, 3) := by decide +kernel
theorem d_M_mark_55 : decode b_M_mark 55 = .ok (.iload_n 1, 1) := by decide +kernel
theorem d_M_mark_56 : decode b_M_mark 56 = .ok (.iaload, 1) := by decide +kernel
theorem d_M_mark_57 : decode b_M_mark 57 = .ok (.if_icmp .ge 79, 3) := by decide +kernel
theorem d_M_mark_60 : decode b_M_mark 60 = .ok (.aload_n 0, 1) := by decide +kernel
theorem d_M_mark_61 : decode b_M_mark 61 = .ok (.getfield 66, 3) := by decide +kernel
theorem d_M_mark_64 : decode b_M_mark 64 = .ok (.iload_n 1, 1) := by decide +kernel
theorem d_M_mark_65 : decode b_M_mark 65 = .ok (.baload, 1) := by decide +kernel
theorem d_M_mark_66 : decode b_M_mark 66 = .ok (.ifCond .eq 70, 3) := by decide +kernel
theorem d_M_mark_69 : decode b_M_mark 69 = .ok (.aload_n 0, 1) := by decide +kernel
theorem d_M_mark_70 : decode b_M_mark 70 = .ok (.getfield 69, 3) := by decide +kernel
theorem d_M_mark_73 : decode b_M_mark 73 = .ok (.iload_n 1, 1) := by decide +kernel
theorem d_M_mark_74 : decode b_M_mark 74 = .ok (.aload_n 0, 1) := by decide +kernel
theorem d_M_mark_75 : decode b_M_mark 75 = .ok (.getfield 69, 3) := by decide +kernel
theorem d_M_mark_78 : decode b_M_mark 78 = .ok (.iload_n 1, 1) := by decide +kernel
theorem d_M_mark_79 : decode b_M_mark 79 = .ok (.baload, 1) := by decide +kernel
theorem d_M_mark_80 : decode b_M_mark 80 = .ok (.ifCond .ne 44, 3) := by decide +kernel
theorem d_M_mark_83 : decode b_M_mark 83 = .ok (.aload_n 0, 1) := by decide +kernel
theorem d_M_mark_84 : decode b_M_mark 84 = .ok (.iload_n 1, 1) := by decide +kernel
theorem d_M_mark_85 : decode b_M_mark 85 = .ok (.iload_n 2, 1) := by decide +kernel
theorem d_M_mark_86 : decode b_M_mark 86 = .ok (.invokevirtual 97, 3) := by decide +kernel
theorem d_M_mark_89 : decode b_M_mark 89 = .ok (.ifCond .eq 16, 3) := by decide +kernel
theorem d_M_mark_92 : decode b_M_mark 92 = .ok (.aload_n 0, 1) := by decide +kernel
theorem d_M_mark_93 : decode b_M_mark 93 = .ok (.iload_n 1, 1) := by decide +kernel
theorem d_M_mark_94 : decode b_M_mark 94 = .ok (.iconst 0, 1) := by decide +kernel
theorem d_M_mark_95 : decode b_M_mark 95 = .ok (.iload_n 2, 1) := by decide +kernel
theorem d_M_mark_96 : decode b_M_mark 96 = .ok (.invokevirtual 111, 3) := by decide +kernel
theorem d_M_mark_99 : decode b_M_mark 99 = .ok (.ifCond .ne 29, 3) := by decide +kernel
theorem d_M_mark_102 : decode b_M_mark 102 = .ok (.goto 22, 3) := by decide +kernel
theorem d_M_mark_105 : decode b_M_mark 105 = .ok (.aload_n 0, 1) := by decide +kernel
theorem d_M_mark_106 : decode b_M_mark 106 = .ok (.getfield 69, 3) := by decide +kernel
theorem d_M_mark_109 : decode b_M_mark 109 = .ok (.aload_n 0, 1) := by decide +kernel
theorem d_M_mark_110 : decode b_M_mark 110 = .ok (.getfield 33, 3) := by decide +kernel
theorem d_M_mark_113 : decode b_M_mark 113 = .ok (.bipush 6, 2) := by decide +kernel
theorem d_M_mark_115 : decode b_M_mark 115 = .ok (.iload_n 1, 1) := by decide +kernel
theorem d_M_mark_116 : decode b_M_mark 116 = .ok (.imul, 1) := by decide +kernel
theorem d_M_mark_117 : decode b_M_mark 117 = .ok (.iload_n 2, 1) := by decide +kernel
theorem d_M_mark_118 : decode b_M_mark 118 = .ok (.iadd, 1) := by decide +kernel
theorem d_M_mark_119 : decode b_M_mark 119 = .ok (.iaload, 1) := by decide +kernel
theorem d_M_mark_120 : decode b_M_mark 120 = .ok (.baload, 1) := by decide +kernel
theorem d_M_mark_121 : decode b_M_mark 121 = .ok (.ifCond .eq 7, 3) := by decide +kernel
theorem d_M_mark_124 : decode b_M_mark 124 = .ok (.iconst 1, 1) := by decide +kernel
theorem d_M_mark_125 : decode b_M_mark 125 = .ok (.goto 4, 3) := by decide +kernel
theorem d_M_mark_128 : decode b_M_mark 128 = .ok (.iconst 0, 1) := by decide +kernel
theorem d_M_mark_129 : decode b_M_mark 129 = .ok (.bastore, 1) := by decide +kernel
theorem d_M_mark_130 : decode b_M_mark 130 = .ok (.iinc 2 1, 3) := by decide +kernel
theorem d_M_mark_133 : decode b_M_mark 133 = .ok (.goto (-83), 3) := by decide +kernel
theorem d_M_mark_136 : decode b_M_mark 136 = .ok (.aload_n 0, 1) := by decide +kernel
theorem d_M_mark_137 : decode b_M_mark 137 = .ok (.getfield 60, 3) := by decide +kernel
theorem d_M_mark_140 : decode b_M_mark 140 = .ok (.iconst 4, 1) := by decide +kernel
theorem d_M_mark_141 : decode b_M_mark 141 = .ok (.dup2, 1) := by decide +kernel
theorem d_M_mark_142 : decode b_M_mark 142 = .ok (.iaload, 1) := by decide +kernel
theorem d_M_mark_143 : decode b_M_mark 143 = .ok (.aload_n 0, 1) := by decide +kernel
theorem d_M_mark_144 : decode b_M_mark 144 = .ok (.getfield 69, 3) := by decide +kernel
theorem d_M_mark_147 : decode b_M_mark 147 = .ok (.iload_n 1, 1) := by decide +kernel
theorem d_M_mark_148 : decode b_M_mark 148 = .ok (.baload, 1) := by decide +kernel
theorem d_M_mark_149 : decode b_M_mark 149 = .ok (.ifCond .eq 7, 3) := by decide +kernel
theorem d_M_mark_152 : decode b_M_mark 152 = .ok (.iconst 1, 1) := by decide +kernel
theorem d_M_mark_153 : decode b_M_mark 153 = .ok (.goto 4, 3) := by decide +kernel
theorem d_M_mark_156 : decode b_M_mark 156 = .ok (.iconst 0, 1) := by decide +kernel
theorem d_M_mark_157 : decode b_M_mark 157 = .ok (.iadd, 1) := by decide +kernel
theorem d_M_mark_158 : decode b_M_mark 158 = .ok (.iastore, 1) := by decide +kernel
theorem d_M_mark_159 : decode b_M_mark 159 = .ok (.iinc 1 1, 3) := by decide +kernel
theorem d_M_mark_162 : decode b_M_mark 162 = .ok (.goto (-160), 3) := by decide +kernel
theorem d_M_mark_165 : decode b_M_mark 165 = .ok (.return_, 1) := by decide +kernel
theorem d_M_isBlocked_0 : decode b_M_isBlocked 0 = .ok (.iconst 0, 1) := by decide +kernel
theorem d_M_isBlocked_1 : decode b_M_isBlocked 1 = .ok (.istore_n 2, 1) := by decide +kernel
theorem d_M_isBlocked_2 : decode b_M_isBlocked 2 = .ok (.iconst 0, 1) := by decide +kernel
theorem d_M_isBlocked_3 : decode b_M_isBlocked 3 = .ok (.istore_n 3, 1) := by decide +kernel
theorem d_M_isBlocked_4 : decode b_M_isBlocked 4 = .ok (.iload_n 3, 1) := by decide +kernel
theorem d_M_isBlocked_5 : decode b_M_isBlocked 5 = .ok (.aload_n 0, 1) := by decide +kernel
theorem d_M_isBlocked_6 : decode b_M_isBlocked 6 = .ok (.getfield 30, 3) := by decide +kernel
theorem d_M_isBlocked_9 : decode b_M_isBlocked 9 = .ok (.iload_n 1, 1) := by decide +kernel
theorem d_M_isBlocked_10 : decode b_M_isBlocked 10 = .ok (.iaload, 1) := by decide +kernel
theorem d_M_isBlocked_11 : decode b_M_isBlocked 11 = .ok (.if_icmp .ge 74, 3) := by decide +kernel
theorem d_M_isBlocked_14 : decode b_M_isBlocked 14 = .ok (.aload_n 0, 1) := by decide +kernel
theorem d_M_isBlocked_15 : decode b_M_isBlocked 15 = .ok (.getfield 33, 3) := by decide +kernel
theorem d_M_isBlocked_18 : decode b_M_isBlocked 18 = .ok (.bipush 6, 2) := by decide +kernel
theorem d_M_isBlocked_20 : decode b_M_isBlocked 20 = .ok (.iload_n 1, 1) := by decide +kernel
theorem d_M_isBlocked_21 : decode b_M_isBlocked 21 = .ok (.imul, 1) := by decide +kernel
theorem d_M_isBlocked_22 : decode b_M_isBlocked 22 = .ok (.iload_n 3, 1) := by decide +kernel
theorem d_M_isBlocked_23 : decode b_M_isBlocked 23 = .ok (.iadd, 1) := by decide +kernel
theorem d_M_isBlocked_24 : decode b_M_isBlocked 24 = .ok (.iaload, 1) := by decide +kernel
theorem d_M_isBlocked_25 : decode b_M_isBlocked 25 = .ok (.istore 4, 2) := by decide +kernel
theorem d_M_isBlocked_27 : decode b_M_isBlocked 27 = .ok (.iload_n 2, 1) := by decide +kernel
theorem d_M_isBlocked_28 : decode b_M_isBlocked 28 = .ok (.ifCond .ne 45, 3) := by decide +kernel
theorem d_M_isBlocked_31 : decode b_M_isBlocked 31 = .ok (.aload_n 0, 1) := by decide +kernel
theorem d_M_isBlocked_32 : decode b_M_isBlocked 32 = .ok (.iload_n 1, 1) := by decide +kernel
theorem d_M_isBlocked_33 : decode b_M_isBlocked 33 = .ok (.iload_n 3, 1) := by decide +kernel
theorem d_M_isBlocked_34 : decode b_M_isBlocked 34 = .ok (.invokevirtual 97, 3) := by decide +kernel
theorem d_M_isBlocked_37 : decode b_M_isBlocked 37 = .ok (.ifCond .ne 40, 3) := by decide +kernel
theorem d_M_isBlocked_40 : decode b_M_isBlocked 40 = .ok (.aload_n 0, 1) := by decide +kernel
theorem d_M_isBlocked_41 : decode b_M_isBlocked 41 = .ok (.getfield 54, 3) := by decide +kernel
theorem d_M_isBlocked_44 : decode b_M_isBlocked 44 = .ok (.iload 4, 2) := by decide +kernel
theorem d_M_isBlocked_46 : decode b_M_isBlocked 46 = .ok (.iaload, 1) := by decide +kernel
theorem d_M_isBlocked_47 : decode b_M_isBlocked 47 = .ok (.iconst 5, 1) := by decide +kernel
theorem d_M_isBlocked_48 : decode b_M_isBlocked 48 = .ok (.if_icmp .eq 25, 3) := by decide +kernel
theorem d_M_isBlocked_51 : decode b_M_isBlocked 51 = .ok (.aload_n 0, 1) := by decide +kernel
theorem d_M_isBlocked_52 : decode b_M_isBlocked 52 = .ok (.getfield 54, 3) := by decide +kernel
theorem d_M_isBlocked_55 : decode b_M_isBlocked 55 = .ok (.iload 4, 2) := by decide +kernel
theorem d_M_isBlocked_57 : decode b_M_isBlocked 57 = .ok (.iaload, 1) := by decide +kernel
theorem d_M_isBlocked_58 : decode b_M_isBlocked 58 = .ok (.iconst 3, 1) := by decide +kernel
theorem d_M_isBlocked_59 : decode b_M_isBlocked 59 = .ok (.if_icmp .eq 14, 3) := by decide +kernel
theorem d_M_isBlocked_62 : decode b_M_isBlocked 62 = .ok (.aload_n 0, 1) := by decide +kernel
theorem d_M_isBlocked_63 : decode b_M_isBlocked 63 = .ok (.getfield 54, 3) := by decide +kernel
theorem d_M_isBlocked_66 : decode b_M_isBlocked 66 = .ok (.iload 4, 2) := by decide +kernel
theorem d_M_isBlocked_68 : decode b_M_isBlocked 68 = .ok (.iaload, 1) := by decide +kernel
theorem d_M_isBlocked_69 : decode b_M_isBlocked 69 = .ok (.iconst 4, 1) := by decide +kernel
theorem d_M_isBlocked_70 : decode b_M_isBlocked 70 = .ok (.if_icmp .ne 7, 3) := by decide +kernel
theorem d_M_isBlocked_73 : decode b_M_isBlocked 73 = .ok (.iconst 1, 1) := by decide +kernel
theorem d_M_isBlocked_74 : decode b_M_isBlocked 74 = .ok (.goto 4, 3) := by decide +kernel
theorem d_M_isBlocked_77 : decode b_M_isBlocked 77 = .ok (.iconst 0, 1) := by decide +kernel
theorem d_M_isBlocked_78 : decode b_M_isBlocked 78 = .ok (.istore_n 2, 1) := by decide +kernel
theorem d_M_isBlocked_79 : decode b_M_isBlocked 79 = .ok (.iinc 3 1, 3) := by decide +kernel
theorem d_M_isBlocked_82 : decode b_M_isBlocked 82 = .ok (.goto (-78), 3) := by decide +kernel
theorem d_M_isBlocked_85 : decode b_M_isBlocked 85 = .ok (.iload_n 2, 1) := by decide +kernel
theorem d_M_isBlocked_86 : decode b_M_isBlocked 86 = .ok (.ireturn, 1) := by decide +kernel
theorem d_M_causeOf_0 : decode b_M_causeOf 0 = .ok (.aload_n 0, 1) := by decide +kernel
theorem d_M_causeOf_1 : decode b_M_causeOf 1 = .ok (.getfield 39, 3) := by decide +kernel
theorem d_M_causeOf_4 : decode b_M_causeOf 4 = .ok (.iload_n 1, 1) := by decide +kernel
theorem d_M_causeOf_5 : decode b_M_causeOf 5 = .ok (.iaload, 1) := by decide +kernel
theorem d_M_causeOf_6 : decode b_M_causeOf 6 = .ok (.ifCond .ne 5, 3) := by decide +kernel
theorem d_M_causeOf_9 : decode b_M_causeOf 9 = .ok (.iconst 0, 1) := by decide +kernel
theorem d_M_causeOf_10 : decode b_M_causeOf 10 = .ok (.ireturn, 1) := by decide +kernel
theorem d_M_causeOf_11 : decode b_M_causeOf 11 = .ok (.aload_n 0, 1) := by decide +kernel
theorem d_M_causeOf_12 : decode b_M_causeOf 12 = .ok (.getfield 23, 3) := by decide +kernel
theorem d_M_causeOf_15 : decode b_M_causeOf 15 = .ok (.iload_n 1, 1) := by decide +kernel
theorem d_M_causeOf_16 : decode b_M_causeOf 16 = .ok (.baload, 1) := by decide +kernel
theorem d_M_causeOf_17 : decode b_M_causeOf 17 = .ok (.ifCond .eq 5, 3) := by decide +kernel
theorem d_M_causeOf_20 : decode b_M_causeOf 20 = .ok (.iconst 1, 1) := by decide +kernel
theorem d_M_causeOf_21 : decode b_M_causeOf 21 = .ok (.ireturn, 1) := by decide +kernel
theorem d_M_causeOf_22 : decode b_M_causeOf 22 = .ok (.iconst 0, 1) := by decide +kernel
theorem d_M_causeOf_23 : decode b_M_causeOf 23 = .ok (.istore_n 2, 1) := by decide +kernel
theorem d_M_causeOf_24 : decode b_M_causeOf 24 = .ok (.aload_n 0, 1) := by decide +kernel
theorem d_M_causeOf_25 : decode b_M_causeOf 25 = .ok (.iload_n 1, 1) := by decide +kernel
theorem d_M_causeOf_26 : decode b_M_causeOf 26 = .ok (.iconst 0, 1) := by decide +kernel
theorem d_M_causeOf_27 : decode b_M_causeOf 27 = .ok (.iload_n 2, 1) := by decide +kernel
theorem d_M_causeOf_28 : decode b_M_causeOf 28 = .ok (.invokevirtual 111, 3) := by decide +kernel
theorem d_M_causeOf_31 : decode b_M_causeOf 31 = .ok (.ifCond .eq 9, 3) := by decide +kernel
theorem d_M_causeOf_34 : decode b_M_causeOf 34 = .ok (.iinc 2 1, 3) := by decide +kernel
theorem d_M_causeOf_37 : decode b_M_causeOf 37 = .ok (.goto (-13), 3) := by decide +kernel
theorem d_M_causeOf_40 : decode b_M_causeOf 40 = .ok (.aload_n 0, 1) := by decide +kernel
theorem d_M_causeOf_41 : decode b_M_causeOf 41 = .ok (.iload_n 1, 1) := by decide +kernel
theorem d_M_causeOf_42 : decode b_M_causeOf 42 = .ok (.iload_n 2, 1) := by decide +kernel
theorem d_M_causeOf_43 : decode b_M_causeOf 43 = .ok (.invokevirtual 97, 3) := by decide +kernel
theorem d_M_causeOf_46 : decode b_M_causeOf 46 = .ok (.ifCond .eq 7, 3) := by decide +kernel
theorem d_M_causeOf_49 : decode b_M_causeOf 49 = .ok (.iconst 2, 1) := by decide +kernel
theorem d_M_causeOf_50 : decode b_M_causeOf 50 = .ok (.goto 4, 3) := by decide +kernel
theorem d_M_causeOf_53 : decode b_M_causeOf 53 = .ok (.iconst 3, 1) := by decide +kernel
theorem d_M_causeOf_54 : decode b_M_causeOf 54 = .ok (.ireturn, 1) := by decide +kernel
theorem d_M_work_0 : decode b_M_work 0 = .ok (.aload_n 0, 1) := by decide +kernel
theorem d_M_work_1 : decode b_M_work 1 = .ok (.iload_n 1, 1) := by decide +kernel
theorem d_M_work_2 : decode b_M_work 2 = .ok (.invokevirtual 122, 3) := by decide +kernel
theorem d_M_work_5 : decode b_M_work 5 = .ok (.istore_n 2, 1) := by decide +kernel
theorem d_M_work_6 : decode b_M_work 6 = .ok (.iload_n 2, 1) := by decide +kernel
theorem d_M_work_7 : decode b_M_work 7 = .ok (.iconst (-1), 1) := by decide +kernel
theorem d_M_work_8 : decode b_M_work 8 = .ok (.if_icmp .eq 7, 3) := by decide +kernel
theorem d_M_work_11 : decode b_M_work 11 = .ok (.iload_n 2, 1) := by decide +kernel
theorem d_M_work_12 : decode b_M_work 12 = .ok (.goto 23, 3) := by decide +kernel
theorem d_M_work_15 : decode b_M_work 15 = .ok (.aload_n 0, 1) := by decide +kernel
theorem d_M_work_16 : decode b_M_work 16 = .ok (.getfield 39, 3) := by decide +kernel
theorem d_M_work_19 : decode b_M_work 19 = .ok (.iload_n 1, 1) := by decide +kernel
theorem d_M_work_20 : decode b_M_work 20 = .ok (.iaload, 1) := by decide +kernel
theorem d_M_work_21 : decode b_M_work 21 = .ok (.iconst 3, 1) := by decide +kernel
theorem d_M_work_22 : decode b_M_work 22 = .ok (.if_icmp .ge 12, 3) := by decide +kernel
theorem d_M_work_25 : decode b_M_work 25 = .ok (.aload_n 0, 1) := by decide +kernel
theorem d_M_work_26 : decode b_M_work 26 = .ok (.getfield 39, 3) := by decide +kernel
theorem d_M_work_29 : decode b_M_work 29 = .ok (.iload_n 1, 1) := by decide +kernel
theorem d_M_work_30 : decode b_M_work 30 = .ok (.iaload, 1) := by decide +kernel
theorem d_M_work_31 : decode b_M_work 31 = .ok (.goto 4, 3) := by decide +kernel
theorem d_M_work_34 : decode b_M_work 34 = .ok (.iconst 2, 1) := by decide +kernel
theorem d_M_work_35 : decode b_M_work 35 = .ok (.istore_n 3, 1) := by decide +kernel
theorem d_M_work_36 : decode b_M_work 36 = .ok (.aload_n 0, 1) := by decide +kernel
theorem d_M_work_37 : decode b_M_work 37 = .ok (.getfield 39, 3) := by decide +kernel
theorem d_M_work_40 : decode b_M_work 40 = .ok (.iload_n 1, 1) := by decide +kernel
theorem d_M_work_41 : decode b_M_work 41 = .ok (.dup2, 1) := by decide +kernel
theorem d_M_work_42 : decode b_M_work 42 = .ok (.iaload, 1) := by decide +kernel
theorem d_M_work_43 : decode b_M_work 43 = .ok (.iload_n 2, 1) := by decide +kernel
theorem d_M_work_44 : decode b_M_work 44 = .ok (.iconst (-1), 1) := by decide +kernel
theorem d_M_work_45 : decode b_M_work 45 = .ok (.if_icmp .ne 17, 3) := by decide +kernel
theorem d_M_work_48 : decode b_M_work 48 = .ok (.aload_n 0, 1) := by decide +kernel
theorem d_M_work_49 : decode b_M_work 49 = .ok (.getfield 39, 3) := by decide +kernel
theorem d_M_work_52 : decode b_M_work 52 = .ok (.iload_n 1, 1) := by decide +kernel
theorem d_M_work_53 : decode b_M_work 53 = .ok (.iaload, 1) := by decide +kernel
theorem d_M_work_54 : decode b_M_work 54 = .ok (.iconst 3, 1) := by decide +kernel
theorem d_M_work_55 : decode b_M_work 55 = .ok (.if_icmp .ge 7, 3) := by decide +kernel
theorem d_M_work_58 : decode b_M_work 58 = .ok (.iconst 1, 1) := by decide +kernel
theorem d_M_work_59 : decode b_M_work 59 = .ok (.goto 4, 3) := by decide +kernel
theorem d_M_work_62 : decode b_M_work 62 = .ok (.iconst 0, 1) := by decide +kernel
theorem d_M_work_63 : decode b_M_work 63 = .ok (.iadd, 1) := by decide +kernel
theorem d_M_work_64 : decode b_M_work 64 = .ok (.iastore, 1) := by decide +kernel
theorem d_M_work_65 : decode b_M_work 65 = .ok (.aload_n 0, 1) := by decide +kernel
theorem d_M_work_66 : decode b_M_work 66 = .ok (.iload_n 1, 1) := by decide +kernel
theorem d_M_work_67 : decode b_M_work 67 = .ok (.iload_n 3, 1) := by decide +kernel
theorem d_M_work_68 : decode b_M_work 68 = .ok (.invokevirtual 118, 3) := by decide +kernel
theorem d_M_work_71 : decode b_M_work 71 = .ok (.ldc2_w 126, 3) := by decide +kernel
theorem d_M_work_74 : decode b_M_work 74 = .ok (.lstore 4, 2) := by decide +kernel
theorem d_M_work_76 : decode b_M_work 76 = .ok (.iconst (-1), 1) := by decide +kernel
theorem d_M_work_77 : decode b_M_work 77 = .ok (.istore 6, 2) := by decide +kernel
theorem d_M_work_79 : decode b_M_work 79 = .ok (.iconst 0, 1) := by decide +kernel
theorem d_M_work_80 : decode b_M_work 80 = .ok (.istore 7, 2) := by decide +kernel
theorem d_M_work_82 : decode b_M_work 82 = .ok (.iload 7, 2) := by decide +kernel
theorem d_M_work_84 : decode b_M_work 84 = .ok (.aload_n 0, 1) := by decide +kernel
theorem d_M_work_85 : decode b_M_work 85 = .ok (.getfield 30, 3) := by decide +kernel
theorem d_M_work_88 : decode b_M_work 88 = .ok (.iload_n 1, 1) := by decide +kernel
theorem d_M_work_89 : decode b_M_work 89 = .ok (.iaload, 1) := by decide +kernel
theorem d_M_work_90 : decode b_M_work 90 = .ok (.if_icmp .ge 91, 3) := by decide +kernel
theorem d_M_work_93 : decode b_M_work 93 = .ok (.bipush 6, 2) := by decide +kernel
theorem d_M_work_95 : decode b_M_work 95 = .ok (.iload_n 1, 1) := by decide +kernel
theorem d_M_work_96 : decode b_M_work 96 = .ok (.iconst 0, 1) := by decide +kernel
theorem d_M_work_97 : decode b_M_work 97 = .ok (.invokestatic 93, 3) := by decide +kernel
theorem d_M_work_100 : decode b_M_work 100 = .ok (.imul, 1) := by decide +kernel
theorem d_M_work_101 : decode b_M_work 101 = .ok (.iload 7, 2) := by decide +kernel
theorem d_M_work_103 : decode b_M_work 103 = .ok (.iadd, 1) := by decide +kernel
theorem d_M_work_104 : decode b_M_work 104 = .ok (.istore 8, 2) := by decide +kernel
theorem d_M_work_106 : decode b_M_work 106 = .ok (.aload_n 0, 1) := by decide +kernel
theorem d_M_work_107 : decode b_M_work 107 = .ok (.getfield 48, 3) := by decide +kernel
theorem d_M_work_110 : decode b_M_work 110 = .ok (.iload 8, 2) := by decide +kernel
theorem d_M_work_112 : decode b_M_work 112 = .ok (.aload_n 0, 1) := by decide +kernel
theorem d_M_work_113 : decode b_M_work 113 = .ok (.iload_n 1, 1) := by decide +kernel
theorem d_M_work_114 : decode b_M_work 114 = .ok (.iload 7, 2) := by decide +kernel
theorem d_M_work_116 : decode b_M_work 116 = .ok (.invokevirtual 108, 3) := by decide +kernel
theorem d_M_work_119 : decode b_M_work 119 = .ok (.lastore, 1) := by decide +kernel
theorem d_M_work_120 : decode b_M_work 120 = .ok (.aload_n 0, 1) := by decide +kernel
theorem d_M_work_121 : decode b_M_work 121 = .ok (.getfield 51, 3) := by decide +kernel
theorem d_M_work_124 : decode b_M_work 124 = .ok (.iload 8, 2) := by decide +kernel
theorem d_M_work_126 : decode b_M_work 126 = .ok (.aload_n 0, 1) := by decide +kernel
theorem d_M_work_127 : decode b_M_work 127 = .ok (.iload_n 1, 1) := by decide +kernel
theorem d_M_work_128 : decode b_M_work 128 = .ok (.iload 7, 2) := by decide +kernel
theorem d_M_work_130 : decode b_M_work 130 = .ok (.invokevirtual 105, 3) := by decide +kernel
theorem d_M_work_133 : decode b_M_work 133 = .ok (.bastore, 1) := by decide +kernel
theorem d_M_work_134 : decode b_M_work 134 = .ok (.ldc2_w 128, 3) := by decide +kernel
theorem d_M_work_137 : decode b_M_work 137 = .ok (.lload 4, 2) := by decide +kernel
theorem d_M_work_139 : decode b_M_work 139 = .ok (.lmul, 1) := by decide +kernel
theorem d_M_work_140 : decode b_M_work 140 = .ok (.aload_n 0, 1) := by decide +kernel
theorem d_M_work_141 : decode b_M_work 141 = .ok (.getfield 48, 3) := by decide +kernel
theorem d_M_work_144 : decode b_M_work 144 = .ok (.iload 8, 2) := by decide +kernel
theorem d_M_work_146 : decode b_M_work 146 = .ok (.laload, 1) := by decide +kernel
theorem d_M_work_147 : decode b_M_work 147 = .ok (.ladd, 1) := by decide +kernel
theorem d_M_work_148 : decode b_M_work 148 = .ok (.lstore 4, 2) := by decide +kernel
theorem d_M_work_150 : decode b_M_work 150 = .ok (.iload 6, 2) := by decide +kernel
theorem d_M_work_152 : decode b_M_work 152 = .ok (.iconst (-1), 1) := by decide +kernel
theorem d_M_work_153 : decode b_M_work 153 = .ok (.if_icmp .ne 18, 3) := by decide +kernel
theorem d_M_work_156 : decode b_M_work 156 = .ok (.aload_n 0, 1) := by decide +kernel
theorem d_M_work_157 : decode b_M_work 157 = .ok (.getfield 51, 3) := by decide +kernel
theorem d_M_work_160 : decode b_M_work 160 = .ok (.iload 8, 2) := by decide +kernel
theorem d_M_work_162 : decode b_M_work 162 = .ok (.baload, 1) := by decide +kernel
theorem d_M_work_163 : decode b_M_work 163 = .ok (.ifCond .ne 8, 3) := by decide +kernel
theorem d_M_work_166 : decode b_M_work 166 = .ok (.iload 7, 2) := by decide +kernel
theorem d_M_work_168 : decode b_M_work 168 = .ok (.goto 5, 3) := by decide +kernel
theorem d_M_work_171 : decode b_M_work 171 = .ok (.iload 6, 2) := by decide +kernel
theorem d_M_work_173 : decode b_M_work 173 = .ok (.istore 6, 2) := by decide +kernel
theorem d_M_work_175 : decode b_M_work 175 = .ok (.iinc 7 1, 3) := by decide +kernel
theorem d_M_work_178 : decode b_M_work 178 = .ok (.goto (-96), 3) := by decide +kernel
theorem d_M_work_181 : decode b_M_work 181 = .ok (.iload 6, 2) := by decide +kernel
theorem d_M_work_183 : decode b_M_work 183 = .ok (.iconst (-1), 1) := by decide +kernel
theorem d_M_work_184 : decode b_M_work 184 = .ok (.if_icmp .ne 32, 3) := by decide +kernel
theorem d_M_work_187 : decode b_M_work 187 = .ok (.aload_n 0, 1) := by decide +kernel
theorem d_M_work_188 : decode b_M_work 188 = .ok (.getfield 16, 3) := by decide +kernel
theorem d_M_work_191 : decode b_M_work 191 = .ok (.iload_n 1, 1) := by decide +kernel
theorem d_M_work_192 : decode b_M_work 192 = .ok (.laload, 1) := by decide +kernel
theorem d_M_work_193 : decode b_M_work 193 = .ok (.lconst 0, 1) := by decide +kernel
theorem d_M_work_194 : decode b_M_work 194 = .ok (.lcmp, 1) := by decide +kernel
theorem d_M_work_195 : decode b_M_work 195 = .ok (.ifCond .eq 21, 3) := by decide +kernel
theorem d_M_work_198 : decode b_M_work 198 = .ok (.lload 4, 2) := by decide +kernel
theorem d_M_work_200 : decode b_M_work 200 = .ok (.aload_n 0, 1) := by decide +kernel
theorem d_M_work_201 : decode b_M_work 201 = .ok (.getfield 16, 3) := by decide +kernel
theorem d_M_work_204 : decode b_M_work 204 = .ok (.iload_n 1, 1) := by decide +kernel
theorem d_M_work_205 : decode b_M_work 205 = .ok (.laload, 1) := by decide +kernel
theorem d_M_work_206 : decode b_M_work 206 = .ok (.lrem, 1) := by decide +kernel
theorem d_M_work_207 : decode b_M_work 207 = .ok (.lconst 0, 1) := by decide +kernel
theorem d_M_work_208 : decode b_M_work 208 = .ok (.lcmp, 1) := by decide +kernel
theorem d_M_work_209 : decode b_M_work 209 = .ok (.ifCond .ne 7, 3) := by decide +kernel
theorem d_M_work_212 : decode b_M_work 212 = .ok (.bipush 6, 2) := by decide +kernel
theorem d_M_work_214 : decode b_M_work 214 = .ok (.istore 6, 2) := by decide +kernel
theorem d_M_work_216 : decode b_M_work 216 = .ok (.aload_n 0, 1) := by decide +kernel
theorem d_M_work_217 : decode b_M_work 217 = .ok (.getfield 45, 3) := by decide +kernel
theorem d_M_work_220 : decode b_M_work 220 = .ok (.iload_n 1, 1) := by decide +kernel
theorem d_M_work_221 : decode b_M_work 221 = .ok (.iconst 0, 1) := by decide +kernel
theorem d_M_work_222 : decode b_M_work 222 = .ok (.invokestatic 93, 3) := by decide +kernel
theorem d_M_work_225 : decode b_M_work 225 = .ok (.lload 4, 2) := by decide +kernel
theorem d_M_work_227 : decode b_M_work 227 = .ok (.lastore, 1) := by decide +kernel
theorem d_M_work_228 : decode b_M_work 228 = .ok (.aload_n 0, 1) := by decide +kernel
theorem d_M_work_229 : decode b_M_work 229 = .ok (.getfield 42, 3) := by decide +kernel
theorem d_M_work_232 : decode b_M_work 232 = .ok (.iload_n 1, 1) := by decide +kernel
theorem d_M_work_233 : decode b_M_work 233 = .ok (.iconst 0, 1) := by decide +kernel
theorem d_M_work_234 : decode b_M_work 234 = .ok (.invokestatic 93, 3) := by decide +kernel
theorem d_M_work_237 : decode b_M_work 237 = .ok (.iload 6, 2) := by decide +kernel
theorem d_M_work_239 : decode b_M_work 239 = .ok (.iastore, 1) := by decide +kernel
theorem d_M_work_240 : decode b_M_work 240 = .ok (.return_, 1) := by decide +kernel
theorem d_M_compare_0 : decode b_M_compare 0 = .ok (.iload_n 2, 1) := by decide +kernel
theorem d_M_compare_1 : decode b_M_compare 1 = .ok (.ifCond .eq 11, 3) := by decide +kernel
theorem d_M_compare_4 : decode b_M_compare 4 = .ok (.aload_n 0, 1) := by decide +kernel
theorem d_M_compare_5 : decode b_M_compare 5 = .ok (.iload_n 1, 1) := by decide +kernel
theorem d_M_compare_6 : decode b_M_compare 6 = .ok (.invokevirtual 130, 3) := by decide +kernel
theorem d_M_compare_9 : decode b_M_compare 9 = .ok (.ifCond .ne 4, 3) := by decide +kernel
theorem d_M_compare_12 : decode b_M_compare 12 = .ok (.return_, 1) := by decide +kernel
theorem d_M_compare_13 : decode b_M_compare 13 = .ok (.aload_n 0, 1) := by decide +kernel
theorem d_M_compare_14 : decode b_M_compare 14 = .ok (.iload_n 1, 1) := by decide +kernel
theorem d_M_compare_15 : decode b_M_compare 15 = .ok (.iconst 1, 1) := by decide +kernel
theorem d_M_compare_16 : decode b_M_compare 16 = .ok (.invokevirtual 101, 3) := by decide +kernel
theorem d_M_compare_19 : decode b_M_compare 19 = .ok (.lload 5, 2) := by decide +kernel
theorem d_M_compare_21 : decode b_M_compare 21 = .ok (.lcmp, 1) := by decide +kernel
theorem d_M_compare_22 : decode b_M_compare 22 = .ok (.ifCond .ne 18, 3) := by decide +kernel
theorem d_M_compare_25 : decode b_M_compare 25 = .ok (.aload_n 0, 1) := by decide +kernel
theorem d_M_compare_26 : decode b_M_compare 26 = .ok (.iload_n 1, 1) := by decide +kernel
theorem d_M_compare_27 : decode b_M_compare 27 = .ok (.iconst 0, 1) := by decide +kernel
theorem d_M_compare_28 : decode b_M_compare 28 = .ok (.invokevirtual 101, 3) := by decide +kernel
theorem d_M_compare_31 : decode b_M_compare 31 = .ok (.lload_n 3, 1) := by decide +kernel
theorem d_M_compare_32 : decode b_M_compare 32 = .ok (.lcmp, 1) := by decide +kernel
theorem d_M_compare_33 : decode b_M_compare 33 = .ok (.ifCond .ne 7, 3) := by decide +kernel
theorem d_M_compare_36 : decode b_M_compare 36 = .ok (.iconst 1, 1) := by decide +kernel
theorem d_M_compare_37 : decode b_M_compare 37 = .ok (.goto 4, 3) := by decide +kernel
theorem d_M_compare_40 : decode b_M_compare 40 = .ok (.iconst 0, 1) := by decide +kernel
theorem d_M_compare_41 : decode b_M_compare 41 = .ok (.istore 8, 2) := by decide +kernel
theorem d_M_compare_43 : decode b_M_compare 43 = .ok (.aload_n 0, 1) := by decide +kernel
theorem d_M_compare_44 : decode b_M_compare 44 = .ok (.getfield 60, 3) := by decide +kernel
theorem d_M_compare_47 : decode b_M_compare 47 = .ok (.iconst 1, 1) := by decide +kernel
theorem d_M_compare_48 : decode b_M_compare 48 = .ok (.dup2, 1) := by decide +kernel
theorem d_M_compare_49 : decode b_M_compare 49 = .ok (.iaload, 1) := by decide +kernel
theorem d_M_compare_50 : decode b_M_compare 50 = .ok (.iload 8, 2) := by decide +kernel
theorem d_M_compare_52 : decode b_M_compare 52 = .ok (.ifCond .eq 7, 3) := by decide +kernel
theorem d_M_compare_55 : decode b_M_compare 55 = .ok (.iconst 1, 1) := by decide +kernel
theorem d_M_compare_56 : decode b_M_compare 56 = .ok (.goto 4, 3) := by decide +kernel
theorem d_M_compare_59 : decode b_M_compare 59 = .ok (.iconst 0, 1) := by decide +kernel
theorem d_M_compare_60 : decode b_M_compare 60 = .ok (.iadd, 1) := by decide +kernel
theorem d_M_compare_61 : decode b_M_compare 61 = .ok (.iastore, 1) := by decide +kernel
theorem d_M_compare_62 : decode b_M_compare 62 = .ok (.aload_n 0, 1) := by decide +kernel
theorem d_M_compare_63 : decode b_M_compare 63 = .ok (.getfield 60, 3) := by decide +kernel
theorem d_M_compare_66 : decode b_M_compare 66 = .ok (.iconst 2, 1) := by decide +kernel
theorem d_M_compare_67 : decode b_M_compare 67 = .ok (.dup2, 1) := by decide +kernel
theorem d_M_compare_68 : decode b_M_compare 68 = .ok (.iaload, 1) := by decide +kernel
theorem d_M_compare_69 : decode b_M_compare 69 = .ok (.iload 8, 2) := by decide +kernel
theorem d_M_compare_71 : decode b_M_compare 71 = .ok (.ifCond .ne 18, 3) := by decide +kernel
theorem d_M_compare_74 : decode b_M_compare 74 = .ok (.aload_n 0, 1) := by decide +kernel
theorem d_M_compare_75 : decode b_M_compare 75 = .ok (.iload_n 1, 1) := by decide +kernel
theorem d_M_compare_76 : decode b_M_compare 76 = .ok (.iconst 0, 1) := by decide +kernel
theorem d_M_compare_77 : decode b_M_compare 77 = .ok (.invokevirtual 101, 3) := by decide +kernel
theorem d_M_compare_80 : decode b_M_compare 80 = .ok (.lload_n 3, 1) := by decide +kernel
theorem d_M_compare_81 : decode b_M_compare 81 = .ok (.lcmp, 1) := by decide +kernel
theorem d_M_compare_82 : decode b_M_compare 82 = .ok (.ifCond .ne 7, 3) := by decide +kernel
theorem d_M_compare_85 : decode b_M_compare 85 = .ok (.iconst 1, 1) := by decide +kernel
theorem d_M_compare_86 : decode b_M_compare 86 = .ok (.goto 4, 3) := by decide +kernel
theorem d_M_compare_89 : decode b_M_compare 89 = .ok (.iconst 0, 1) := by decide +kernel
theorem d_M_compare_90 : decode b_M_compare 90 = .ok (.iadd, 1) := by decide +kernel
theorem d_M_compare_91 : decode b_M_compare 91 = .ok (.iastore, 1) := by decide +kernel
theorem d_M_compare_92 : decode b_M_compare 92 = .ok (.aload_n 0, 1) := by decide +kernel
theorem d_M_compare_93 : decode b_M_compare 93 = .ok (.dup, 1) := by decide +kernel
theorem d_M_compare_94 : decode b_M_compare 94 = .ok (.getfield 133, 3) := by decide +kernel
theorem d_M_compare_97 : decode b_M_compare 97 = .ok (.iload 8, 2) := by decide +kernel
theorem d_M_compare_99 : decode b_M_compare 99 = .ok (.ifCond .eq 12, 3) := by decide +kernel
theorem d_M_compare_102 : decode b_M_compare 102 = .ok (.iload 7, 2) := by decide +kernel
theorem d_M_compare_104 : decode b_M_compare 104 = .ok (.ifCond .eq 7, 3) := by decide +kernel
theorem d_M_compare_107 : decode b_M_compare 107 = .ok (.iconst 1, 1) := by decide +kernel
theorem d_M_compare_108 : decode b_M_compare 108 = .ok (.goto 4, 3) := by decide +kernel
theorem d_M_compare_111 : decode b_M_compare 111 = .ok (.iconst 0, 1) := by decide +kernel
theorem d_M_compare_112 : decode b_M_compare 112 = .ok (.iadd, 1) := by decide +kernel
theorem d_M_compare_113 : decode b_M_compare 113 = .ok (.putfield 133, 3) := by decide +kernel
theorem d_M_compare_116 : decode b_M_compare 116 = .ok (.return_, 1) := by decide +kernel
theorem d_M_go_0 : decode b_M_go 0 = .ok (.aload_n 0, 1) := by decide +kernel
theorem d_M_go_1 : decode b_M_go 1 = .ok (.iload_n 1, 1) := by decide +kernel
theorem d_M_go_2 : decode b_M_go 2 = .ok (.invokevirtual 136, 3) := by decide +kernel
theorem d_M_go_5 : decode b_M_go 5 = .ok (.ifCond .eq 22, 3) := by decide +kernel
theorem d_M_go_8 : decode b_M_go 8 = .ok (.aload_n 0, 1) := by decide +kernel
theorem d_M_go_9 : decode b_M_go 9 = .ok (.getfield 54, 3) := by decide +kernel
theorem d_M_go_12 : decode b_M_go 12 = .ok (.iload_n 1, 1) := by decide +kernel
theorem d_M_go_13 : decode b_M_go 13 = .ok (.iconst 5, 1) := by decide +kernel
theorem d_M_go_14 : decode b_M_go 14 = .ok (.iastore, 1) := by decide +kernel
theorem d_M_go_15 : decode b_M_go 15 = .ok (.aload_n 0, 1) := by decide +kernel
theorem d_M_go_16 : decode b_M_go 16 = .ok (.getfield 60, 3) := by decide +kernel
theorem d_M_go_19 : decode b_M_go 19 = .ok (.iconst 3, 1) := by decide +kernel
theorem d_M_go_20 : decode b_M_go 20 = .ok (.dup2, 1) := by decide +kernel
theorem d_M_go_21 : decode b_M_go 21 = .ok (.iaload, 1) := by decide +kernel
theorem d_M_go_22 : decode b_M_go 22 = .ok (.iconst 1, 1) := by decide +kernel
theorem d_M_go_23 : decode b_M_go 23 = .ok (.iadd, 1) := by decide +kernel
theorem d_M_go_24 : decode b_M_go 24 = .ok (.iastore, 1) := by decide +kernel
theorem d_M_go_25 : decode b_M_go 25 = .ok (.iconst 0, 1) := by decide +kernel
theorem d_M_go_26 : decode b_M_go 26 = .ok (.ireturn, 1) := by decide +kernel
theorem d_M_go_27 : decode b_M_go 27 = .ok (.aload_n 0, 1) := by decide +kernel
theorem d_M_go_28 : decode b_M_go 28 = .ok (.iload_n 1, 1) := by decide +kernel
theorem d_M_go_29 : decode b_M_go 29 = .ok (.invokevirtual 130, 3) := by decide +kernel
theorem d_M_go_32 : decode b_M_go 32 = .ok (.istore_n 2, 1) := by decide +kernel
theorem d_M_go_33 : decode b_M_go 33 = .ok (.iload_n 2, 1) := by decide +kernel
theorem d_M_go_34 : decode b_M_go 34 = .ok (.ifCond .eq 12, 3) := by decide +kernel
theorem d_M_go_37 : decode b_M_go 37 = .ok (.aload_n 0, 1) := by decide +kernel
theorem d_M_go_38 : decode b_M_go 38 = .ok (.iload_n 1, 1) := by decide +kernel
theorem d_M_go_39 : decode b_M_go 39 = .ok (.iconst 0, 1) := by decide +kernel
theorem d_M_go_40 : decode b_M_go 40 = .ok (.invokevirtual 101, 3) := by decide +kernel
theorem d_M_go_43 : decode b_M_go 43 = .ok (.goto 4, 3) := by decide +kernel
theorem d_M_go_46 : decode b_M_go 46 = .ok (.lconst 0, 1) := by decide +kernel
theorem d_M_go_47 : decode b_M_go 47 = .ok (.lstore_n 3, 1) := by decide +kernel
theorem d_M_go_48 : decode b_M_go 48 = .ok (.iload_n 2, 1) := by decide +kernel
theorem d_M_go_49 : decode b_M_go 49 = .ok (.ifCond .eq 12, 3) := by decide +kernel
theorem d_M_go_52 : decode b_M_go 52 = .ok (.aload_n 0, 1) := by decide +kernel
theorem d_M_go_53 : decode b_M_go 53 = .ok (.iload_n 1, 1) := by decide +kernel
theorem d_M_go_54 : decode b_M_go 54 = .ok (.iconst 1, 1) := by decide +kernel
theorem d_M_go_55 : decode b_M_go 55 = .ok (.invokevirtual 101, 3) := by decide +kernel
theorem d_M_go_58 : decode b_M_go 58 = .ok (.goto 4, 3) := by decide +kernel
theorem d_M_go_61 : decode b_M_go 61 = .ok (.lconst 0, 1) := by decide +kernel
theorem d_M_go_62 : decode b_M_go 62 = .ok (.lstore 5, 2) := by decide +kernel
theorem d_M_go_64 : decode b_M_go 64 = .ok (.aload_n 0, 1) := by decide +kernel
theorem d_M_go_65 : decode b_M_go 65 = .ok (.getfield 23, 3) := by decide +kernel
theorem d_M_go_68 : decode b_M_go 68 = .ok (.iload_n 1, 1) := by decide +kernel
theorem d_M_go_69 : decode b_M_go 69 = .ok (.baload, 1) := by decide +kernel
theorem d_M_go_70 : decode b_M_go 70 = .ok (.ifCond .eq 7, 3) := by decide +kernel
theorem d_M_go_73 : decode b_M_go 73 = .ok (.iconst (-1), 1) := by decide +kernel
theorem d_M_go_74 : decode b_M_go 74 = .ok (.goto 8, 3) := by decide +kernel
theorem d_M_go_77 : decode b_M_go 77 = .ok (.aload_n 0, 1) := by decide +kernel
theorem d_M_go_78 : decode b_M_go 78 = .ok (.iload_n 1, 1) := by decide +kernel
theorem d_M_go_79 : decode b_M_go 79 = .ok (.invokevirtual 122, 3) := by decide +kernel
theorem d_M_go_82 : decode b_M_go 82 = .ok (.istore 7, 2) := by decide +kernel
theorem d_M_go_84 : decode b_M_go 84 = .ok (.iload 7, 2) := by decide +kernel
theorem d_M_go_86 : decode b_M_go 86 = .ok (.iconst (-1), 1) := by decide +kernel
theorem d_M_go_87 : decode b_M_go 87 = .ok (.if_icmp .eq 79, 3) := by decide +kernel
theorem d_M_go_90 : decode b_M_go 90 = .ok (.aload_n 0, 1) := by decide +kernel
theorem d_M_go_91 : decode b_M_go 91 = .ok (.iload_n 1, 1) := by decide +kernel
theorem d_M_go_92 : decode b_M_go 92 = .ok (.iload 7, 2) := by decide +kernel
theorem d_M_go_94 : decode b_M_go 94 = .ok (.invokevirtual 139, 3) := by decide +kernel
theorem d_M_go_97 : decode b_M_go 97 = .ok (.aload_n 0, 1) := by decide +kernel
theorem d_M_go_98 : decode b_M_go 98 = .ok (.getfield 54, 3) := by decide +kernel
theorem d_M_go_101 : decode b_M_go 101 = .ok (.iload_n 1, 1) := by decide +kernel
theorem d_M_go_102 : decode b_M_go 102 = .ok (.aload_n 0, 1) := by decide +kernel
theorem d_M_go_103 : decode b_M_go 103 = .ok (.iload_n 1, 1) := by decide +kernel
theorem d_M_go_104 : decode b_M_go 104 = .ok (.invokevirtual 130, 3) := by decide +kernel
theorem d_M_go_107 : decode b_M_go 107 = .ok (.ifCond .ne 7, 3) := by decide +kernel
theorem d_M_go_110 : decode b_M_go 110 = .ok (.iconst 4, 1) := by decide +kernel
theorem d_M_go_111 : decode b_M_go 111 = .ok (.goto 14, 3) := by decide +kernel
theorem d_M_go_114 : decode b_M_go 114 = .ok (.iload 7, 2) := by decide +kernel
theorem d_M_go_116 : decode b_M_go 116 = .ok (.ifCond .ne 7, 3) := by decide +kernel
theorem d_M_go_119 : decode b_M_go 119 = .ok (.iconst 1, 1) := by decide +kernel
theorem d_M_go_120 : decode b_M_go 120 = .ok (.goto 5, 3) := by decide +kernel
theorem d_M_go_123 : decode b_M_go 123 = .ok (.bipush 6, 2) := by decide +kernel
theorem d_M_go_125 : decode b_M_go 125 = .ok (.iastore, 1) := by decide +kernel
theorem d_M_go_126 : decode b_M_go 126 = .ok (.aload_n 0, 1) := by decide +kernel
theorem d_M_go_127 : decode b_M_go 127 = .ok (.getfield 60, 3) := by decide +kernel
theorem d_M_go_130 : decode b_M_go 130 = .ok (.iconst 0, 1) := by decide +kernel
theorem d_M_go_131 : decode b_M_go 131 = .ok (.dup2, 1) := by decide +kernel
theorem d_M_go_132 : decode b_M_go 132 = .ok (.iaload, 1) := by decide +kernel
theorem d_M_go_133 : decode b_M_go 133 = .ok (.aload_n 0, 1) := by decide +kernel
theorem d_M_go_134 : decode b_M_go 134 = .ok (.getfield 69, 3) := by decide +kernel
theorem d_M_go_137 : decode b_M_go 137 = .ok (.iload_n 1, 1) := by decide +kernel
theorem d_M_go_138 : decode b_M_go 138 = .ok (.baload, 1) := by decide +kernel
theorem d_M_go_139 : decode b_M_go 139 = .ok (.ifCond .eq 7, 3) := by decide +kernel
theorem d_M_go_142 : decode b_M_go 142 = .ok (.iconst 1, 1) := by decide +kernel
theorem d_M_go_143 : decode b_M_go 143 = .ok (.goto 4, 3) := by decide +kernel
theorem d_M_go_146 : decode b_M_go 146 = .ok (.iconst 0, 1) := by decide +kernel
theorem d_M_go_147 : decode b_M_go 147 = .ok (.iadd, 1) := by decide +kernel
theorem d_M_go_148 : decode b_M_go 148 = .ok (.iastore, 1) := by decide +kernel
theorem d_M_go_149 : decode b_M_go 149 = .ok (.iload 7, 2) := by decide +kernel
theorem d_M_go_151 : decode b_M_go 151 = .ok (.ifCond .le 13, 3) := by decide +kernel
theorem d_M_go_154 : decode b_M_go 154 = .ok (.aload_n 0, 1) := by decide +kernel
theorem d_M_go_155 : decode b_M_go 155 = .ok (.iload_n 1, 1) := by decide +kernel
theorem d_M_go_156 : decode b_M_go 156 = .ok (.iload_n 2, 1) := by decide +kernel
theorem d_M_go_157 : decode b_M_go 157 = .ok (.lload_n 3, 1) := by decide +kernel
theorem d_M_go_158 : decode b_M_go 158 = .ok (.lload 5, 2) := by decide +kernel
theorem d_M_go_160 : decode b_M_go 160 = .ok (.iconst 0, 1) := by decide +kernel
theorem d_M_go_161 : decode b_M_go 161 = .ok (.invokevirtual 142, 3) := by decide +kernel
theorem d_M_go_164 : decode b_M_go 164 = .ok (.iconst 0, 1) := by decide +kernel
theorem d_M_go_165 : decode b_M_go 165 = .ok (.ireturn, 1) := by decide +kernel
theorem d_M_go_166 : decode b_M_go 166 = .ok (.aload_n 0, 1) := by decide +kernel
theorem d_M_go_167 : decode b_M_go 167 = .ok (.getfield 57, 3) := by decide +kernel
theorem d_M_go_170 : decode b_M_go 170 = .ok (.iload_n 1, 1) := by decide +kernel
theorem d_M_go_171 : decode b_M_go 171 = .ok (.aload_n 0, 1) := by decide +kernel
theorem d_M_go_172 : decode b_M_go 172 = .ok (.iload_n 1, 1) := by decide +kernel
theorem d_M_go_173 : decode b_M_go 173 = .ok (.invokevirtual 146, 3) := by decide +kernel
theorem d_M_go_176 : decode b_M_go 176 = .ok (.iastore, 1) := by decide +kernel
theorem d_M_go_177 : decode b_M_go 177 = .ok (.aload_n 0, 1) := by decide +kernel
theorem d_M_go_178 : decode b_M_go 178 = .ok (.getfield 63, 3) := by decide +kernel
theorem d_M_go_181 : decode b_M_go 181 = .ok (.aload_n 0, 1) := by decide +kernel
theorem d_M_go_182 : decode b_M_go 182 = .ok (.getfield 57, 3) := by decide +kernel
theorem d_M_go_185 : decode b_M_go 185 = .ok (.iload_n 1, 1) := by decide +kernel
theorem d_M_go_186 : decode b_M_go 186 = .ok (.iaload, 1) := by decide +kernel
theorem d_M_go_187 : decode b_M_go 187 = .ok (.dup2, 1) := by decide +kernel
theorem d_M_go_188 : decode b_M_go 188 = .ok (.iaload, 1) := by decide +kernel
theorem d_M_go_189 : decode b_M_go 189 = .ok (.iconst 1, 1) := by decide +kernel
theorem d_M_go_190 : decode b_M_go 190 = .ok (.iadd, 1) := by decide +kernel
theorem d_M_go_191 : decode b_M_go 191 = .ok (.iastore, 1) := by decide +kernel
theorem d_M_go_192 : decode b_M_go 192 = .ok (.aload_n 0, 1) := by decide +kernel
theorem d_M_go_193 : decode b_M_go 193 = .ok (.dup, 1) := by decide +kernel
theorem d_M_go_194 : decode b_M_go 194 = .ok (.getfield 149, 3) := by decide +kernel
theorem d_M_go_197 : decode b_M_go 197 = .ok (.iconst 1, 1) := by decide +kernel
theorem d_M_go_198 : decode b_M_go 198 = .ok (.iadd, 1) := by decide +kernel
theorem d_M_go_199 : decode b_M_go 199 = .ok (.putfield 149, 3) := by decide +kernel
theorem d_M_go_202 : decode b_M_go 202 = .ok (.aload_n 0, 1) := by decide +kernel
theorem d_M_go_203 : decode b_M_go 203 = .ok (.getfield 23, 3) := by decide +kernel
theorem d_M_go_206 : decode b_M_go 206 = .ok (.iload_n 1, 1) := by decide +kernel
theorem d_M_go_207 : decode b_M_go 207 = .ok (.iconst 0, 1) := by decide +kernel
theorem d_M_go_208 : decode b_M_go 208 = .ok (.bastore, 1) := by decide +kernel
theorem d_M_go_209 : decode b_M_go 209 = .ok (.aload_n 0, 1) := by decide +kernel
theorem d_M_go_210 : decode b_M_go 210 = .ok (.iload_n 1, 1) := by decide +kernel
theorem d_M_go_211 : decode b_M_go 211 = .ok (.invokevirtual 152, 3) := by decide +kernel
theorem d_M_go_214 : decode b_M_go 214 = .ok (.aload_n 0, 1) := by decide +kernel
theorem d_M_go_215 : decode b_M_go 215 = .ok (.getfield 54, 3) := by decide +kernel
theorem d_M_go_218 : decode b_M_go 218 = .ok (.iload_n 1, 1) := by decide +kernel
theorem d_M_go_219 : decode b_M_go 219 = .ok (.aload_n 0, 1) := by decide +kernel
theorem d_M_go_220 : decode b_M_go 220 = .ok (.iload_n 1, 1) := by decide +kernel
theorem d_M_go_221 : decode b_M_go 221 = .ok (.invokevirtual 130, 3) := by decide +kernel
theorem d_M_go_224 : decode b_M_go 224 = .ok (.ifCond .eq 7, 3) := by decide +kernel
theorem d_M_go_227 : decode b_M_go 227 = .ok (.iconst 2, 1) := by decide +kernel
theorem d_M_go_228 : decode b_M_go 228 = .ok (.goto 4, 3) := by decide +kernel
theorem d_M_go_231 : decode b_M_go 231 = .ok (.iconst 3, 1) := by decide +kernel
theorem d_M_go_232 : decode b_M_go 232 = .ok (.iastore, 1) := by decide +kernel
theorem d_M_go_233 : decode b_M_go 233 = .ok (.aload_n 0, 1) := by decide +kernel
theorem d_M_go_234 : decode b_M_go 234 = .ok (.iload_n 1, 1) := by decide +kernel
theorem d_M_go_235 : decode b_M_go 235 = .ok (.iload_n 2, 1) := by decide +kernel
theorem d_M_go_236 : decode b_M_go 236 = .ok (.lload_n 3, 1) := by decide +kernel
theorem d_M_go_237 : decode b_M_go 237 = .ok (.lload 5, 2) := by decide +kernel
theorem d_M_go_239 : decode b_M_go 239 = .ok (.iconst 1, 1) := by decide +kernel
theorem d_M_go_240 : decode b_M_go 240 = .ok (.invokevirtual 142, 3) := by decide +kernel
theorem d_M_go_243 : decode b_M_go 243 = .ok (.iconst 1, 1) := by decide +kernel
theorem d_M_go_244 : decode b_M_go 244 = .ok (.ireturn, 1) := by decide +kernel
theorem d_M_build_0 : decode b_M_build 0 = .ok (.aload_n 0, 1) := by decide +kernel
theorem d_M_build_1 : decode b_M_build 1 = .ok (.iconst 0, 1) := by decide +kernel
theorem d_M_build_2 : decode b_M_build 2 = .ok (.putfield 72, 3) := by decide +kernel
theorem d_M_build_5 : decode b_M_build 5 = .ok (.iconst 0, 1) := by decide +kernel
theorem d_M_build_6 : decode b_M_build 6 = .ok (.istore_n 2, 1) := by decide +kernel
theorem d_M_build_7 : decode b_M_build 7 = .ok (.iload_n 2, 1) := by decide +kernel
theorem d_M_build_8 : decode b_M_build 8 = .ok (.iconst 5, 1) := by decide +kernel
theorem d_M_build_9 : decode b_M_build 9 = .ok (.if_icmp .ge 16, 3) := by decide +kernel
theorem d_M_build_12 : decode b_M_build 12 = .ok (.aload_n 0, 1) := by decide +kernel
theorem d_M_build_13 : decode b_M_build 13 = .ok (.getfield 60, 3) := by decide +kernel
theorem d_M_build_16 : decode b_M_build 16 = .ok (.iload_n 2, 1) := by decide +kernel
theorem d_M_build_17 : decode b_M_build 17 = .ok (.iconst 0, 1) := by decide +kernel
theorem d_M_build_18 : decode b_M_build 18 = .ok (.iastore, 1) := by decide +kernel
theorem d_M_build_19 : decode b_M_build 19 = .ok (.iinc 2 1, 3) := by decide +kernel
theorem d_M_build_22 : decode b_M_build 22 = .ok (.goto (-15), 3) := by decide +kernel
theorem d_M_build_25 : decode b_M_build 25 = .ok (.iconst 0, 1) := by decide +kernel
theorem d_M_build_26 : decode b_M_build 26 = .ok (.istore_n 2, 1) := by decide +kernel
theorem d_M_build_27 : decode b_M_build 27 = .ok (.iload_n 2, 1) := by decide +kernel
theorem d_M_build_28 : decode b_M_build 28 = .ok (.bipush 16, 2) := by decide +kernel
theorem d_M_build_30 : decode b_M_build 30 = .ok (.if_icmp .ge 23, 3) := by decide +kernel
theorem d_M_build_33 : decode b_M_build 33 = .ok (.aload_n 0, 1) := by decide +kernel
theorem d_M_build_34 : decode b_M_build 34 = .ok (.getfield 54, 3) := by decide +kernel
theorem d_M_build_37 : decode b_M_build 37 = .ok (.iload_n 2, 1) := by decide +kernel
theorem d_M_build_38 : decode b_M_build 38 = .ok (.iconst 0, 1) := by decide +kernel
theorem d_M_build_39 : decode b_M_build 39 = .ok (.iastore, 1) := by decide +kernel
theorem d_M_build_40 : decode b_M_build 40 = .ok (.aload_n 0, 1) := by decide +kernel
theorem d_M_build_41 : decode b_M_build 41 = .ok (.getfield 57, 3) := by decide +kernel
theorem d_M_build_44 : decode b_M_build 44 = .ok (.iload_n 2, 1) := by decide +kernel
theorem d_M_build_45 : decode b_M_build 45 = .ok (.iconst (-1), 1) := by decide +kernel
theorem d_M_build_46 : decode b_M_build 46 = .ok (.iastore, 1) := by decide +kernel
theorem d_M_build_47 : decode b_M_build 47 = .ok (.iinc 2 1, 3) := by decide +kernel
theorem d_M_build_50 : decode b_M_build 50 = .ok (.goto (-23), 3) := by decide +kernel
theorem d_M_build_53 : decode b_M_build 53 = .ok (.aload_n 0, 1) := by decide +kernel
theorem d_M_build_54 : decode b_M_build 54 = .ok (.iload_n 1, 1) := by decide +kernel
theorem d_M_build_55 : decode b_M_build 55 = .ok (.invokevirtual 156, 3) := by decide +kernel
theorem d_M_build_58 : decode b_M_build 58 = .ok (.aload_n 0, 1) := by decide +kernel
theorem d_M_build_59 : decode b_M_build 59 = .ok (.invokevirtual 159, 3) := by decide +kernel
theorem d_M_build_62 : decode b_M_build 62 = .ok (.iconst 0, 1) := by decide +kernel
theorem d_M_build_63 : decode b_M_build 63 = .ok (.istore_n 2, 1) := by decide +kernel
theorem d_M_build_64 : decode b_M_build 64 = .ok (.iconst 0, 1) := by decide +kernel
theorem d_M_build_65 : decode b_M_build 65 = .ok (.istore_n 3, 1) := by decide +kernel
theorem d_M_build_66 : decode b_M_build 66 = .ok (.iload_n 3, 1) := by decide +kernel
theorem d_M_build_67 : decode b_M_build 67 = .ok (.aload_n 0, 1) := by decide +kernel
theorem d_M_build_68 : decode b_M_build 68 = .ok (.getfield 79, 3) := by decide +kernel
theorem d_M_build_71 : decode b_M_build 71 = .ok (.if_icmp .ge 30, 3) := by decide +kernel
theorem d_M_build_74 : decode b_M_build 74 = .ok (.iload_n 2, 1) := by decide +kernel
theorem d_M_build_75 : decode b_M_build 75 = .ok (.aload_n 0, 1) := by decide +kernel
theorem d_M_build_76 : decode b_M_build 76 = .ok (.getfield 66, 3) := by decide +kernel
theorem d_M_build_79 : decode b_M_build 79 = .ok (.iload_n 3, 1) := by decide +kernel
theorem d_M_build_80 : decode b_M_build 80 = .ok (.baload, 1) := by decide +kernel
theorem d_M_build_81 : decode b_M_build 81 = .ok (.ifCond .eq 11, 3) := by decide +kernel
theorem d_M_build_84 : decode b_M_build 84 = .ok (.aload_n 0, 1) := by decide +kernel
theorem d_M_build_85 : decode b_M_build 85 = .ok (.iload_n 3, 1) := by decide +kernel
theorem d_M_build_86 : decode b_M_build 86 = .ok (.invokevirtual 162, 3) := by decide +kernel
theorem d_M_build_89 : decode b_M_build 89 = .ok (.goto 4, 3) := by decide +kernel
theorem d_M_build_92 : decode b_M_build 92 = .ok (.iconst 0, 1) := by decide +kernel
theorem d_M_build_93 : decode b_M_build 93 = .ok (.iadd, 1) := by decide +kernel
theorem d_M_build_94 : decode b_M_build 94 = .ok (.istore_n 2, 1) := by decide +kernel
theorem d_M_build_95 : decode b_M_build 95 = .ok (.iinc 3 1, 3) := by decide +kernel
theorem d_M_build_98 : decode b_M_build 98 = .ok (.goto (-32), 3) := by decide +kernel
theorem d_M_build_101 : decode b_M_build 101 = .ok (.iload_n 2, 1) := by decide +kernel
theorem d_M_build_102 : decode b_M_build 102 = .ok (.ireturn, 1) := by decide +kernel
theorem d_M_state_0 : decode b_M_state 0 = .ok (.aload_n 0, 1) := by decide +kernel
theorem d_M_state_1 : decode b_M_state 1 = .ok (.iconst 0, 1) := by decide +kernel
theorem d_M_state_2 : decode b_M_state 2 = .ok (.putfield 72, 3) := by decide +kernel
theorem d_M_state_5 : decode b_M_state 5 = .ok (.aload_n 0, 1) := by decide +kernel
theorem d_M_state_6 : decode b_M_state 6 = .ok (.iload_n 1, 1) := by decide +kernel
theorem d_M_state_7 : decode b_M_state 7 = .ok (.invokevirtual 86, 3) := by decide +kernel
theorem d_M_state_10 : decode b_M_state 10 = .ok (.ifCond .eq 12, 3) := by decide +kernel
theorem d_M_state_13 : decode b_M_state 13 = .ok (.aload_n 0, 1) := by decide +kernel
theorem d_M_state_14 : decode b_M_state 14 = .ok (.getfield 54, 3) := by decide +kernel
theorem d_M_state_17 : decode b_M_state 17 = .ok (.iload_n 1, 1) := by decide +kernel
theorem d_M_state_18 : decode b_M_state 18 = .ok (.iaload, 1) := by decide +kernel
theorem d_M_state_19 : decode b_M_state 19 = .ok (.goto 4, 3) := by decide +kernel
theorem d_M_state_22 : decode b_M_state 22 = .ok (.iconst 0, 1) := by decide +kernel
theorem d_M_state_23 : decode b_M_state 23 = .ok (.ireturn, 1) := by decide +kernel
theorem d_M_cause_0 : decode b_M_cause 0 = .ok (.aload_n 0, 1) := by decide +kernel
theorem d_M_cause_1 : decode b_M_cause 1 = .ok (.iconst 0, 1) := by decide +kernel
theorem d_M_cause_2 : decode b_M_cause 2 = .ok (.putfield 72, 3) := by decide +kernel
theorem d_M_cause_5 : decode b_M_cause 5 = .ok (.aload_n 0, 1) := by decide +kernel
theorem d_M_cause_6 : decode b_M_cause 6 = .ok (.iload_n 1, 1) := by decide +kernel
theorem d_M_cause_7 : decode b_M_cause 7 = .ok (.invokevirtual 86, 3) := by decide +kernel
theorem d_M_cause_10 : decode b_M_cause 10 = .ok (.ifCond .eq 32, 3) := by decide +kernel
theorem d_M_cause_13 : decode b_M_cause 13 = .ok (.aload_n 0, 1) := by decide +kernel
theorem d_M_cause_14 : decode b_M_cause 14 = .ok (.getfield 54, 3) := by decide +kernel
theorem d_M_cause_17 : decode b_M_cause 17 = .ok (.iload_n 1, 1) := by decide +kernel
theorem d_M_cause_18 : decode b_M_cause 18 = .ok (.iaload, 1) := by decide +kernel
theorem d_M_cause_19 : decode b_M_cause 19 = .ok (.iconst 2, 1) := by decide +kernel
theorem d_M_cause_20 : decode b_M_cause 20 = .ok (.if_icmp .eq 13, 3) := by decide +kernel
theorem d_M_cause_23 : decode b_M_cause 23 = .ok (.aload_n 0, 1) := by decide +kernel
theorem d_M_cause_24 : decode b_M_cause 24 = .ok (.getfield 54, 3) := by decide +kernel
theorem d_M_cause_27 : decode b_M_cause 27 = .ok (.iload_n 1, 1) := by decide +kernel
theorem d_M_cause_28 : decode b_M_cause 28 = .ok (.iaload, 1) := by decide +kernel
theorem d_M_cause_29 : decode b_M_cause 29 = .ok (.iconst 3, 1) := by decide +kernel
theorem d_M_cause_30 : decode b_M_cause 30 = .ok (.if_icmp .ne 12, 3) := by decide +kernel
theorem d_M_cause_33 : decode b_M_cause 33 = .ok (.aload_n 0, 1) := by decide +kernel
theorem d_M_cause_34 : decode b_M_cause 34 = .ok (.getfield 57, 3) := by decide +kernel
theorem d_M_cause_37 : decode b_M_cause 37 = .ok (.iload_n 1, 1) := by decide +kernel
theorem d_M_cause_38 : decode b_M_cause 38 = .ok (.iaload, 1) := by decide +kernel
theorem d_M_cause_39 : decode b_M_cause 39 = .ok (.goto 4, 3) := by decide +kernel
theorem d_M_cause_42 : decode b_M_cause 42 = .ok (.iconst (-1), 1) := by decide +kernel
theorem d_M_cause_43 : decode b_M_cause 43 = .ok (.ireturn, 1) := by decide +kernel
theorem d_M_counted_0 : decode b_M_counted 0 = .ok (.aload_n 0, 1) := by decide +kernel
theorem d_M_counted_1 : decode b_M_counted 1 = .ok (.iconst 0, 1) := by decide +kernel
theorem d_M_counted_2 : decode b_M_counted 2 = .ok (.putfield 72, 3) := by decide +kernel
theorem d_M_counted_5 : decode b_M_counted 5 = .ok (.iload_n 1, 1) := by decide +kernel
theorem d_M_counted_6 : decode b_M_counted 6 = .ok (.ifCond .lt 8, 3) := by decide +kernel
theorem d_M_counted_9 : decode b_M_counted 9 = .ok (.iload_n 1, 1) := by decide +kernel
theorem d_M_counted_10 : decode b_M_counted 10 = .ok (.iconst 4, 1) := by decide +kernel
theorem d_M_counted_11 : decode b_M_counted 11 = .ok (.if_icmp .le 7, 3) := by decide +kernel
theorem d_M_counted_14 : decode b_M_counted 14 = .ok (.iconst (-1), 1) := by decide +kernel
theorem d_M_counted_15 : decode b_M_counted 15 = .ok (.goto 9, 3) := by decide +kernel
theorem d_M_counted_18 : decode b_M_counted 18 = .ok (.aload_n 0, 1) := by decide +kernel
theorem d_M_counted_19 : decode b_M_counted 19 = .ok (.getfield 60, 3) := by decide +kernel
theorem d_M_counted_22 : decode b_M_counted 22 = .ok (.iload_n 1, 1) := by decide +kernel
theorem d_M_counted_23 : decode b_M_counted 23 = .ok (.iaload, 1) := by decide +kernel
theorem d_M_counted_24 : decode b_M_counted 24 = .ok (.ireturn, 1) := by decide +kernel
theorem d_M_output_0 : decode b_M_output 0 = .ok (.aload_n 0, 1) := by decide +kernel
theorem d_M_output_1 : decode b_M_output 1 = .ok (.iconst 0, 1) := by decide +kernel
theorem d_M_output_2 : decode b_M_output 2 = .ok (.putfield 72, 3) := by decide +kernel
theorem d_M_output_5 : decode b_M_output 5 = .ok (.aload_n 0, 1) := by decide +kernel
theorem d_M_output_6 : decode b_M_output 6 = .ok (.iload_n 1, 1) := by decide +kernel
theorem d_M_output_7 : decode b_M_output 7 = .ok (.invokevirtual 86, 3) := by decide +kernel
theorem d_M_output_10 : decode b_M_output 10 = .ok (.ifCond .eq 12, 3) := by decide +kernel
theorem d_M_output_13 : decode b_M_output 13 = .ok (.iload_n 2, 1) := by decide +kernel
theorem d_M_output_14 : decode b_M_output 14 = .ok (.ifCond .lt 8, 3) := by decide +kernel
theorem d_M_output_17 : decode b_M_output 17 = .ok (.iload_n 2, 1) := by decide +kernel
theorem d_M_output_18 : decode b_M_output 18 = .ok (.iconst 1, 1) := by decide +kernel
theorem d_M_output_19 : decode b_M_output 19 = .ok (.if_icmp .le 11, 3) := by decide +kernel
theorem d_M_output_22 : decode b_M_output 22 = .ok (.aload_n 0, 1) := by decide +kernel
theorem d_M_output_23 : decode b_M_output 23 = .ok (.iconst 1, 1) := by decide +kernel
theorem d_M_output_24 : decode b_M_output 24 = .ok (.putfield 72, 3) := by decide +kernel
theorem d_M_output_27 : decode b_M_output 27 = .ok (.goto 16, 3) := by decide +kernel
theorem d_M_output_30 : decode b_M_output 30 = .ok (.aload_n 0, 1) := by decide +kernel
theorem d_M_output_31 : decode b_M_output 31 = .ok (.iload_n 1, 1) := by decide +kernel
theorem d_M_output_32 : decode b_M_output 32 = .ok (.invokevirtual 130, 3) := by decide +kernel
theorem d_M_output_35 : decode b_M_output 35 = .ok (.ifCond .ne 8, 3) := by decide +kernel
theorem d_M_output_38 : decode b_M_output 38 = .ok (.aload_n 0, 1) := by decide +kernel
theorem d_M_output_39 : decode b_M_output 39 = .ok (.iconst 2, 1) := by decide +kernel
theorem d_M_output_40 : decode b_M_output 40 = .ok (.putfield 72, 3) := by decide +kernel
theorem d_M_output_43 : decode b_M_output 43 = .ok (.aload_n 0, 1) := by decide +kernel
theorem d_M_output_44 : decode b_M_output 44 = .ok (.getfield 72, 3) := by decide +kernel
theorem d_M_output_47 : decode b_M_output 47 = .ok (.ifCond .eq 7, 3) := by decide +kernel
theorem d_M_output_50 : decode b_M_output 50 = .ok (.lconst 0, 1) := by decide +kernel
theorem d_M_output_51 : decode b_M_output 51 = .ok (.goto 9, 3) := by decide +kernel
theorem d_M_output_54 : decode b_M_output 54 = .ok (.aload_n 0, 1) := by decide +kernel
theorem d_M_output_55 : decode b_M_output 55 = .ok (.iload_n 1, 1) := by decide +kernel
theorem d_M_output_56 : decode b_M_output 56 = .ok (.iload_n 2, 1) := by decide +kernel
theorem d_M_output_57 : decode b_M_output 57 = .ok (.invokevirtual 101, 3) := by decide +kernel
theorem d_M_output_60 : decode b_M_output 60 = .ok (.lreturn, 1) := by decide +kernel
theorem d_M_records_0 : decode b_M_records 0 = .ok (.aload_n 0, 1) := by decide +kernel
theorem d_M_records_1 : decode b_M_records 1 = .ok (.iconst 0, 1) := by decide +kernel
theorem d_M_records_2 : decode b_M_records 2 = .ok (.putfield 72, 3) := by decide +kernel
theorem d_M_records_5 : decode b_M_records 5 = .ok (.aload_n 0, 1) := by decide +kernel
theorem d_M_records_6 : decode b_M_records 6 = .ok (.iload_n 1, 1) := by decide +kernel
theorem d_M_records_7 : decode b_M_records 7 = .ok (.invokevirtual 86, 3) := by decide +kernel
theorem d_M_records_10 : decode b_M_records 10 = .ok (.ifCond .eq 12, 3) := by decide +kernel
theorem d_M_records_13 : decode b_M_records 13 = .ok (.aload_n 0, 1) := by decide +kernel
theorem d_M_records_14 : decode b_M_records 14 = .ok (.getfield 39, 3) := by decide +kernel
theorem d_M_records_17 : decode b_M_records 17 = .ok (.iload_n 1, 1) := by decide +kernel
theorem d_M_records_18 : decode b_M_records 18 = .ok (.iaload, 1) := by decide +kernel
theorem d_M_records_19 : decode b_M_records 19 = .ok (.goto 4, 3) := by decide +kernel
theorem d_M_records_22 : decode b_M_records 22 = .ok (.iconst 0, 1) := by decide +kernel
theorem d_M_records_23 : decode b_M_records 23 = .ok (.ireturn, 1) := by decide +kernel
theorem d_M_record_0 : decode b_M_record 0 = .ok (.aload_n 0, 1) := by decide +kernel
theorem d_M_record_1 : decode b_M_record 1 = .ok (.iconst 0, 1) := by decide +kernel
theorem d_M_record_2 : decode b_M_record 2 = .ok (.putfield 72, 3) := by decide +kernel
theorem d_M_record_5 : decode b_M_record 5 = .ok (.aload_n 0, 1) := by decide +kernel
theorem d_M_record_6 : decode b_M_record 6 = .ok (.iload_n 1, 1) := by decide +kernel
theorem d_M_record_7 : decode b_M_record 7 = .ok (.invokevirtual 86, 3) := by decide +kernel
theorem d_M_record_10 : decode b_M_record 10 = .ok (.ifCond .eq 31, 3) := by decide +kernel
theorem d_M_record_13 : decode b_M_record 13 = .ok (.iload_n 2, 1) := by decide +kernel
theorem d_M_record_14 : decode b_M_record 14 = .ok (.ifCond .lt 27, 3) := by decide +kernel
theorem d_M_record_17 : decode b_M_record 17 = .ok (.iload_n 2, 1) := by decide +kernel
theorem d_M_record_18 : decode b_M_record 18 = .ok (.aload_n 0, 1) := by decide +kernel
theorem d_M_record_19 : decode b_M_record 19 = .ok (.getfield 39, 3) := by decide +kernel
theorem d_M_record_22 : decode b_M_record 22 = .ok (.iload_n 1, 1) := by decide +kernel
theorem d_M_record_23 : decode b_M_record 23 = .ok (.iaload, 1) := by decide +kernel
theorem d_M_record_24 : decode b_M_record 24 = .ok (.if_icmp .ge 17, 3) := by decide +kernel
theorem d_M_record_27 : decode b_M_record 27 = .ok (.iload_n 3, 1) := by decide +kernel
theorem d_M_record_28 : decode b_M_record 28 = .ok (.ifCond .lt 13, 3) := by decide +kernel
theorem d_M_record_31 : decode b_M_record 31 = .ok (.iload_n 3, 1) := by decide +kernel
theorem d_M_record_32 : decode b_M_record 32 = .ok (.aload_n 0, 1) := by decide +kernel
theorem d_M_record_33 : decode b_M_record 33 = .ok (.getfield 30, 3) := by decide +kernel
theorem d_M_record_36 : decode b_M_record 36 = .ok (.iload_n 1, 1) := by decide +kernel
theorem d_M_record_37 : decode b_M_record 37 = .ok (.iaload, 1) := by decide +kernel
theorem d_M_record_38 : decode b_M_record 38 = .ok (.if_icmp .lt 7, 3) := by decide +kernel
theorem d_M_record_41 : decode b_M_record 41 = .ok (.lconst 0, 1) := by decide +kernel
theorem d_M_record_42 : decode b_M_record 42 = .ok (.goto 18, 3) := by decide +kernel
theorem d_M_record_45 : decode b_M_record 45 = .ok (.aload_n 0, 1) := by decide +kernel
theorem d_M_record_46 : decode b_M_record 46 = .ok (.getfield 48, 3) := by decide +kernel
theorem d_M_record_49 : decode b_M_record 49 = .ok (.bipush 6, 2) := by decide +kernel
theorem d_M_record_51 : decode b_M_record 51 = .ok (.iload_n 1, 1) := by decide +kernel
theorem d_M_record_52 : decode b_M_record 52 = .ok (.iload_n 2, 1) := by decide +kernel
theorem d_M_record_53 : decode b_M_record 53 = .ok (.invokestatic 93, 3) := by decide +kernel
theorem d_M_record_56 : decode b_M_record 56 = .ok (.imul, 1) := by decide +kernel
theorem d_M_record_57 : decode b_M_record 57 = .ok (.iload_n 3, 1) := by decide +kernel
theorem d_M_record_58 : decode b_M_record 58 = .ok (.iadd, 1) := by decide +kernel
theorem d_M_record_59 : decode b_M_record 59 = .ok (.laload, 1) := by decide +kernel
theorem d_M_record_60 : decode b_M_record 60 = .ok (.lreturn, 1) := by decide +kernel
theorem d_M_failed_0 : decode b_M_failed 0 = .ok (.aload_n 0, 1) := by decide +kernel
theorem d_M_failed_1 : decode b_M_failed 1 = .ok (.iconst 0, 1) := by decide +kernel
theorem d_M_failed_2 : decode b_M_failed 2 = .ok (.putfield 72, 3) := by decide +kernel
theorem d_M_failed_5 : decode b_M_failed 5 = .ok (.aload_n 0, 1) := by decide +kernel
theorem d_M_failed_6 : decode b_M_failed 6 = .ok (.iload_n 1, 1) := by decide +kernel
theorem d_M_failed_7 : decode b_M_failed 7 = .ok (.invokevirtual 86, 3) := by decide +kernel
theorem d_M_failed_10 : decode b_M_failed 10 = .ok (.ifCond .eq 17, 3) := by decide +kernel
theorem d_M_failed_13 : decode b_M_failed 13 = .ok (.iload_n 2, 1) := by decide +kernel
theorem d_M_failed_14 : decode b_M_failed 14 = .ok (.ifCond .lt 13, 3) := by decide +kernel
theorem d_M_failed_17 : decode b_M_failed 17 = .ok (.iload_n 2, 1) := by decide +kernel
theorem d_M_failed_18 : decode b_M_failed 18 = .ok (.aload_n 0, 1) := by decide +kernel
theorem d_M_failed_19 : decode b_M_failed 19 = .ok (.getfield 39, 3) := by decide +kernel
theorem d_M_failed_22 : decode b_M_failed 22 = .ok (.iload_n 1, 1) := by decide +kernel
theorem d_M_failed_23 : decode b_M_failed 23 = .ok (.iaload, 1) := by decide +kernel
theorem d_M_failed_24 : decode b_M_failed 24 = .ok (.if_icmp .lt 7, 3) := by decide +kernel
theorem d_M_failed_27 : decode b_M_failed 27 = .ok (.iconst (-1), 1) := by decide +kernel
theorem d_M_failed_28 : decode b_M_failed 28 = .ok (.goto 13, 3) := by decide +kernel
theorem d_M_failed_31 : decode b_M_failed 31 = .ok (.aload_n 0, 1) := by decide +kernel
theorem d_M_failed_32 : decode b_M_failed 32 = .ok (.getfield 42, 3) := by decide +kernel
theorem d_M_failed_35 : decode b_M_failed 35 = .ok (.iload_n 1, 1) := by decide +kernel
theorem d_M_failed_36 : decode b_M_failed 36 = .ok (.iload_n 2, 1) := by decide +kernel
theorem d_M_failed_37 : decode b_M_failed 37 = .ok (.invokestatic 93, 3) := by decide +kernel
theorem d_M_failed_40 : decode b_M_failed 40 = .ok (.iaload, 1) := by decide +kernel
theorem d_M_failed_41 : decode b_M_failed 41 = .ok (.ireturn, 1) := by decide +kernel
theorem d_M_total_0 : decode b_M_total 0 = .ok (.aload_n 0, 1) := by decide +kernel
theorem d_M_total_1 : decode b_M_total 1 = .ok (.iconst 0, 1) := by decide +kernel
theorem d_M_total_2 : decode b_M_total 2 = .ok (.putfield 72, 3) := by decide +kernel
theorem d_M_total_5 : decode b_M_total 5 = .ok (.iload_n 1, 1) := by decide +kernel
theorem d_M_total_6 : decode b_M_total 6 = .ok (.ifCond .lt 8, 3) := by decide +kernel
theorem d_M_total_9 : decode b_M_total 9 = .ok (.iload_n 1, 1) := by decide +kernel
theorem d_M_total_10 : decode b_M_total 10 = .ok (.iconst 3, 1) := by decide +kernel
theorem d_M_total_11 : decode b_M_total 11 = .ok (.if_icmp .le 7, 3) := by decide +kernel
theorem d_M_total_14 : decode b_M_total 14 = .ok (.iconst (-1), 1) := by decide +kernel
theorem d_M_total_15 : decode b_M_total 15 = .ok (.goto 9, 3) := by decide +kernel
theorem d_M_total_18 : decode b_M_total 18 = .ok (.aload_n 0, 1) := by decide +kernel
theorem d_M_total_19 : decode b_M_total 19 = .ok (.getfield 63, 3) := by decide +kernel
theorem d_M_total_22 : decode b_M_total 22 = .ok (.iload_n 1, 1) := by decide +kernel
theorem d_M_total_23 : decode b_M_total 23 = .ok (.iaload, 1) := by decide +kernel
theorem d_M_total_24 : decode b_M_total 24 = .ok (.ireturn, 1) := by decide +kernel
theorem d_M_share_0 : decode b_M_share 0 = .ok (.aload_n 0, 1) := by decide +kernel
theorem d_M_share_1 : decode b_M_share 1 = .ok (.aload_n 0, 1) := by decide +kernel
theorem d_M_share_2 : decode b_M_share 2 = .ok (.getfield 149, 3) := by decide +kernel
theorem d_M_share_5 : decode b_M_share 5 = .ok (.ifCond .ne 7, 3) := by decide +kernel
theorem d_M_share_8 : decode b_M_share 8 = .ok (.iconst 1, 1) := by decide +kernel
theorem d_M_share_9 : decode b_M_share 9 = .ok (.goto 4, 3) := by decide +kernel
theorem d_M_share_12 : decode b_M_share 12 = .ok (.iconst 0, 1) := by decide +kernel
theorem d_M_share_13 : decode b_M_share 13 = .ok (.putfield 72, 3) := by decide +kernel
theorem d_M_share_16 : decode b_M_share 16 = .ok (.aload_n 0, 1) := by decide +kernel
theorem d_M_share_17 : decode b_M_share 17 = .ok (.getfield 149, 3) := by decide +kernel
theorem d_M_share_20 : decode b_M_share 20 = .ok (.ifCond .ne 7, 3) := by decide +kernel
theorem d_M_share_23 : decode b_M_share 23 = .ok (.iconst 0, 1) := by decide +kernel
theorem d_M_share_24 : decode b_M_share 24 = .ok (.goto 16, 3) := by decide +kernel
theorem d_M_share_27 : decode b_M_share 27 = .ok (.aload_n 0, 1) := by decide +kernel
theorem d_M_share_28 : decode b_M_share 28 = .ok (.getfield 133, 3) := by decide +kernel
theorem d_M_share_31 : decode b_M_share 31 = .ok (.sipush 1000, 3) := by decide +kernel
theorem d_M_share_34 : decode b_M_share 34 = .ok (.imul, 1) := by decide +kernel
theorem d_M_share_35 : decode b_M_share 35 = .ok (.aload_n 0, 1) := by decide +kernel
theorem d_M_share_36 : decode b_M_share 36 = .ok (.getfield 149, 3) := by decide +kernel
theorem d_M_share_39 : decode b_M_share 39 = .ok (.idiv, 1) := by decide +kernel
theorem d_M_share_40 : decode b_M_share 40 = .ok (.ireturn, 1) := by decide +kernel
