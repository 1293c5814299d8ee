/-! DECODE ROWS (by program) -/
theorem d_N_init_0 : decode b_N_init 0 = .ok (.aload_n 0, 1) := by decide +kernel
theorem d_N_init_1 : decode b_N_init 1 = .ok (.invokespecial 3, 3) := by decide +kernel
theorem d_N_init_4 : decode b_N_init 4 = .ok (.aload_n 0, 1) := by decide +kernel
theorem d_N_init_5 : decode b_N_init 5 = .ok (.bipush 6, 2) := by decide +kernel
theorem d_N_init_7 : decode b_N_init 7 = .ok (.newarray .boolean, 2) := by decide +kernel
theorem d_N_init_9 : decode b_N_init 9 = .ok (.putfield 9, 3) := by decide +kernel
theorem d_N_init_12 : decode b_N_init 12 = .ok (.aload_n 0, 1) := by decide +kernel
theorem d_N_init_13 : decode b_N_init 13 = .ok (.bipush 6, 2) := by decide +kernel
theorem d_N_init_15 : decode b_N_init 15 = .ok (.newarray .long, 2) := by decide +kernel
theorem d_N_init_17 : decode b_N_init 17 = .ok (.putfield 15, 3) := by decide +kernel
theorem d_N_init_20 : decode b_N_init 20 = .ok (.aload_n 0, 1) := by decide +kernel
theorem d_N_init_21 : decode b_N_init 21 = .ok (.iconst (-1), 1) := by decide +kernel
theorem d_N_init_22 : decode b_N_init 22 = .ok (.putfield 19, 3) := by decide +kernel
theorem d_N_init_25 : decode b_N_init 25 = .ok (.aload_n 0, 1) := by decide +kernel
theorem d_N_init_26 : decode b_N_init 26 = .ok (.lconst 0, 1) := by decide +kernel
theorem d_N_init_27 : decode b_N_init 27 = .ok (.putfield 23, 3) := by decide +kernel
theorem d_N_init_30 : decode b_N_init 30 = .ok (.aload_n 0, 1) := by decide +kernel
theorem d_N_init_31 : decode b_N_init 31 = .ok (.lconst 0, 1) := by decide +kernel
theorem d_N_init_32 : decode b_N_init 32 = .ok (.putfield 27, 3) := by decide +kernel
theorem d_N_init_35 : decode b_N_init 35 = .ok (.return_, 1) := by decide +kernel
theorem d_N_hasFailed_0 : decode b_N_hasFailed 0 = .ok (.aload_n 0, 1) := by decide +kernel
theorem d_N_hasFailed_1 : decode b_N_hasFailed 1 = .ok (.getfield 19, 3) := by decide +kernel
theorem d_N_hasFailed_4 : decode b_N_hasFailed 4 = .ok (.iconst (-1), 1) := by decide +kernel
theorem d_N_hasFailed_5 : decode b_N_hasFailed 5 = .ok (.if_icmp .eq 7, 3) := by decide +kernel
theorem d_N_hasFailed_8 : decode b_N_hasFailed 8 = .ok (.iconst 1, 1) := by decide +kernel
theorem d_N_hasFailed_9 : decode b_N_hasFailed 9 = .ok (.goto 4, 3) := by decide +kernel
theorem d_N_hasFailed_12 : decode b_N_hasFailed 12 = .ok (.iconst 0, 1) := by decide +kernel
theorem d_N_hasFailed_13 : decode b_N_hasFailed 13 = .ok (.ireturn, 1) := by decide +kernel
theorem d_N_partOfOutput_0 : decode b_N_partOfOutput 0 = .ok (.iload_n 1, 1) := by decide +kernel
theorem d_N_partOfOutput_1 : decode b_N_partOfOutput 1 = .ok (.ifCond .ne 10, 3) := by decide +kernel
theorem d_N_partOfOutput_4 : decode b_N_partOfOutput 4 = .ok (.aload_n 0, 1) := by decide +kernel
theorem d_N_partOfOutput_5 : decode b_N_partOfOutput 5 = .ok (.getfield 23, 3) := by decide +kernel
theorem d_N_partOfOutput_8 : decode b_N_partOfOutput 8 = .ok (.goto 7, 3) := by decide +kernel
theorem d_N_partOfOutput_11 : decode b_N_partOfOutput 11 = .ok (.aload_n 0, 1) := by decide +kernel
theorem d_N_partOfOutput_12 : decode b_N_partOfOutput 12 = .ok (.getfield 27, 3) := by decide +kernel
theorem d_N_partOfOutput_15 : decode b_N_partOfOutput 15 = .ok (.lreturn, 1) := by decide +kernel
theorem d_N_differsAt_0 : decode b_N_differsAt 0 = .ok (.aload_n 0, 1) := by decide +kernel
theorem d_N_differsAt_1 : decode b_N_differsAt 1 = .ok (.getfield 9, 3) := by decide +kernel
theorem d_N_differsAt_4 : decode b_N_differsAt 4 = .ok (.iload_n 1, 1) := by decide +kernel
theorem d_N_differsAt_5 : decode b_N_differsAt 5 = .ok (.baload, 1) := by decide +kernel
theorem d_N_differsAt_6 : decode b_N_differsAt 6 = .ok (.iload_n 2, 1) := by decide +kernel
theorem d_N_differsAt_7 : decode b_N_differsAt 7 = .ok (.if_icmp .ne 14, 3) := by decide +kernel
theorem d_N_differsAt_10 : decode b_N_differsAt 10 = .ok (.aload_n 0, 1) := by decide +kernel
theorem d_N_differsAt_11 : decode b_N_differsAt 11 = .ok (.getfield 15, 3) := by decide +kernel
theorem d_N_differsAt_14 : decode b_N_differsAt 14 = .ok (.iload_n 1, 1) := by decide +kernel
theorem d_N_differsAt_15 : decode b_N_differsAt 15 = .ok (.laload, 1) := by decide +kernel
theorem d_N_differsAt_16 : decode b_N_differsAt 16 = .ok (.lload_n 3, 1) := by decide +kernel
theorem d_N_differsAt_17 : decode b_N_differsAt 17 = .ok (.lcmp, 1) := by decide +kernel
theorem d_N_differsAt_18 : decode b_N_differsAt 18 = .ok (.ifCond .eq 7, 3) := by decide +kernel
theorem d_N_differsAt_21 : decode b_N_differsAt 21 = .ok (.iconst 1, 1) := by decide +kernel
theorem d_N_differsAt_22 : decode b_N_differsAt 22 = .ok (.goto 4, 3) := by decide +kernel
theorem d_N_differsAt_25 : decode b_N_differsAt 25 = .ok (.iconst 0, 1) := by decide +kernel
theorem d_N_differsAt_26 : decode b_N_differsAt 26 = .ok (.ireturn, 1) := by decide +kernel
theorem d_N_firstDifference_0 : decode b_N_firstDifference 0 = .ok (.iconst 0, 1) := by decide +kernel
theorem d_N_firstDifference_1 : decode b_N_firstDifference 1 = .ok (.istore_n 3, 1) := by decide +kernel
theorem d_N_firstDifference_2 : decode b_N_firstDifference 2 = .ok (.iload_n 3, 1) := by decide +kernel
theorem d_N_firstDifference_3 : decode b_N_firstDifference 3 = .ok (.iload_n 2, 1) := by decide +kernel
theorem d_N_firstDifference_4 : decode b_N_firstDifference 4 = .ok (.if_icmp .ge 31, 3) := by decide +kernel
theorem d_N_firstDifference_7 : decode b_N_firstDifference 7 = .ok (.aload_n 0, 1) := by decide +kernel
theorem d_N_firstDifference_8 : decode b_N_firstDifference 8 = .ok (.iload_n 3, 1) := by decide +kernel
theorem d_N_firstDifference_9 : decode b_N_firstDifference 9 = .ok (.aload_n 1, 1) := by decide +kernel
theorem d_N_firstDifference_10 : decode b_N_firstDifference 10 = .ok (.getfield 9, 3) := by decide +kernel
theorem d_N_firstDifference_13 : decode b_N_firstDifference 13 = .ok (.iload_n 3, 1) := by decide +kernel
theorem d_N_firstDifference_14 : decode b_N_firstDifference 14 = .ok (.baload, 1) := by decide +kernel
theorem d_N_firstDifference_15 : decode b_N_firstDifference 15 = .ok (.aload_n 1, 1) := by decide +kernel
theorem d_N_firstDifference_16 : decode b_N_firstDifference 16 = .ok (.getfield 15, 3) := by decide +kernel
theorem d_N_firstDifference_19 : decode b_N_firstDifference 19 = .ok (.iload_n 3, 1) := by decide +kernel
theorem d_N_firstDifference_20 : decode b_N_firstDifference 20 = .ok (.laload, 1) := by decide +kernel
theorem d_N_firstDifference_21 : decode b_N_firstDifference 21 = .ok (.invokevirtual 30, 3) := by decide +kernel
theorem d_N_firstDifference_24 : decode b_N_firstDifference 24 = .ok (.ifCond .eq 5, 3) := by decide +kernel
theorem d_N_firstDifference_27 : decode b_N_firstDifference 27 = .ok (.iload_n 3, 1) := by decide +kernel
theorem d_N_firstDifference_28 : decode b_N_firstDifference 28 = .ok (.ireturn, 1) := by decide +kernel
theorem d_N_firstDifference_29 : decode b_N_firstDifference 29 = .ok (.iinc 3 1, 3) := by decide +kernel
theorem d_N_firstDifference_32 : decode b_N_firstDifference 32 = .ok (.goto (-30), 3) := by decide +kernel
theorem d_N_firstDifference_35 : decode b_N_firstDifference 35 = .ok (.iconst (-1), 1) := by decide +kernel
theorem d_N_firstDifference_36 : decode b_N_firstDifference 36 = .ok (.ireturn, 1) := by decide +kernel
theorem d_N_firstMissing_0 : decode b_N_firstMissing 0 = .ok (.iconst 0, 1) := by decide +kernel
theorem d_N_firstMissing_1 : decode b_N_firstMissing 1 = .ok (.istore_n 2, 1) := by decide +kernel
theorem d_N_firstMissing_2 : decode b_N_firstMissing 2 = .ok (.iload_n 2, 1) := by decide +kernel
theorem d_N_firstMissing_3 : decode b_N_firstMissing 3 = .ok (.iload_n 1, 1) := by decide +kernel
theorem d_N_firstMissing_4 : decode b_N_firstMissing 4 = .ok (.if_icmp .ge 20, 3) := by decide +kernel
theorem d_N_firstMissing_7 : decode b_N_firstMissing 7 = .ok (.aload_n 0, 1) := by decide +kernel
theorem d_N_firstMissing_8 : decode b_N_firstMissing 8 = .ok (.getfield 9, 3) := by decide +kernel
theorem d_N_firstMissing_11 : decode b_N_firstMissing 11 = .ok (.iload_n 2, 1) := by decide +kernel
theorem d_N_firstMissing_12 : decode b_N_firstMissing 12 = .ok (.baload, 1) := by decide +kernel
theorem d_N_firstMissing_13 : decode b_N_firstMissing 13 = .ok (.ifCond .ne 5, 3) := by decide +kernel
theorem d_N_firstMissing_16 : decode b_N_firstMissing 16 = .ok (.iload_n 2, 1) := by decide +kernel
theorem d_N_firstMissing_17 : decode b_N_firstMissing 17 = .ok (.ireturn, 1) := by decide +kernel
theorem d_N_firstMissing_18 : decode b_N_firstMissing 18 = .ok (.iinc 2 1, 3) := by decide +kernel
theorem d_N_firstMissing_21 : decode b_N_firstMissing 21 = .ok (.goto (-19), 3) := by decide +kernel
theorem d_N_firstMissing_24 : decode b_N_firstMissing 24 = .ok (.iconst (-1), 1) := by decide +kernel
theorem d_N_firstMissing_25 : decode b_N_firstMissing 25 = .ok (.ireturn, 1) := by decide +kernel
theorem d_S_init_0 : decode b_S_init 0 = .ok (.aload_n 0, 1) := by decide +kernel
theorem d_S_init_1 : decode b_S_init 1 = .ok (.invokespecial 1, 3) := by decide +kernel
theorem d_S_init_4 : decode b_S_init 4 = .ok (.aload_n 0, 1) := by decide +kernel
theorem d_S_init_5 : decode b_S_init 5 = .ok (.iconst 1, 1) := by decide +kernel
theorem d_S_init_6 : decode b_S_init 6 = .ok (.putfield 7, 3) := by decide +kernel
theorem d_S_init_9 : decode b_S_init 9 = .ok (.aload_n 0, 1) := by decide +kernel
theorem d_S_init_10 : decode b_S_init 10 = .ok (.iconst 0, 1) := by decide +kernel
theorem d_S_init_11 : decode b_S_init 11 = .ok (.putfield 13, 3) := by decide +kernel
theorem d_S_init_14 : decode b_S_init 14 = .ok (.aload_n 0, 1) := by decide +kernel
theorem d_S_init_15 : decode b_S_init 15 = .ok (.lload_n 1, 1) := by decide +kernel
theorem d_S_init_16 : decode b_S_init 16 = .ok (.putfield 17, 3) := by decide +kernel
theorem d_S_init_19 : decode b_S_init 19 = .ok (.return_, 1) := by decide +kernel
theorem d_T_init_0 : decode b_T_init 0 = .ok (.aload_n 0, 1) := by decide +kernel
theorem d_T_init_1 : decode b_T_init 1 = .ok (.invokespecial 3, 3) := by decide +kernel
theorem d_T_init_4 : decode b_T_init 4 = .ok (.aload_n 0, 1) := by decide +kernel
theorem d_T_init_5 : decode b_T_init 5 = .ok (.bipush 6, 2) := by decide +kernel
theorem d_T_init_7 : decode b_T_init 7 = .ok (.newarray .int, 2) := by decide +kernel
theorem d_T_init_9 : decode b_T_init 9 = .ok (.putfield 9, 3) := by decide +kernel
theorem d_T_init_12 : decode b_T_init 12 = .ok (.aload_n 0, 1) := by decide +kernel
theorem d_T_init_13 : decode b_T_init 13 = .ok (.iconst 0, 1) := by decide +kernel
theorem d_T_init_14 : decode b_T_init 14 = .ok (.putfield 15, 3) := by decide +kernel
theorem d_T_init_17 : decode b_T_init 17 = .ok (.aload_n 0, 1) := by decide +kernel
theorem d_T_init_18 : decode b_T_init 18 = .ok (.iconst 4, 1) := by decide +kernel
theorem d_T_init_19 : decode b_T_init 19 = .ok (.anewarray 19, 3) := by decide +kernel
theorem d_T_init_22 : decode b_T_init 22 = .ok (.putfield 21, 3) := by decide +kernel
theorem d_T_init_25 : decode b_T_init 25 = .ok (.aload_n 0, 1) := by decide +kernel
theorem d_T_init_26 : decode b_T_init 26 = .ok (.iconst 0, 1) := by decide +kernel
theorem d_T_init_27 : decode b_T_init 27 = .ok (.putfield 25, 3) := by decide +kernel
theorem d_T_init_30 : decode b_T_init 30 = .ok (.aload_n 0, 1) := by decide +kernel
theorem d_T_init_31 : decode b_T_init 31 = .ok (.iconst 0, 1) := by decide +kernel
theorem d_T_init_32 : decode b_T_init 32 = .ok (.putfield 28, 3) := by decide +kernel
theorem d_T_init_35 : decode b_T_init 35 = .ok (.aload_n 0, 1) := by decide +kernel
theorem d_T_init_36 : decode b_T_init 36 = .ok (.iconst 0, 1) := by decide +kernel
theorem d_T_init_37 : decode b_T_init 37 = .ok (.putfield 32, 3) := by decide +kernel
theorem d_T_init_40 : decode b_T_init 40 = .ok (.aload_n 0, 1) := by decide +kernel
theorem d_T_init_41 : decode b_T_init 41 = .ok (.iconst 0, 1) := by decide +kernel
theorem d_T_init_42 : decode b_T_init 42 = .ok (.putfield 35, 3) := by decide +kernel
theorem d_T_init_45 : decode b_T_init 45 = .ok (.aload_n 0, 1) := by decide +kernel
theorem d_T_init_46 : decode b_T_init 46 = .ok (.iconst 0, 1) := by decide +kernel
theorem d_T_init_47 : decode b_T_init 47 = .ok (.putfield 38, 3) := by decide +kernel
theorem d_T_init_50 : decode b_T_init 50 = .ok (.aload_n 0, 1) := by decide +kernel
theorem d_T_init_51 : decode b_T_init 51 = .ok (.iconst (-1), 1) := by decide +kernel
theorem d_T_init_52 : decode b_T_init 52 = .ok (.putfield 41, 3) := by decide +kernel
theorem d_T_init_55 : decode b_T_init 55 = .ok (.aload_n 0, 1) := by decide +kernel
theorem d_T_init_56 : decode b_T_init 56 = .ok (.lload_n 1, 1) := by decide +kernel
theorem d_T_init_57 : decode b_T_init 57 = .ok (.putfield 44, 3) := by decide +kernel
theorem d_T_init_60 : decode b_T_init 60 = .ok (.aload_n 0, 1) := by decide +kernel
theorem d_T_init_61 : decode b_T_init 61 = .ok (.lload_n 3, 1) := by decide +kernel
theorem d_T_init_62 : decode b_T_init 62 = .ok (.putfield 48, 3) := by decide +kernel
theorem d_T_init_65 : decode b_T_init 65 = .ok (.iconst 0, 1) := by decide +kernel
theorem d_T_init_66 : decode b_T_init 66 = .ok (.istore 5, 2) := by decide +kernel
theorem d_T_init_68 : decode b_T_init 68 = .ok (.iload 5, 2) := by decide +kernel
theorem d_T_init_70 : decode b_T_init 70 = .ok (.iconst 3, 1) := by decide +kernel
theorem d_T_init_71 : decode b_T_init 71 = .ok (.if_icmp .gt 23, 3) := by decide +kernel
theorem d_T_init_74 : decode b_T_init 74 = .ok (.aload_n 0, 1) := by decide +kernel
theorem d_T_init_75 : decode b_T_init 75 = .ok (.getfield 21, 3) := by decide +kernel
theorem d_T_init_78 : decode b_T_init 78 = .ok (.iload 5, 2) := by decide +kernel
theorem d_T_init_80 : decode b_T_init 80 = .ok (.new 19, 3) := by decide +kernel
theorem d_T_init_83 : decode b_T_init 83 = .ok (.dup, 1) := by decide +kernel
theorem d_T_init_84 : decode b_T_init 84 = .ok (.invokespecial 51, 3) := by decide +kernel
theorem d_T_init_87 : decode b_T_init 87 = .ok (.aastore, 1) := by decide +kernel
theorem d_T_init_88 : decode b_T_init 88 = .ok (.iinc 5 1, 3) := by decide +kernel
theorem d_T_init_91 : decode b_T_init 91 = .ok (.goto (-23), 3) := by decide +kernel
theorem d_T_init_94 : decode b_T_init 94 = .ok (.return_, 1) := by decide +kernel
theorem d_T_entryAt_0 : decode b_T_entryAt 0 = .ok (.iload_n 1, 1) := by decide +kernel
theorem d_T_entryAt_1 : decode b_T_entryAt 1 = .ok (.ifCond .lt 20, 3) := by decide +kernel
theorem d_T_entryAt_4 : decode b_T_entryAt 4 = .ok (.iload_n 1, 1) := by decide +kernel
theorem d_T_entryAt_5 : decode b_T_entryAt 5 = .ok (.aload_n 0, 1) := by decide +kernel
theorem d_T_entryAt_6 : decode b_T_entryAt 6 = .ok (.getfield 25, 3) := by decide +kernel
theorem d_T_entryAt_9 : decode b_T_entryAt 9 = .ok (.if_icmp .ge 12, 3) := by decide +kernel
theorem d_T_entryAt_12 : decode b_T_entryAt 12 = .ok (.aload_n 0, 1) := by decide +kernel
theorem d_T_entryAt_13 : decode b_T_entryAt 13 = .ok (.getfield 21, 3) := by decide +kernel
theorem d_T_entryAt_16 : decode b_T_entryAt 16 = .ok (.iload_n 1, 1) := by decide +kernel
theorem d_T_entryAt_17 : decode b_T_entryAt 17 = .ok (.aaload, 1) := by decide +kernel
theorem d_T_entryAt_18 : decode b_T_entryAt 18 = .ok (.goto 4, 3) := by decide +kernel
theorem d_T_entryAt_21 : decode b_T_entryAt 21 = .ok (.aconst_null, 1) := by decide +kernel
theorem d_T_entryAt_22 : decode b_T_entryAt 22 = .ok (.areturn, 1) := by decide +kernel
theorem d_T_spareEntry_0 : decode b_T_spareEntry 0 = .ok (.aload_n 0, 1) := by decide +kernel
theorem d_T_spareEntry_1 : decode b_T_spareEntry 1 = .ok (.getfield 21, 3) := by decide +kernel
theorem d_T_spareEntry_4 : decode b_T_spareEntry 4 = .ok (.iconst 3, 1) := by decide +kernel
theorem d_T_spareEntry_5 : decode b_T_spareEntry 5 = .ok (.aaload, 1) := by decide +kernel
theorem d_T_spareEntry_6 : decode b_T_spareEntry 6 = .ok (.areturn, 1) := by decide +kernel
theorem d_T_addRead_0 : decode b_T_addRead 0 = .ok (.aload_n 0, 1) := by decide +kernel
theorem d_T_addRead_1 : decode b_T_addRead 1 = .ok (.getfield 15, 3) := by decide +kernel
theorem d_T_addRead_4 : decode b_T_addRead 4 = .ok (.bipush 6, 2) := by decide +kernel
theorem d_T_addRead_6 : decode b_T_addRead 6 = .ok (.if_icmp .ge 11, 3) := by decide +kernel
theorem d_T_addRead_9 : decode b_T_addRead 9 = .ok (.aload_n 0, 1) := by decide +kernel
theorem d_T_addRead_10 : decode b_T_addRead 10 = .ok (.iload_n 1, 1) := by decide +kernel
theorem d_T_addRead_11 : decode b_T_addRead 11 = .ok (.invokevirtual 52, 3) := by decide +kernel
theorem d_T_addRead_14 : decode b_T_addRead 14 = .ok (.ifCond .eq 5, 3) := by decide +kernel
theorem d_T_addRead_17 : decode b_T_addRead 17 = .ok (.iconst 0, 1) := by decide +kernel
theorem d_T_addRead_18 : decode b_T_addRead 18 = .ok (.ireturn, 1) := by decide +kernel
theorem d_T_addRead_19 : decode b_T_addRead 19 = .ok (.aload_n 0, 1) := by decide +kernel
theorem d_T_addRead_20 : decode b_T_addRead 20 = .ok (.getfield 9, 3) := by decide +kernel
theorem d_T_addRead_23 : decode b_T_addRead 23 = .ok (.aload_n 0, 1) := by decide +kernel
theorem d_T_addRead_24 : decode b_T_addRead 24 = .ok (.getfield 15, 3) := by decide +kernel
theorem d_T_addRead_27 : decode b_T_addRead 27 = .ok (.iload_n 1, 1) := by decide +kernel
theorem d_T_addRead_28 : decode b_T_addRead 28 = .ok (.iastore, 1) := by decide +kernel
theorem d_T_addRead_29 : decode b_T_addRead 29 = .ok (.aload_n 0, 1) := by decide +kernel
theorem d_T_addRead_30 : decode b_T_addRead 30 = .ok (.dup, 1) := by decide +kernel
theorem d_T_addRead_31 : decode b_T_addRead 31 = .ok (.getfield 15, 3) := by decide +kernel
theorem d_T_addRead_34 : decode b_T_addRead 34 = .ok (.iconst 1, 1) := by decide +kernel
theorem d_T_addRead_35 : decode b_T_addRead 35 = .ok (.iadd, 1) := by decide +kernel
theorem d_T_addRead_36 : decode b_T_addRead 36 = .ok (.putfield 15, 3) := by decide +kernel
theorem d_T_addRead_39 : decode b_T_addRead 39 = .ok (.aload_n 0, 1) := by decide +kernel
theorem d_T_addRead_40 : decode b_T_addRead 40 = .ok (.iconst 0, 1) := by decide +kernel
theorem d_T_addRead_41 : decode b_T_addRead 41 = .ok (.putfield 25, 3) := by decide +kernel
theorem d_T_addRead_44 : decode b_T_addRead 44 = .ok (.iconst 1, 1) := by decide +kernel
theorem d_T_addRead_45 : decode b_T_addRead 45 = .ok (.ireturn, 1) := by decide +kernel
theorem d_T_hasRead_0 : decode b_T_hasRead 0 = .ok (.iconst 0, 1) := by decide +kernel
theorem d_T_hasRead_1 : decode b_T_hasRead 1 = .ok (.istore_n 2, 1) := by decide +kernel
theorem d_T_hasRead_2 : decode b_T_hasRead 2 = .ok (.iload_n 2, 1) := by decide +kernel
theorem d_T_hasRead_3 : decode b_T_hasRead 3 = .ok (.aload_n 0, 1) := by decide +kernel
theorem d_T_hasRead_4 : decode b_T_hasRead 4 = .ok (.getfield 15, 3) := by decide +kernel
theorem d_T_hasRead_7 : decode b_T_hasRead 7 = .ok (.if_icmp .ge 21, 3) := by decide +kernel
theorem d_T_hasRead_10 : decode b_T_hasRead 10 = .ok (.aload_n 0, 1) := by decide +kernel
theorem d_T_hasRead_11 : decode b_T_hasRead 11 = .ok (.getfield 9, 3) := by decide +kernel
theorem d_T_hasRead_14 : decode b_T_hasRead 14 = .ok (.iload_n 2, 1) := by decide +kernel
theorem d_T_hasRead_15 : decode b_T_hasRead 15 = .ok (.iaload, 1) := by decide +kernel
theorem d_T_hasRead_16 : decode b_T_hasRead 16 = .ok (.iload_n 1, 1) := by decide +kernel
theorem d_T_hasRead_17 : decode b_T_hasRead 17 = .ok (.if_icmp .ne 5, 3) := by decide +kernel
theorem d_T_hasRead_20 : decode b_T_hasRead 20 = .ok (.iconst 1, 1) := by decide +kernel
theorem d_T_hasRead_21 : decode b_T_hasRead 21 = .ok (.ireturn, 1) := by decide +kernel
theorem d_T_hasRead_22 : decode b_T_hasRead 22 = .ok (.iinc 2 1, 3) := by decide +kernel
theorem d_T_hasRead_25 : decode b_T_hasRead 25 = .ok (.goto (-23), 3) := by decide +kernel
theorem d_T_hasRead_28 : decode b_T_hasRead 28 = .ok (.iconst 0, 1) := by decide +kernel
theorem d_T_hasRead_29 : decode b_T_hasRead 29 = .ok (.ireturn, 1) := by decide +kernel
theorem d_T_forgetLatestBuild_0 : decode b_T_forgetLatestBuild 0 = .ok (.aload_n 0, 1) := by decide +kernel
theorem d_T_forgetLatestBuild_1 : decode b_T_forgetLatestBuild 1 = .ok (.iconst 0, 1) := by decide +kernel
theorem d_T_forgetLatestBuild_2 : decode b_T_forgetLatestBuild 2 = .ok (.putfield 32, 3) := by decide +kernel
theorem d_T_forgetLatestBuild_5 : decode b_T_forgetLatestBuild 5 = .ok (.aload_n 0, 1) := by decide +kernel
theorem d_T_forgetLatestBuild_6 : decode b_T_forgetLatestBuild 6 = .ok (.iconst 0, 1) := by decide +kernel
theorem d_T_forgetLatestBuild_7 : decode b_T_forgetLatestBuild 7 = .ok (.putfield 35, 3) := by decide +kernel
theorem d_T_forgetLatestBuild_10 : decode b_T_forgetLatestBuild 10 = .ok (.aload_n 0, 1) := by decide +kernel
theorem d_T_forgetLatestBuild_11 : decode b_T_forgetLatestBuild 11 = .ok (.iconst 0, 1) := by decide +kernel
theorem d_T_forgetLatestBuild_12 : decode b_T_forgetLatestBuild 12 = .ok (.putfield 38, 3) := by decide +kernel
theorem d_T_forgetLatestBuild_15 : decode b_T_forgetLatestBuild 15 = .ok (.aload_n 0, 1) := by decide +kernel
theorem d_T_forgetLatestBuild_16 : decode b_T_forgetLatestBuild 16 = .ok (.iconst (-1), 1) := by decide +kernel
theorem d_T_forgetLatestBuild_17 : decode b_T_forgetLatestBuild 17 = .ok (.putfield 41, 3) := by decide +kernel
theorem d_T_forgetLatestBuild_20 : decode b_T_forgetLatestBuild 20 = .ok (.return_, 1) := by decide +kernel
theorem d_T_isWithoutOutput_0 : decode b_T_isWithoutOutput 0 = .ok (.aload_n 0, 1) := by decide +kernel
theorem d_T_isWithoutOutput_1 : decode b_T_isWithoutOutput 1 = .ok (.getfield 38, 3) := by decide +kernel
theorem d_T_isWithoutOutput_4 : decode b_T_isWithoutOutput 4 = .ok (.iconst 3, 1) := by decide +kernel
theorem d_T_isWithoutOutput_5 : decode b_T_isWithoutOutput 5 = .ok (.if_icmp .eq 19, 3) := by decide +kernel
theorem d_T_isWithoutOutput_8 : decode b_T_isWithoutOutput 8 = .ok (.aload_n 0, 1) := by decide +kernel
theorem d_T_isWithoutOutput_9 : decode b_T_isWithoutOutput 9 = .ok (.getfield 38, 3) := by decide +kernel
theorem d_T_isWithoutOutput_12 : decode b_T_isWithoutOutput 12 = .ok (.iconst 4, 1) := by decide +kernel
theorem d_T_isWithoutOutput_13 : decode b_T_isWithoutOutput 13 = .ok (.if_icmp .eq 11, 3) := by decide +kernel
theorem d_T_isWithoutOutput_16 : decode b_T_isWithoutOutput 16 = .ok (.aload_n 0, 1) := by decide +kernel
theorem d_T_isWithoutOutput_17 : decode b_T_isWithoutOutput 17 = .ok (.getfield 38, 3) := by decide +kernel
theorem d_T_isWithoutOutput_20 : decode b_T_isWithoutOutput 20 = .ok (.iconst 5, 1) := by decide +kernel
theorem d_T_isWithoutOutput_21 : decode b_T_isWithoutOutput 21 = .ok (.if_icmp .ne 7, 3) := by decide +kernel
theorem d_T_isWithoutOutput_24 : decode b_T_isWithoutOutput 24 = .ok (.iconst 1, 1) := by decide +kernel
theorem d_T_isWithoutOutput_25 : decode b_T_isWithoutOutput 25 = .ok (.goto 4, 3) := by decide +kernel
theorem d_T_isWithoutOutput_28 : decode b_T_isWithoutOutput 28 = .ok (.iconst 0, 1) := by decide +kernel
theorem d_T_isWithoutOutput_29 : decode b_T_isWithoutOutput 29 = .ok (.ireturn, 1) := by decide +kernel
theorem d_T_placeOfSameReads_0 : decode b_T_placeOfSameReads 0 = .ok (.iconst 0, 1) := by decide +kernel
theorem d_T_placeOfSameReads_1 : decode b_T_placeOfSameReads 1 = .ok (.istore_n 2, 1) := by decide +kernel
theorem d_T_placeOfSameReads_2 : decode b_T_placeOfSameReads 2 = .ok (.iload_n 2, 1) := by decide +kernel
theorem d_T_placeOfSameReads_3 : decode b_T_placeOfSameReads 3 = .ok (.aload_n 0, 1) := by decide +kernel
theorem d_T_placeOfSameReads_4 : decode b_T_placeOfSameReads 4 = .ok (.getfield 25, 3) := by decide +kernel
theorem d_T_placeOfSameReads_7 : decode b_T_placeOfSameReads 7 = .ok (.if_icmp .ge 29, 3) := by decide +kernel
theorem d_T_placeOfSameReads_10 : decode b_T_placeOfSameReads 10 = .ok (.aload_n 0, 1) := by decide +kernel
theorem d_T_placeOfSameReads_11 : decode b_T_placeOfSameReads 11 = .ok (.getfield 21, 3) := by decide +kernel
theorem d_T_placeOfSameReads_14 : decode b_T_placeOfSameReads 14 = .ok (.iload_n 2, 1) := by decide +kernel
theorem d_T_placeOfSameReads_15 : decode b_T_placeOfSameReads 15 = .ok (.aaload, 1) := by decide +kernel
theorem d_T_placeOfSameReads_16 : decode b_T_placeOfSameReads 16 = .ok (.aload_n 1, 1) := by decide +kernel
theorem d_T_placeOfSameReads_17 : decode b_T_placeOfSameReads 17 = .ok (.aload_n 0, 1) := by decide +kernel
theorem d_T_placeOfSameReads_18 : decode b_T_placeOfSameReads 18 = .ok (.getfield 15, 3) := by decide +kernel
theorem d_T_placeOfSameReads_21 : decode b_T_placeOfSameReads 21 = .ok (.invokevirtual 56, 3) := by decide +kernel
theorem d_T_placeOfSameReads_24 : decode b_T_placeOfSameReads 24 = .ok (.iconst (-1), 1) := by decide +kernel
theorem d_T_placeOfSameReads_25 : decode b_T_placeOfSameReads 25 = .ok (.if_icmp .ne 5, 3) := by decide +kernel
theorem d_T_placeOfSameReads_28 : decode b_T_placeOfSameReads 28 = .ok (.iload_n 2, 1) := by decide +kernel
theorem d_T_placeOfSameReads_29 : decode b_T_placeOfSameReads 29 = .ok (.ireturn, 1) := by decide +kernel
theorem d_T_placeOfSameReads_30 : decode b_T_placeOfSameReads 30 = .ok (.iinc 2 1, 3) := by decide +kernel
theorem d_T_placeOfSameReads_33 : decode b_T_placeOfSameReads 33 = .ok (.goto (-31), 3) := by decide +kernel
theorem d_T_placeOfSameReads_36 : decode b_T_placeOfSameReads 36 = .ok (.iconst (-1), 1) := by decide +kernel
theorem d_T_placeOfSameReads_37 : decode b_T_placeOfSameReads 37 = .ok (.ireturn, 1) := by decide +kernel
theorem d_T_reuse_0 : decode b_T_reuse 0 = .ok (.aload_n 0, 1) := by decide +kernel
theorem d_T_reuse_1 : decode b_T_reuse 1 = .ok (.iload_n 1, 1) := by decide +kernel
theorem d_T_reuse_2 : decode b_T_reuse 2 = .ok (.invokevirtual 60, 3) := by decide +kernel
theorem d_T_reuse_5 : decode b_T_reuse 5 = .ok (.aload_n 0, 1) := by decide +kernel
theorem d_T_reuse_6 : decode b_T_reuse 6 = .ok (.getfield 21, 3) := by decide +kernel
theorem d_T_reuse_9 : decode b_T_reuse 9 = .ok (.iconst 0, 1) := by decide +kernel
theorem d_T_reuse_10 : decode b_T_reuse 10 = .ok (.aaload, 1) := by decide +kernel
theorem d_T_reuse_11 : decode b_T_reuse 11 = .ok (.invokevirtual 64, 3) := by decide +kernel
theorem d_T_reuse_14 : decode b_T_reuse 14 = .ok (.ifCond .eq 11, 3) := by decide +kernel
theorem d_T_reuse_17 : decode b_T_reuse 17 = .ok (.aload_n 0, 1) := by decide +kernel
theorem d_T_reuse_18 : decode b_T_reuse 18 = .ok (.iconst 4, 1) := by decide +kernel
theorem d_T_reuse_19 : decode b_T_reuse 19 = .ok (.putfield 38, 3) := by decide +kernel
theorem d_T_reuse_22 : decode b_T_reuse 22 = .ok (.goto 17, 3) := by decide +kernel
theorem d_T_reuse_25 : decode b_T_reuse 25 = .ok (.aload_n 0, 1) := by decide +kernel
theorem d_T_reuse_26 : decode b_T_reuse 26 = .ok (.iload_n 1, 1) := by decide +kernel
theorem d_T_reuse_27 : decode b_T_reuse 27 = .ok (.ifCond .ne 7, 3) := by decide +kernel
theorem d_T_reuse_30 : decode b_T_reuse 30 = .ok (.iconst 1, 1) := by decide +kernel
theorem d_T_reuse_31 : decode b_T_reuse 31 = .ok (.goto 5, 3) := by decide +kernel
theorem d_T_reuse_34 : decode b_T_reuse 34 = .ok (.bipush 6, 2) := by decide +kernel
theorem d_T_reuse_36 : decode b_T_reuse 36 = .ok (.putfield 38, 3) := by decide +kernel
theorem d_T_reuse_39 : decode b_T_reuse 39 = .ok (.return_, 1) := by decide +kernel
theorem d_T_redo_0 : decode b_T_redo 0 = .ok (.aload_n 0, 1) := by decide +kernel
theorem d_T_redo_1 : decode b_T_redo 1 = .ok (.invokevirtual 68, 3) := by decide +kernel
theorem d_T_redo_4 : decode b_T_redo 4 = .ok (.astore_n 2, 1) := by decide +kernel
theorem d_T_redo_5 : decode b_T_redo 5 = .ok (.aload_n 0, 1) := by decide +kernel
theorem d_T_redo_6 : decode b_T_redo 6 = .ok (.aload_n 2, 1) := by decide +kernel
theorem d_T_redo_7 : decode b_T_redo 7 = .ok (.invokevirtual 72, 3) := by decide +kernel
theorem d_T_redo_10 : decode b_T_redo 10 = .ok (.iload_n 1, 1) := by decide +kernel
theorem d_T_redo_11 : decode b_T_redo 11 = .ok (.iconst (-1), 1) := by decide +kernel
theorem d_T_redo_12 : decode b_T_redo 12 = .ok (.if_icmp .ne 25, 3) := by decide +kernel
theorem d_T_redo_15 : decode b_T_redo 15 = .ok (.aload_n 0, 1) := by decide +kernel
theorem d_T_redo_16 : decode b_T_redo 16 = .ok (.iconst 3, 1) := by decide +kernel
theorem d_T_redo_17 : decode b_T_redo 17 = .ok (.invokevirtual 60, 3) := by decide +kernel
theorem d_T_redo_20 : decode b_T_redo 20 = .ok (.aload_n 0, 1) := by decide +kernel
theorem d_T_redo_21 : decode b_T_redo 21 = .ok (.aload_n 0, 1) := by decide +kernel
theorem d_T_redo_22 : decode b_T_redo 22 = .ok (.getfield 25, 3) := by decide +kernel
theorem d_T_redo_25 : decode b_T_redo 25 = .ok (.iconst 1, 1) := by decide +kernel
theorem d_T_redo_26 : decode b_T_redo 26 = .ok (.iadd, 1) := by decide +kernel
theorem d_T_redo_27 : decode b_T_redo 27 = .ok (.iconst 3, 1) := by decide +kernel
theorem d_T_redo_28 : decode b_T_redo 28 = .ok (.invokestatic 76, 3) := by decide +kernel
theorem d_T_redo_31 : decode b_T_redo 31 = .ok (.putfield 25, 3) := by decide +kernel
theorem d_T_redo_34 : decode b_T_redo 34 = .ok (.goto 27, 3) := by decide +kernel
theorem d_T_redo_37 : decode b_T_redo 37 = .ok (.aload_n 0, 1) := by decide +kernel
theorem d_T_redo_38 : decode b_T_redo 38 = .ok (.getfield 21, 3) := by decide +kernel
theorem d_T_redo_41 : decode b_T_redo 41 = .ok (.iconst 3, 1) := by decide +kernel
theorem d_T_redo_42 : decode b_T_redo 42 = .ok (.aload_n 0, 1) := by decide +kernel
theorem d_T_redo_43 : decode b_T_redo 43 = .ok (.getfield 21, 3) := by decide +kernel
theorem d_T_redo_46 : decode b_T_redo 46 = .ok (.iload_n 1, 1) := by decide +kernel
theorem d_T_redo_47 : decode b_T_redo 47 = .ok (.aaload, 1) := by decide +kernel
theorem d_T_redo_48 : decode b_T_redo 48 = .ok (.aastore, 1) := by decide +kernel
theorem d_T_redo_49 : decode b_T_redo 49 = .ok (.aload_n 0, 1) := by decide +kernel
theorem d_T_redo_50 : decode b_T_redo 50 = .ok (.getfield 21, 3) := by decide +kernel
theorem d_T_redo_53 : decode b_T_redo 53 = .ok (.iload_n 1, 1) := by decide +kernel
theorem d_T_redo_54 : decode b_T_redo 54 = .ok (.aload_n 2, 1) := by decide +kernel
theorem d_T_redo_55 : decode b_T_redo 55 = .ok (.aastore, 1) := by decide +kernel
theorem d_T_redo_56 : decode b_T_redo 56 = .ok (.aload_n 0, 1) := by decide +kernel
theorem d_T_redo_57 : decode b_T_redo 57 = .ok (.iload_n 1, 1) := by decide +kernel
theorem d_T_redo_58 : decode b_T_redo 58 = .ok (.invokevirtual 60, 3) := by decide +kernel
theorem d_T_redo_61 : decode b_T_redo 61 = .ok (.aload_n 0, 1) := by decide +kernel
theorem d_T_redo_62 : decode b_T_redo 62 = .ok (.iconst 0, 1) := by decide +kernel
theorem d_T_redo_63 : decode b_T_redo 63 = .ok (.putfield 28, 3) := by decide +kernel
theorem d_T_redo_66 : decode b_T_redo 66 = .ok (.aload_n 0, 1) := by decide +kernel
theorem d_T_redo_67 : decode b_T_redo 67 = .ok (.aload_n 2, 1) := by decide +kernel
theorem d_T_redo_68 : decode b_T_redo 68 = .ok (.invokevirtual 64, 3) := by decide +kernel
theorem d_T_redo_71 : decode b_T_redo 71 = .ok (.ifCond .eq 7, 3) := by decide +kernel
theorem d_T_redo_74 : decode b_T_redo 74 = .ok (.iconst 3, 1) := by decide +kernel
theorem d_T_redo_75 : decode b_T_redo 75 = .ok (.goto 4, 3) := by decide +kernel
theorem d_T_redo_78 : decode b_T_redo 78 = .ok (.iconst 2, 1) := by decide +kernel
theorem d_T_redo_79 : decode b_T_redo 79 = .ok (.putfield 38, 3) := by decide +kernel
theorem d_T_redo_82 : decode b_T_redo 82 = .ok (.return_, 1) := by decide +kernel
theorem d_T_fillOutcome_0 : decode b_T_fillOutcome 0 = .ok (.ldc2_w 82, 3) := by decide +kernel
theorem d_T_fillOutcome_3 : decode b_T_fillOutcome 3 = .ok (.lstore_n 2, 1) := by decide +kernel
theorem d_T_fillOutcome_4 : decode b_T_fillOutcome 4 = .ok (.iconst 0, 1) := by decide +kernel
theorem d_T_fillOutcome_5 : decode b_T_fillOutcome 5 = .ok (.istore 4, 2) := by decide +kernel
theorem d_T_fillOutcome_7 : decode b_T_fillOutcome 7 = .ok (.iload 4, 2) := by decide +kernel
theorem d_T_fillOutcome_9 : decode b_T_fillOutcome 9 = .ok (.aload_n 0, 1) := by decide +kernel
theorem d_T_fillOutcome_10 : decode b_T_fillOutcome 10 = .ok (.getfield 15, 3) := by decide +kernel
theorem d_T_fillOutcome_13 : decode b_T_fillOutcome 13 = .ok (.if_icmp .ge 23, 3) := by decide +kernel
theorem d_T_fillOutcome_16 : decode b_T_fillOutcome 16 = .ok (.ldc2_w 84, 3) := by decide +kernel
theorem d_T_fillOutcome_19 : decode b_T_fillOutcome 19 = .ok (.lload_n 2, 1) := by decide +kernel
theorem d_T_fillOutcome_20 : decode b_T_fillOutcome 20 = .ok (.lmul, 1) := by decide +kernel
theorem d_T_fillOutcome_21 : decode b_T_fillOutcome 21 = .ok (.aload_n 1, 1) := by decide +kernel
theorem d_T_fillOutcome_22 : decode b_T_fillOutcome 22 = .ok (.getfield 86, 3) := by decide +kernel
theorem d_T_fillOutcome_25 : decode b_T_fillOutcome 25 = .ok (.iload 4, 2) := by decide +kernel
theorem d_T_fillOutcome_27 : decode b_T_fillOutcome 27 = .ok (.laload, 1) := by decide +kernel
theorem d_T_fillOutcome_28 : decode b_T_fillOutcome 28 = .ok (.ladd, 1) := by decide +kernel
theorem d_T_fillOutcome_29 : decode b_T_fillOutcome 29 = .ok (.lstore_n 2, 1) := by decide +kernel
theorem d_T_fillOutcome_30 : decode b_T_fillOutcome 30 = .ok (.iinc 4 1, 3) := by decide +kernel
theorem d_T_fillOutcome_33 : decode b_T_fillOutcome 33 = .ok (.goto (-26), 3) := by decide +kernel
theorem d_T_fillOutcome_36 : decode b_T_fillOutcome 36 = .ok (.aload_n 1, 1) := by decide +kernel
theorem d_T_fillOutcome_37 : decode b_T_fillOutcome 37 = .ok (.lload_n 2, 1) := by decide +kernel
theorem d_T_fillOutcome_38 : decode b_T_fillOutcome 38 = .ok (.putfield 90, 3) := by decide +kernel
theorem d_T_fillOutcome_41 : decode b_T_fillOutcome 41 = .ok (.aload_n 1, 1) := by decide +kernel
theorem d_T_fillOutcome_42 : decode b_T_fillOutcome 42 = .ok (.lload_n 2, 1) := by decide +kernel
theorem d_T_fillOutcome_43 : decode b_T_fillOutcome 43 = .ok (.aload_n 0, 1) := by decide +kernel
theorem d_T_fillOutcome_44 : decode b_T_fillOutcome 44 = .ok (.getfield 44, 3) := by decide +kernel
theorem d_T_fillOutcome_47 : decode b_T_fillOutcome 47 = .ok (.land, 1) := by decide +kernel
theorem d_T_fillOutcome_48 : decode b_T_fillOutcome 48 = .ok (.putfield 93, 3) := by decide +kernel
theorem d_T_fillOutcome_51 : decode b_T_fillOutcome 51 = .ok (.aload_n 1, 1) := by decide +kernel
theorem d_T_fillOutcome_52 : decode b_T_fillOutcome 52 = .ok (.aload_n 1, 1) := by decide +kernel
theorem d_T_fillOutcome_53 : decode b_T_fillOutcome 53 = .ok (.aload_n 0, 1) := by decide +kernel
theorem d_T_fillOutcome_54 : decode b_T_fillOutcome 54 = .ok (.getfield 15, 3) := by decide +kernel
theorem d_T_fillOutcome_57 : decode b_T_fillOutcome 57 = .ok (.invokevirtual 96, 3) := by decide +kernel
theorem d_T_fillOutcome_60 : decode b_T_fillOutcome 60 = .ok (.putfield 100, 3) := by decide +kernel
theorem d_T_fillOutcome_63 : decode b_T_fillOutcome 63 = .ok (.aload_n 1, 1) := by decide +kernel
theorem d_T_fillOutcome_64 : decode b_T_fillOutcome 64 = .ok (.getfield 100, 3) := by decide +kernel
theorem d_T_fillOutcome_67 : decode b_T_fillOutcome 67 = .ok (.iconst (-1), 1) := by decide +kernel
theorem d_T_fillOutcome_68 : decode b_T_fillOutcome 68 = .ok (.if_icmp .ne 29, 3) := by decide +kernel
theorem d_T_fillOutcome_71 : decode b_T_fillOutcome 71 = .ok (.aload_n 0, 1) := by decide +kernel
theorem d_T_fillOutcome_72 : decode b_T_fillOutcome 72 = .ok (.getfield 48, 3) := by decide +kernel
theorem d_T_fillOutcome_75 : decode b_T_fillOutcome 75 = .ok (.lconst 0, 1) := by decide +kernel
theorem d_T_fillOutcome_76 : decode b_T_fillOutcome 76 = .ok (.lcmp, 1) := by decide +kernel
theorem d_T_fillOutcome_77 : decode b_T_fillOutcome 77 = .ok (.ifCond .eq 20, 3) := by decide +kernel
theorem d_T_fillOutcome_80 : decode b_T_fillOutcome 80 = .ok (.lload_n 2, 1) := by decide +kernel
theorem d_T_fillOutcome_81 : decode b_T_fillOutcome 81 = .ok (.aload_n 0, 1) := by decide +kernel
theorem d_T_fillOutcome_82 : decode b_T_fillOutcome 82 = .ok (.getfield 48, 3) := by decide +kernel
theorem d_T_fillOutcome_85 : decode b_T_fillOutcome 85 = .ok (.lrem, 1) := by decide +kernel
theorem d_T_fillOutcome_86 : decode b_T_fillOutcome 86 = .ok (.lconst 0, 1) := by decide +kernel
theorem d_T_fillOutcome_87 : decode b_T_fillOutcome 87 = .ok (.lcmp, 1) := by decide +kernel
theorem d_T_fillOutcome_88 : decode b_T_fillOutcome 88 = .ok (.ifCond .ne 9, 3) := by decide +kernel
theorem d_T_fillOutcome_91 : decode b_T_fillOutcome 91 = .ok (.aload_n 1, 1) := by decide +kernel
theorem d_T_fillOutcome_92 : decode b_T_fillOutcome 92 = .ok (.bipush 6, 2) := by decide +kernel
theorem d_T_fillOutcome_94 : decode b_T_fillOutcome 94 = .ok (.putfield 100, 3) := by decide +kernel
theorem d_T_fillOutcome_97 : decode b_T_fillOutcome 97 = .ok (.return_, 1) := by decide +kernel
theorem d_T_bringFirst_0 : decode b_T_bringFirst 0 = .ok (.aload_n 0, 1) := by decide +kernel
theorem d_T_bringFirst_1 : decode b_T_bringFirst 1 = .ok (.getfield 21, 3) := by decide +kernel
theorem d_T_bringFirst_4 : decode b_T_bringFirst 4 = .ok (.iload_n 1, 1) := by decide +kernel
theorem d_T_bringFirst_5 : decode b_T_bringFirst 5 = .ok (.aaload, 1) := by decide +kernel
theorem d_T_bringFirst_6 : decode b_T_bringFirst 6 = .ok (.astore_n 2, 1) := by decide +kernel
theorem d_T_bringFirst_7 : decode b_T_bringFirst 7 = .ok (.iload_n 1, 1) := by decide +kernel
theorem d_T_bringFirst_8 : decode b_T_bringFirst 8 = .ok (.istore_n 3, 1) := by decide +kernel
theorem d_T_bringFirst_9 : decode b_T_bringFirst 9 = .ok (.iload_n 3, 1) := by decide +kernel
theorem d_T_bringFirst_10 : decode b_T_bringFirst 10 = .ok (.ifCond .le 23, 3) := by decide +kernel
theorem d_T_bringFirst_13 : decode b_T_bringFirst 13 = .ok (.aload_n 0, 1) := by decide +kernel
theorem d_T_bringFirst_14 : decode b_T_bringFirst 14 = .ok (.getfield 21, 3) := by decide +kernel
theorem d_T_bringFirst_17 : decode b_T_bringFirst 17 = .ok (.iload_n 3, 1) := by decide +kernel
theorem d_T_bringFirst_18 : decode b_T_bringFirst 18 = .ok (.aload_n 0, 1) := by decide +kernel
theorem d_T_bringFirst_19 : decode b_T_bringFirst 19 = .ok (.getfield 21, 3) := by decide +kernel
theorem d_T_bringFirst_22 : decode b_T_bringFirst 22 = .ok (.iload_n 3, 1) := by decide +kernel
theorem d_T_bringFirst_23 : decode b_T_bringFirst 23 = .ok (.iconst 1, 1) := by decide +kernel
theorem d_T_bringFirst_24 : decode b_T_bringFirst 24 = .ok (.isub, 1) := by decide +kernel
theorem d_T_bringFirst_25 : decode b_T_bringFirst 25 = .ok (.aaload, 1) := by decide +kernel
theorem d_T_bringFirst_26 : decode b_T_bringFirst 26 = .ok (.aastore, 1) := by decide +kernel
theorem d_T_bringFirst_27 : decode b_T_bringFirst 27 = .ok (.iinc 3 (-1), 3) := by decide +kernel
theorem d_T_bringFirst_30 : decode b_T_bringFirst 30 = .ok (.goto (-21), 3) := by decide +kernel
theorem d_T_bringFirst_33 : decode b_T_bringFirst 33 = .ok (.aload_n 0, 1) := by decide +kernel
theorem d_T_bringFirst_34 : decode b_T_bringFirst 34 = .ok (.getfield 21, 3) := by decide +kernel
theorem d_T_bringFirst_37 : decode b_T_bringFirst 37 = .ok (.iconst 0, 1) := by decide +kernel
theorem d_T_bringFirst_38 : decode b_T_bringFirst 38 = .ok (.aload_n 2, 1) := by decide +kernel
theorem d_T_bringFirst_39 : decode b_T_bringFirst 39 = .ok (.aastore, 1) := by decide +kernel
theorem d_T_bringFirst_40 : decode b_T_bringFirst 40 = .ok (.return_, 1) := by decide +kernel
theorem d_A_init_0 : decode b_A_init 0 = .ok (.aload_n 0, 1) := by decide +kernel
theorem d_A_init_1 : decode b_A_init 1 = .ok (.invokespecial 1, 3) := by decide +kernel
theorem d_A_init_4 : decode b_A_init 4 = .ok (.aload_n 0, 1) := by decide +kernel
theorem d_A_init_5 : decode b_A_init 5 = .ok (.bipush 16, 2) := by decide +kernel
theorem d_A_init_7 : decode b_A_init 7 = .ok (.anewarray 9, 3) := by decide +kernel
theorem d_A_init_10 : decode b_A_init 10 = .ok (.putfield 11, 3) := by decide +kernel
theorem d_A_init_13 : decode b_A_init 13 = .ok (.aload_n 0, 1) := by decide +kernel
theorem d_A_init_14 : decode b_A_init 14 = .ok (.iconst 0, 1) := by decide +kernel
theorem d_A_init_15 : decode b_A_init 15 = .ok (.putfield 15, 3) := by decide +kernel
theorem d_A_init_18 : decode b_A_init 18 = .ok (.aload_n 0, 1) := by decide +kernel
theorem d_A_init_19 : decode b_A_init 19 = .ok (.bipush 16, 2) := by decide +kernel
theorem d_A_init_21 : decode b_A_init 21 = .ok (.anewarray 19, 3) := by decide +kernel
theorem d_A_init_24 : decode b_A_init 24 = .ok (.putfield 21, 3) := by decide +kernel
theorem d_A_init_27 : decode b_A_init 27 = .ok (.aload_n 0, 1) := by decide +kernel
theorem d_A_init_28 : decode b_A_init 28 = .ok (.iconst 0, 1) := by decide +kernel
theorem d_A_init_29 : decode b_A_init 29 = .ok (.putfield 25, 3) := by decide +kernel
theorem d_A_init_32 : decode b_A_init 32 = .ok (.aload_n 0, 1) := by decide +kernel
theorem d_A_init_33 : decode b_A_init 33 = .ok (.iconst 5, 1) := by decide +kernel
theorem d_A_init_34 : decode b_A_init 34 = .ok (.newarray .int, 2) := by decide +kernel
theorem d_A_init_36 : decode b_A_init 36 = .ok (.putfield 28, 3) := by decide +kernel
theorem d_A_init_39 : decode b_A_init 39 = .ok (.aload_n 0, 1) := by decide +kernel
theorem d_A_init_40 : decode b_A_init 40 = .ok (.iconst 4, 1) := by decide +kernel
theorem d_A_init_41 : decode b_A_init 41 = .ok (.newarray .int, 2) := by decide +kernel
theorem d_A_init_43 : decode b_A_init 43 = .ok (.putfield 32, 3) := by decide +kernel
theorem d_A_init_46 : decode b_A_init 46 = .ok (.aload_n 0, 1) := by decide +kernel
theorem d_A_init_47 : decode b_A_init 47 = .ok (.iconst 0, 1) := by decide +kernel
theorem d_A_init_48 : decode b_A_init 48 = .ok (.putfield 35, 3) := by decide +kernel
theorem d_A_init_51 : decode b_A_init 51 = .ok (.return_, 1) := by decide +kernel
theorem d_A_file_0 : decode b_A_file 0 = .ok (.aload_n 0, 1) := by decide +kernel
theorem d_A_file_1 : decode b_A_file 1 = .ok (.getfield 15, 3) := by decide +kernel
theorem d_A_file_4 : decode b_A_file 4 = .ok (.bipush 16, 2) := by decide +kernel
theorem d_A_file_6 : decode b_A_file 6 = .ok (.if_icmp .lt 5, 3) := by decide +kernel
theorem d_A_file_9 : decode b_A_file 9 = .ok (.iconst (-1), 1) := by decide +kernel
theorem d_A_file_10 : decode b_A_file 10 = .ok (.ireturn, 1) := by decide +kernel
theorem d_A_file_11 : decode b_A_file 11 = .ok (.aload_n 0, 1) := by decide +kernel
theorem d_A_file_12 : decode b_A_file 12 = .ok (.getfield 11, 3) := by decide +kernel
theorem d_A_file_15 : decode b_A_file 15 = .ok (.aload_n 0, 1) := by decide +kernel
theorem d_A_file_16 : decode b_A_file 16 = .ok (.getfield 15, 3) := by decide +kernel
theorem d_A_file_19 : decode b_A_file 19 = .ok (.new 9, 3) := by decide +kernel
theorem d_A_file_22 : decode b_A_file 22 = .ok (.dup, 1) := by decide +kernel
theorem d_A_file_23 : decode b_A_file 23 = .ok (.lload_n 1, 1) := by decide +kernel
theorem d_A_file_24 : decode b_A_file 24 = .ok (.invokespecial 38, 3) := by decide +kernel
theorem d_A_file_27 : decode b_A_file 27 = .ok (.aastore, 1) := by decide +kernel
theorem d_A_file_28 : decode b_A_file 28 = .ok (.aload_n 0, 1) := by decide +kernel
theorem d_A_file_29 : decode b_A_file 29 = .ok (.dup, 1) := by decide +kernel
theorem d_A_file_30 : decode b_A_file 30 = .ok (.getfield 15, 3) := by decide +kernel
theorem d_A_file_33 : decode b_A_file 33 = .ok (.iconst 1, 1) := by decide +kernel
theorem d_A_file_34 : decode b_A_file 34 = .ok (.iadd, 1) := by decide +kernel
theorem d_A_file_35 : decode b_A_file 35 = .ok (.putfield 15, 3) := by decide +kernel
theorem d_A_file_38 : decode b_A_file 38 = .ok (.aload_n 0, 1) := by decide +kernel
theorem d_A_file_39 : decode b_A_file 39 = .ok (.getfield 15, 3) := by decide +kernel
theorem d_A_file_42 : decode b_A_file 42 = .ok (.iconst 1, 1) := by decide +kernel
theorem d_A_file_43 : decode b_A_file 43 = .ok (.isub, 1) := by decide +kernel
theorem d_A_file_44 : decode b_A_file 44 = .ok (.ireturn, 1) := by decide +kernel
theorem d_A_set_0 : decode b_A_set 0 = .ok (.aload_n 0, 1) := by decide +kernel
theorem d_A_set_1 : decode b_A_set 1 = .ok (.iload_n 1, 1) := by decide +kernel
theorem d_A_set_2 : decode b_A_set 2 = .ok (.invokevirtual 41, 3) := by decide +kernel
theorem d_A_set_5 : decode b_A_set 5 = .ok (.astore 5, 2) := by decide +kernel
theorem d_A_set_7 : decode b_A_set 7 = .ok (.aload 5, 2) := by decide +kernel
theorem d_A_set_9 : decode b_A_set 9 = .ok (.ifnonnull 5, 3) := by decide +kernel
theorem d_A_set_12 : decode b_A_set 12 = .ok (.iconst 0, 1) := by decide +kernel
theorem d_A_set_13 : decode b_A_set 13 = .ok (.ireturn, 1) := by decide +kernel
theorem d_A_set_14 : decode b_A_set 14 = .ok (.aload 5, 2) := by decide +kernel
theorem d_A_set_16 : decode b_A_set 16 = .ok (.iload_n 2, 1) := by decide +kernel
theorem d_A_set_17 : decode b_A_set 17 = .ok (.putfield 45, 3) := by decide +kernel
theorem d_A_set_20 : decode b_A_set 20 = .ok (.aload 5, 2) := by decide +kernel
theorem d_A_set_22 : decode b_A_set 22 = .ok (.iload_n 2, 1) := by decide +kernel
theorem d_A_set_23 : decode b_A_set 23 = .ok (.ifCond .eq 7, 3) := by decide +kernel
theorem d_A_set_26 : decode b_A_set 26 = .ok (.lload_n 3, 1) := by decide +kernel
theorem d_A_set_27 : decode b_A_set 27 = .ok (.goto 4, 3) := by decide +kernel
theorem d_A_set_30 : decode b_A_set 30 = .ok (.lconst 0, 1) := by decide +kernel
theorem d_A_set_31 : decode b_A_set 31 = .ok (.putfield 49, 3) := by decide +kernel
theorem d_A_set_34 : decode b_A_set 34 = .ok (.iconst 1, 1) := by decide +kernel
theorem d_A_set_35 : decode b_A_set 35 = .ok (.ireturn, 1) := by decide +kernel
theorem d_A_touch_0 : decode b_A_touch 0 = .ok (.aload_n 0, 1) := by decide +kernel
theorem d_A_touch_1 : decode b_A_touch 1 = .ok (.iload_n 1, 1) := by decide +kernel
theorem d_A_touch_2 : decode b_A_touch 2 = .ok (.invokevirtual 41, 3) := by decide +kernel
theorem d_A_touch_5 : decode b_A_touch 5 = .ok (.astore_n 2, 1) := by decide +kernel
theorem d_A_touch_6 : decode b_A_touch 6 = .ok (.aload_n 2, 1) := by decide +kernel
theorem d_A_touch_7 : decode b_A_touch 7 = .ok (.ifnonnull 5, 3) := by decide +kernel
theorem d_A_touch_10 : decode b_A_touch 10 = .ok (.iconst (-1), 1) := by decide +kernel
theorem d_A_touch_11 : decode b_A_touch 11 = .ok (.ireturn, 1) := by decide +kernel
theorem d_A_touch_12 : decode b_A_touch 12 = .ok (.aload_n 2, 1) := by decide +kernel
theorem d_A_touch_13 : decode b_A_touch 13 = .ok (.dup, 1) := by decide +kernel
theorem d_A_touch_14 : decode b_A_touch 14 = .ok (.getfield 53, 3) := by decide +kernel
theorem d_A_touch_17 : decode b_A_touch 17 = .ok (.iconst 1, 1) := by decide +kernel
theorem d_A_touch_18 : decode b_A_touch 18 = .ok (.iadd, 1) := by decide +kernel
theorem d_A_touch_19 : decode b_A_touch 19 = .ok (.putfield 53, 3) := by decide +kernel
theorem d_A_touch_22 : decode b_A_touch 22 = .ok (.aload_n 2, 1) := by decide +kernel
theorem d_A_touch_23 : decode b_A_touch 23 = .ok (.getfield 53, 3) := by decide +kernel
theorem d_A_touch_26 : decode b_A_touch 26 = .ok (.ireturn, 1) := by decide +kernel
theorem d_A_step_0 : decode b_A_step 0 = .ok (.aload_n 0, 1) := by decide +kernel
theorem d_A_step_1 : decode b_A_step 1 = .ok (.getfield 25, 3) := by decide +kernel
theorem d_A_step_4 : decode b_A_step 4 = .ok (.bipush 16, 2) := by decide +kernel
theorem d_A_step_6 : decode b_A_step 6 = .ok (.if_icmp .ge 9, 3) := by decide +kernel
theorem d_A_step_9 : decode b_A_step 9 = .ok (.lload_n 3, 1) := by decide +kernel
theorem d_A_step_10 : decode b_A_step 10 = .ok (.lconst 0, 1) := by decide +kernel
theorem d_A_step_11 : decode b_A_step 11 = .ok (.lcmp, 1) := by decide +kernel
theorem d_A_step_12 : decode b_A_step 12 = .ok (.ifCond .ge 5, 3) := by decide +kernel
theorem d_A_step_15 : decode b_A_step 15 = .ok (.iconst (-1), 1) := by decide +kernel
theorem d_A_step_16 : decode b_A_step 16 = .ok (.ireturn, 1) := by decide +kernel
theorem d_A_step_17 : decode b_A_step 17 = .ok (.aload_n 0, 1) := by decide +kernel
theorem d_A_step_18 : decode b_A_step 18 = .ok (.getfield 21, 3) := by decide +kernel
theorem d_A_step_21 : decode b_A_step 21 = .ok (.aload_n 0, 1) := by decide +kernel
theorem d_A_step_22 : decode b_A_step 22 = .ok (.getfield 25, 3) := by decide +kernel
theorem d_A_step_25 : decode b_A_step 25 = .ok (.new 19, 3) := by decide +kernel
theorem d_A_step_28 : decode b_A_step 28 = .ok (.dup, 1) := by decide +kernel
theorem d_A_step_29 : decode b_A_step 29 = .ok (.lload_n 1, 1) := by decide +kernel
theorem d_A_step_30 : decode b_A_step 30 = .ok (.lload_n 3, 1) := by decide +kernel
theorem d_A_step_31 : decode b_A_step 31 = .ok (.invokespecial 56, 3) := by decide +kernel
theorem d_A_step_34 : decode b_A_step 34 = .ok (.aastore, 1) := by decide +kernel
theorem d_A_step_35 : decode b_A_step 35 = .ok (.aload_n 0, 1) := by decide +kernel
theorem d_A_step_36 : decode b_A_step 36 = .ok (.dup, 1) := by decide +kernel
theorem d_A_step_37 : decode b_A_step 37 = .ok (.getfield 25, 3) := by decide +kernel
theorem d_A_step_40 : decode b_A_step 40 = .ok (.iconst 1, 1) := by decide +kernel
theorem d_A_step_41 : decode b_A_step 41 = .ok (.iadd, 1) := by decide +kernel
theorem d_A_step_42 : decode b_A_step 42 = .ok (.putfield 25, 3) := by decide +kernel
theorem d_A_step_45 : decode b_A_step 45 = .ok (.aload_n 0, 1) := by decide +kernel
theorem d_A_step_46 : decode b_A_step 46 = .ok (.getfield 25, 3) := by decide +kernel
theorem d_A_step_49 : decode b_A_step 49 = .ok (.iconst 1, 1) := by decide +kernel
theorem d_A_step_50 : decode b_A_step 50 = .ok (.isub, 1) := by decide +kernel
theorem d_A_step_51 : decode b_A_step 51 = .ok (.ireturn, 1) := by decide +kernel
theorem d_A_readsFile_0 : decode b_A_readsFile 0 = .ok (.aload_n 0, 1) := by decide +kernel
theorem d_A_readsFile_1 : decode b_A_readsFile 1 = .ok (.iload_n 1, 1) := by decide +kernel
theorem d_A_readsFile_2 : decode b_A_readsFile 2 = .ok (.invokevirtual 59, 3) := by decide +kernel
theorem d_A_readsFile_5 : decode b_A_readsFile 5 = .ok (.astore_n 3, 1) := by decide +kernel
theorem d_A_readsFile_6 : decode b_A_readsFile 6 = .ok (.aload_n 3, 1) := by decide +kernel
theorem d_A_readsFile_7 : decode b_A_readsFile 7 = .ok (.ifnull 11, 3) := by decide +kernel
theorem d_A_readsFile_10 : decode b_A_readsFile 10 = .ok (.aload_n 0, 1) := by decide +kernel
theorem d_A_readsFile_11 : decode b_A_readsFile 11 = .ok (.iload_n 2, 1) := by decide +kernel
theorem d_A_readsFile_12 : decode b_A_readsFile 12 = .ok (.invokevirtual 41, 3) := by decide +kernel
theorem d_A_readsFile_15 : decode b_A_readsFile 15 = .ok (.ifnonnull 5, 3) := by decide +kernel
theorem d_A_readsFile_18 : decode b_A_readsFile 18 = .ok (.iconst 0, 1) := by decide +kernel
theorem d_A_readsFile_19 : decode b_A_readsFile 19 = .ok (.ireturn, 1) := by decide +kernel
theorem d_A_readsFile_20 : decode b_A_readsFile 20 = .ok (.aload_n 3, 1) := by decide +kernel
theorem d_A_readsFile_21 : decode b_A_readsFile 21 = .ok (.iload_n 2, 1) := by decide +kernel
theorem d_A_readsFile_22 : decode b_A_readsFile 22 = .ok (.invokestatic 63, 3) := by decide +kernel
theorem d_A_readsFile_25 : decode b_A_readsFile 25 = .ok (.invokevirtual 67, 3) := by decide +kernel
theorem d_A_readsFile_28 : decode b_A_readsFile 28 = .ok (.ireturn, 1) := by decide +kernel
theorem d_A_readsPart_0 : decode b_A_readsPart 0 = .ok (.aload_n 0, 1) := by decide +kernel
theorem d_A_readsPart_1 : decode b_A_readsPart 1 = .ok (.iload_n 1, 1) := by decide +kernel
theorem d_A_readsPart_2 : decode b_A_readsPart 2 = .ok (.invokevirtual 59, 3) := by decide +kernel
theorem d_A_readsPart_5 : decode b_A_readsPart 5 = .ok (.astore 4, 2) := by decide +kernel
theorem d_A_readsPart_7 : decode b_A_readsPart 7 = .ok (.aload 4, 2) := by decide +kernel
theorem d_A_readsPart_9 : decode b_A_readsPart 9 = .ok (.ifnull 23, 3) := by decide +kernel
theorem d_A_readsPart_12 : decode b_A_readsPart 12 = .ok (.aload_n 0, 1) := by decide +kernel
theorem d_A_readsPart_13 : decode b_A_readsPart 13 = .ok (.iload_n 2, 1) := by decide +kernel
theorem d_A_readsPart_14 : decode b_A_readsPart 14 = .ok (.invokevirtual 59, 3) := by decide +kernel
theorem d_A_readsPart_17 : decode b_A_readsPart 17 = .ok (.ifnull 15, 3) := by decide +kernel
theorem d_A_readsPart_20 : decode b_A_readsPart 20 = .ok (.iload_n 3, 1) := by decide +kernel
theorem d_A_readsPart_21 : decode b_A_readsPart 21 = .ok (.invokestatic 71, 3) := by decide +kernel
theorem d_A_readsPart_24 : decode b_A_readsPart 24 = .ok (.ifCond .eq 8, 3) := by decide +kernel
theorem d_A_readsPart_27 : decode b_A_readsPart 27 = .ok (.iload_n 2, 1) := by decide +kernel
theorem d_A_readsPart_28 : decode b_A_readsPart 28 = .ok (.iload_n 1, 1) := by decide +kernel
theorem d_A_readsPart_29 : decode b_A_readsPart 29 = .ok (.if_icmp .lt 5, 3) := by decide +kernel
theorem d_A_readsPart_32 : decode b_A_readsPart 32 = .ok (.iconst 0, 1) := by decide +kernel
theorem d_A_readsPart_33 : decode b_A_readsPart 33 = .ok (.ireturn, 1) := by decide +kernel
theorem d_A_readsPart_34 : decode b_A_readsPart 34 = .ok (.aload 4, 2) := by decide +kernel
theorem d_A_readsPart_36 : decode b_A_readsPart 36 = .ok (.iload_n 2, 1) := by decide +kernel
theorem d_A_readsPart_37 : decode b_A_readsPart 37 = .ok (.iload_n 3, 1) := by decide +kernel
theorem d_A_readsPart_38 : decode b_A_readsPart 38 = .ok (.invokestatic 74, 3) := by decide +kernel
theorem d_A_readsPart_41 : decode b_A_readsPart 41 = .ok (.invokevirtual 67, 3) := by decide +kernel
theorem d_A_readsPart_44 : decode b_A_readsPart 44 = .ok (.ireturn, 1) := by decide +kernel
theorem d_A_force_0 : decode b_A_force 0 = .ok (.aload_n 0, 1) := by decide +kernel
theorem d_A_force_1 : decode b_A_force 1 = .ok (.iload_n 1, 1) := by decide +kernel
theorem d_A_force_2 : decode b_A_force 2 = .ok (.invokevirtual 59, 3) := by decide +kernel
theorem d_A_force_5 : decode b_A_force 5 = .ok (.astore_n 2, 1) := by decide +kernel
theorem d_A_force_6 : decode b_A_force 6 = .ok (.aload_n 2, 1) := by decide +kernel
theorem d_A_force_7 : decode b_A_force 7 = .ok (.ifnull 10, 3) := by decide +kernel
theorem d_A_force_10 : decode b_A_force 10 = .ok (.aload_n 2, 1) := by decide +kernel
theorem d_A_force_11 : decode b_A_force 11 = .ok (.getfield 78, 3) := by decide +kernel
theorem d_A_force_14 : decode b_A_force 14 = .ok (.ifCond .eq 5, 3) := by decide +kernel
theorem d_A_force_17 : decode b_A_force 17 = .ok (.iconst 0, 1) := by decide +kernel
theorem d_A_force_18 : decode b_A_force 18 = .ok (.ireturn, 1) := by decide +kernel
theorem d_A_force_19 : decode b_A_force 19 = .ok (.aload_n 2, 1) := by decide +kernel
theorem d_A_force_20 : decode b_A_force 20 = .ok (.iconst 1, 1) := by decide +kernel
theorem d_A_force_21 : decode b_A_force 21 = .ok (.putfield 78, 3) := by decide +kernel
theorem d_A_force_24 : decode b_A_force 24 = .ok (.iconst 1, 1) := by decide +kernel
theorem d_A_force_25 : decode b_A_force 25 = .ok (.ireturn, 1) := by decide +kernel
theorem d_A_build_0 : decode b_A_build 0 = .ok (.aload_n 0, 1) := by decide +kernel
theorem d_A_build_1 : decode b_A_build 1 = .ok (.invokevirtual 81, 3) := by decide +kernel
theorem d_A_build_4 : decode b_A_build 4 = .ok (.aload_n 0, 1) := by decide +kernel
theorem d_A_build_5 : decode b_A_build 5 = .ok (.iload_n 1, 1) := by decide +kernel
theorem d_A_build_6 : decode b_A_build 6 = .ok (.invokevirtual 84, 3) := by decide +kernel
theorem d_A_build_9 : decode b_A_build 9 = .ok (.iconst 0, 1) := by decide +kernel
theorem d_A_build_10 : decode b_A_build 10 = .ok (.istore_n 2, 1) := by decide +kernel
theorem d_A_build_11 : decode b_A_build 11 = .ok (.iconst 0, 1) := by decide +kernel
theorem d_A_build_12 : decode b_A_build 12 = .ok (.istore_n 3, 1) := by decide +kernel
theorem d_A_build_13 : decode b_A_build 13 = .ok (.iload_n 3, 1) := by decide +kernel
theorem d_A_build_14 : decode b_A_build 14 = .ok (.aload_n 0, 1) := by decide +kernel
theorem d_A_build_15 : decode b_A_build 15 = .ok (.getfield 25, 3) := by decide +kernel
theorem d_A_build_18 : decode b_A_build 18 = .ok (.if_icmp .ge 43, 3) := by decide +kernel
theorem d_A_build_21 : decode b_A_build 21 = .ok (.aload_n 0, 1) := by decide +kernel
theorem d_A_build_22 : decode b_A_build 22 = .ok (.getfield 21, 3) := by decide +kernel
theorem d_A_build_25 : decode b_A_build 25 = .ok (.iload_n 3, 1) := by decide +kernel
theorem d_A_build_26 : decode b_A_build 26 = .ok (.aaload, 1) := by decide +kernel
theorem d_A_build_27 : decode b_A_build 27 = .ok (.astore 4, 2) := by decide +kernel
theorem d_A_build_29 : decode b_A_build 29 = .ok (.aload 4, 2) := by decide +kernel
theorem d_A_build_31 : decode b_A_build 31 = .ok (.getfield 88, 3) := by decide +kernel
theorem d_A_build_34 : decode b_A_build 34 = .ok (.ifCond .eq 21, 3) := by decide +kernel
theorem d_A_build_37 : decode b_A_build 37 = .ok (.aload_n 0, 1) := by decide +kernel
theorem d_A_build_38 : decode b_A_build 38 = .ok (.aload 4, 2) := by decide +kernel
theorem d_A_build_40 : decode b_A_build 40 = .ok (.invokevirtual 91, 3) := by decide +kernel
theorem d_A_build_43 : decode b_A_build 43 = .ok (.aload 4, 2) := by decide +kernel
theorem d_A_build_45 : decode b_A_build 45 = .ok (.getfield 95, 3) := by decide +kernel
theorem d_A_build_48 : decode b_A_build 48 = .ok (.iconst (-1), 1) := by decide +kernel
theorem d_A_build_49 : decode b_A_build 49 = .ok (.if_icmp .eq 6, 3) := by decide +kernel
theorem d_A_build_52 : decode b_A_build 52 = .ok (.iinc 2 1, 3) := by decide +kernel
theorem d_A_build_55 : decode b_A_build 55 = .ok (.iinc 3 1, 3) := by decide +kernel
theorem d_A_build_58 : decode b_A_build 58 = .ok (.goto (-45), 3) := by decide +kernel
theorem d_A_build_61 : decode b_A_build 61 = .ok (.iload_n 2, 1) := by decide +kernel
theorem d_A_build_62 : decode b_A_build 62 = .ok (.ireturn, 1) := by decide +kernel
theorem d_A_state_0 : decode b_A_state 0 = .ok (.aload_n 0, 1) := by decide +kernel
theorem d_A_state_1 : decode b_A_state 1 = .ok (.iload_n 1, 1) := by decide +kernel
theorem d_A_state_2 : decode b_A_state 2 = .ok (.invokevirtual 59, 3) := by decide +kernel
theorem d_A_state_5 : decode b_A_state 5 = .ok (.astore_n 2, 1) := by decide +kernel
theorem d_A_state_6 : decode b_A_state 6 = .ok (.aload_n 2, 1) := by decide +kernel
theorem d_A_state_7 : decode b_A_state 7 = .ok (.ifnonnull 7, 3) := by decide +kernel
theorem d_A_state_10 : decode b_A_state 10 = .ok (.iconst 0, 1) := by decide +kernel
theorem d_A_state_11 : decode b_A_state 11 = .ok (.goto 7, 3) := by decide +kernel
theorem d_A_state_14 : decode b_A_state 14 = .ok (.aload_n 2, 1) := by decide +kernel
theorem d_A_state_15 : decode b_A_state 15 = .ok (.getfield 98, 3) := by decide +kernel
theorem d_A_state_18 : decode b_A_state 18 = .ok (.ireturn, 1) := by decide +kernel
theorem d_A_cause_0 : decode b_A_cause 0 = .ok (.aload_n 0, 1) := by decide +kernel
theorem d_A_cause_1 : decode b_A_cause 1 = .ok (.iload_n 1, 1) := by decide +kernel
theorem d_A_cause_2 : decode b_A_cause 2 = .ok (.invokevirtual 59, 3) := by decide +kernel
theorem d_A_cause_5 : decode b_A_cause 5 = .ok (.astore_n 2, 1) := by decide +kernel
theorem d_A_cause_6 : decode b_A_cause 6 = .ok (.aload_n 2, 1) := by decide +kernel
theorem d_A_cause_7 : decode b_A_cause 7 = .ok (.ifnonnull 7, 3) := by decide +kernel
theorem d_A_cause_10 : decode b_A_cause 10 = .ok (.iconst (-1), 1) := by decide +kernel
theorem d_A_cause_11 : decode b_A_cause 11 = .ok (.goto 7, 3) := by decide +kernel
theorem d_A_cause_14 : decode b_A_cause 14 = .ok (.aload_n 2, 1) := by decide +kernel
theorem d_A_cause_15 : decode b_A_cause 15 = .ok (.getfield 95, 3) := by decide +kernel
theorem d_A_cause_18 : decode b_A_cause 18 = .ok (.ireturn, 1) := by decide +kernel
theorem d_A_counted_0 : decode b_A_counted 0 = .ok (.iload_n 1, 1) := by decide +kernel
theorem d_A_counted_1 : decode b_A_counted 1 = .ok (.ifCond .lt 8, 3) := by decide +kernel
theorem d_A_counted_4 : decode b_A_counted 4 = .ok (.iload_n 1, 1) := by decide +kernel
theorem d_A_counted_5 : decode b_A_counted 5 = .ok (.iconst 5, 1) := by decide +kernel
theorem d_A_counted_6 : decode b_A_counted 6 = .ok (.if_icmp .lt 5, 3) := by decide +kernel
theorem d_A_counted_9 : decode b_A_counted 9 = .ok (.iconst (-1), 1) := by decide +kernel
theorem d_A_counted_10 : decode b_A_counted 10 = .ok (.ireturn, 1) := by decide +kernel
theorem d_A_counted_11 : decode b_A_counted 11 = .ok (.aload_n 0, 1) := by decide +kernel
theorem d_A_counted_12 : decode b_A_counted 12 = .ok (.getfield 28, 3) := by decide +kernel
theorem d_A_counted_15 : decode b_A_counted 15 = .ok (.iload_n 1, 1) := by decide +kernel
theorem d_A_counted_16 : decode b_A_counted 16 = .ok (.iaload, 1) := by decide +kernel
theorem d_A_counted_17 : decode b_A_counted 17 = .ok (.ireturn, 1) := by decide +kernel
theorem d_A_output_0 : decode b_A_output 0 = .ok (.aload_n 0, 1) := by decide +kernel
theorem d_A_output_1 : decode b_A_output 1 = .ok (.iload_n 1, 1) := by decide +kernel
theorem d_A_output_2 : decode b_A_output 2 = .ok (.invokevirtual 59, 3) := by decide +kernel
theorem d_A_output_5 : decode b_A_output 5 = .ok (.astore_n 3, 1) := by decide +kernel
theorem d_A_output_6 : decode b_A_output 6 = .ok (.aload_n 3, 1) := by decide +kernel
theorem d_A_output_7 : decode b_A_output 7 = .ok (.ifnull 10, 3) := by decide +kernel
theorem d_A_output_10 : decode b_A_output 10 = .ok (.iload_n 2, 1) := by decide +kernel
theorem d_A_output_11 : decode b_A_output 11 = .ok (.invokestatic 71, 3) := by decide +kernel
theorem d_A_output_14 : decode b_A_output 14 = .ok (.ifCond .ne 13, 3) := by decide +kernel
theorem d_A_output_17 : decode b_A_output 17 = .ok (.new 101, 3) := by decide +kernel
theorem d_A_output_20 : decode b_A_output 20 = .ok (.dup, 1) := by decide +kernel
theorem d_A_output_21 : decode b_A_output 21 = .ok (.ldc 103, 2) := by decide +kernel
theorem d_A_output_23 : decode b_A_output 23 = .ok (.invokespecial 105, 3) := by decide +kernel
theorem d_A_output_26 : decode b_A_output 26 = .ok (.athrow, 1) := by decide +kernel
theorem d_A_output_27 : decode b_A_output 27 = .ok (.aload_n 3, 1) := by decide +kernel
theorem d_A_output_28 : decode b_A_output 28 = .ok (.iconst 0, 1) := by decide +kernel
theorem d_A_output_29 : decode b_A_output 29 = .ok (.invokevirtual 108, 3) := by decide +kernel
theorem d_A_output_32 : decode b_A_output 32 = .ok (.astore 4, 2) := by decide +kernel
theorem d_A_output_34 : decode b_A_output 34 = .ok (.aload 4, 2) := by decide +kernel
theorem d_A_output_36 : decode b_A_output 36 = .ok (.ifnull 11, 3) := by decide +kernel
theorem d_A_output_39 : decode b_A_output 39 = .ok (.aload 4, 2) := by decide +kernel
theorem d_A_output_41 : decode b_A_output 41 = .ok (.invokevirtual 112, 3) := by decide +kernel
theorem d_A_output_44 : decode b_A_output 44 = .ok (.ifCond .eq 13, 3) := by decide +kernel
theorem d_A_output_47 : decode b_A_output 47 = .ok (.new 118, 3) := by decide +kernel
theorem d_A_output_50 : decode b_A_output 50 = .ok (.dup, 1) := by decide +kernel
theorem d_A_output_51 : decode b_A_output 51 = .ok (.ldc 120, 2) := by decide +kernel
theorem d_A_output_53 : decode b_A_output 53 = .ok (.invokespecial 122, 3) := by decide +kernel
theorem d_A_output_56 : decode b_A_output 56 = .ok (.athrow, 1) := by decide +kernel
theorem d_A_output_57 : decode b_A_output 57 = .ok (.aload 4, 2) := by decide +kernel
theorem d_A_output_59 : decode b_A_output 59 = .ok (.iload_n 2, 1) := by decide +kernel
theorem d_A_output_60 : decode b_A_output 60 = .ok (.invokevirtual 123, 3) := by decide +kernel
theorem d_A_output_63 : decode b_A_output 63 = .ok (.lreturn, 1) := by decide +kernel
theorem d_A_records_0 : decode b_A_records 0 = .ok (.aload_n 0, 1) := by decide +kernel
theorem d_A_records_1 : decode b_A_records 1 = .ok (.iload_n 1, 1) := by decide +kernel
theorem d_A_records_2 : decode b_A_records 2 = .ok (.invokevirtual 59, 3) := by decide +kernel
theorem d_A_records_5 : decode b_A_records 5 = .ok (.astore_n 2, 1) := by decide +kernel
theorem d_A_records_6 : decode b_A_records 6 = .ok (.aload_n 2, 1) := by decide +kernel
theorem d_A_records_7 : decode b_A_records 7 = .ok (.ifnonnull 7, 3) := by decide +kernel
theorem d_A_records_10 : decode b_A_records 10 = .ok (.iconst 0, 1) := by decide +kernel
theorem d_A_records_11 : decode b_A_records 11 = .ok (.goto 7, 3) := by decide +kernel
theorem d_A_records_14 : decode b_A_records 14 = .ok (.aload_n 2, 1) := by decide +kernel
theorem d_A_records_15 : decode b_A_records 15 = .ok (.getfield 127, 3) := by decide +kernel
theorem d_A_records_18 : decode b_A_records 18 = .ok (.ireturn, 1) := by decide +kernel
theorem d_A_record_0 : decode b_A_record 0 = .ok (.aload_n 0, 1) := by decide +kernel
theorem d_A_record_1 : decode b_A_record 1 = .ok (.iload_n 1, 1) := by decide +kernel
theorem d_A_record_2 : decode b_A_record 2 = .ok (.invokevirtual 59, 3) := by decide +kernel
theorem d_A_record_5 : decode b_A_record 5 = .ok (.astore 4, 2) := by decide +kernel
theorem d_A_record_7 : decode b_A_record 7 = .ok (.aload 4, 2) := by decide +kernel
theorem d_A_record_9 : decode b_A_record 9 = .ok (.ifnull 16, 3) := by decide +kernel
theorem d_A_record_12 : decode b_A_record 12 = .ok (.iload_n 3, 1) := by decide +kernel
theorem d_A_record_13 : decode b_A_record 13 = .ok (.ifCond .lt 12, 3) := by decide +kernel
theorem d_A_record_16 : decode b_A_record 16 = .ok (.iload_n 3, 1) := by decide +kernel
theorem d_A_record_17 : decode b_A_record 17 = .ok (.aload 4, 2) := by decide +kernel
theorem d_A_record_19 : decode b_A_record 19 = .ok (.getfield 130, 3) := by decide +kernel
theorem d_A_record_22 : decode b_A_record 22 = .ok (.if_icmp .lt 5, 3) := by decide +kernel
theorem d_A_record_25 : decode b_A_record 25 = .ok (.lconst 0, 1) := by decide +kernel
theorem d_A_record_26 : decode b_A_record 26 = .ok (.lreturn, 1) := by decide +kernel
theorem d_A_record_27 : decode b_A_record 27 = .ok (.aload 4, 2) := by decide +kernel
theorem d_A_record_29 : decode b_A_record 29 = .ok (.iload_n 2, 1) := by decide +kernel
theorem d_A_record_30 : decode b_A_record 30 = .ok (.invokevirtual 108, 3) := by decide +kernel
theorem d_A_record_33 : decode b_A_record 33 = .ok (.astore 5, 2) := by decide +kernel
theorem d_A_record_35 : decode b_A_record 35 = .ok (.aload 5, 2) := by decide +kernel
theorem d_A_record_37 : decode b_A_record 37 = .ok (.ifnonnull 7, 3) := by decide +kernel
theorem d_A_record_40 : decode b_A_record 40 = .ok (.lconst 0, 1) := by decide +kernel
theorem d_A_record_41 : decode b_A_record 41 = .ok (.goto 10, 3) := by decide +kernel
theorem d_A_record_44 : decode b_A_record 44 = .ok (.aload 5, 2) := by decide +kernel
theorem d_A_record_46 : decode b_A_record 46 = .ok (.getfield 133, 3) := by decide +kernel
theorem d_A_record_49 : decode b_A_record 49 = .ok (.iload_n 3, 1) := by decide +kernel
theorem d_A_record_50 : decode b_A_record 50 = .ok (.laload, 1) := by decide +kernel
theorem d_A_record_51 : decode b_A_record 51 = .ok (.lreturn, 1) := by decide +kernel
theorem d_A_failed_0 : decode b_A_failed 0 = .ok (.aload_n 0, 1) := by decide +kernel
theorem d_A_failed_1 : decode b_A_failed 1 = .ok (.iload_n 1, 1) := by decide +kernel
theorem d_A_failed_2 : decode b_A_failed 2 = .ok (.invokevirtual 59, 3) := by decide +kernel
theorem d_A_failed_5 : decode b_A_failed 5 = .ok (.astore_n 3, 1) := by decide +kernel
theorem d_A_failed_6 : decode b_A_failed 6 = .ok (.aload_n 3, 1) := by decide +kernel
theorem d_A_failed_7 : decode b_A_failed 7 = .ok (.ifnonnull 5, 3) := by decide +kernel
theorem d_A_failed_10 : decode b_A_failed 10 = .ok (.iconst (-1), 1) := by decide +kernel
theorem d_A_failed_11 : decode b_A_failed 11 = .ok (.ireturn, 1) := by decide +kernel
theorem d_A_failed_12 : decode b_A_failed 12 = .ok (.aload_n 3, 1) := by decide +kernel
theorem d_A_failed_13 : decode b_A_failed 13 = .ok (.iload_n 2, 1) := by decide +kernel
theorem d_A_failed_14 : decode b_A_failed 14 = .ok (.invokevirtual 108, 3) := by decide +kernel
theorem d_A_failed_17 : decode b_A_failed 17 = .ok (.astore 4, 2) := by decide +kernel
theorem d_A_failed_19 : decode b_A_failed 19 = .ok (.aload 4, 2) := by decide +kernel
theorem d_A_failed_21 : decode b_A_failed 21 = .ok (.ifnonnull 7, 3) := by decide +kernel
theorem d_A_failed_24 : decode b_A_failed 24 = .ok (.iconst (-1), 1) := by decide +kernel
theorem d_A_failed_25 : decode b_A_failed 25 = .ok (.goto 8, 3) := by decide +kernel
theorem d_A_failed_28 : decode b_A_failed 28 = .ok (.aload 4, 2) := by decide +kernel
theorem d_A_failed_30 : decode b_A_failed 30 = .ok (.getfield 137, 3) := by decide +kernel
theorem d_A_failed_33 : decode b_A_failed 33 = .ok (.ireturn, 1) := by decide +kernel
theorem d_A_total_0 : decode b_A_total 0 = .ok (.iload_n 1, 1) := by decide +kernel
theorem d_A_total_1 : decode b_A_total 1 = .ok (.ifCond .lt 8, 3) := by decide +kernel
theorem d_A_total_4 : decode b_A_total 4 = .ok (.iload_n 1, 1) := by decide +kernel
theorem d_A_total_5 : decode b_A_total 5 = .ok (.iconst 4, 1) := by decide +kernel
theorem d_A_total_6 : decode b_A_total 6 = .ok (.if_icmp .lt 5, 3) := by decide +kernel
theorem d_A_total_9 : decode b_A_total 9 = .ok (.iconst (-1), 1) := by decide +kernel
theorem d_A_total_10 : decode b_A_total 10 = .ok (.ireturn, 1) := by decide +kernel
theorem d_A_total_11 : decode b_A_total 11 = .ok (.aload_n 0, 1) := by decide +kernel
theorem d_A_total_12 : decode b_A_total 12 = .ok (.getfield 32, 3) := by decide +kernel
theorem d_A_total_15 : decode b_A_total 15 = .ok (.iload_n 1, 1) := by decide +kernel
theorem d_A_total_16 : decode b_A_total 16 = .ok (.iaload, 1) := by decide +kernel
theorem d_A_total_17 : decode b_A_total 17 = .ok (.ireturn, 1) := by decide +kernel
theorem d_A_share_0 : decode b_A_share 0 = .ok (.iconst 0, 1) := by decide +kernel
theorem d_A_share_1 : decode b_A_share 1 = .ok (.istore_n 1, 1) := by decide +kernel
theorem d_A_share_2 : decode b_A_share 2 = .ok (.iconst 0, 1) := by decide +kernel
theorem d_A_share_3 : decode b_A_share 3 = .ok (.istore_n 2, 1) := by decide +kernel
theorem d_A_share_4 : decode b_A_share 4 = .ok (.iload_n 2, 1) := by decide +kernel
theorem d_A_share_5 : decode b_A_share 5 = .ok (.iconst 4, 1) := by decide +kernel
theorem d_A_share_6 : decode b_A_share 6 = .ok (.if_icmp .ge 18, 3) := by decide +kernel
theorem d_A_share_9 : decode b_A_share 9 = .ok (.iload_n 1, 1) := by decide +kernel
theorem d_A_share_10 : decode b_A_share 10 = .ok (.aload_n 0, 1) := by decide +kernel
theorem d_A_share_11 : decode b_A_share 11 = .ok (.getfield 32, 3) := by decide +kernel
theorem d_A_share_14 : decode b_A_share 14 = .ok (.iload_n 2, 1) := by decide +kernel
theorem d_A_share_15 : decode b_A_share 15 = .ok (.iaload, 1) := by decide +kernel
theorem d_A_share_16 : decode b_A_share 16 = .ok (.iadd, 1) := by decide +kernel
theorem d_A_share_17 : decode b_A_share 17 = .ok (.istore_n 1, 1) := by decide +kernel
theorem d_A_share_18 : decode b_A_share 18 = .ok (.iinc 2 1, 3) := by decide +kernel
theorem d_A_share_21 : decode b_A_share 21 = .ok (.goto (-17), 3) := by decide +kernel
theorem d_A_share_24 : decode b_A_share 24 = .ok (.iload_n 1, 1) := by decide +kernel
theorem d_A_share_25 : decode b_A_share 25 = .ok (.ifCond .ne 13, 3) := by decide +kernel
theorem d_A_share_28 : decode b_A_share 28 = .ok (.new 140, 3) := by decide +kernel
theorem d_A_share_31 : decode b_A_share 31 = .ok (.dup, 1) := by decide +kernel
theorem d_A_share_32 : decode b_A_share 32 = .ok (.ldc 142, 2) := by decide +kernel
theorem d_A_share_34 : decode b_A_share 34 = .ok (.invokespecial 144, 3) := by decide +kernel
theorem d_A_share_37 : decode b_A_share 37 = .ok (.athrow, 1) := by decide +kernel
theorem d_A_share_38 : decode b_A_share 38 = .ok (.sipush 1000, 3) := by decide +kernel
theorem d_A_share_41 : decode b_A_share 41 = .ok (.aload_n 0, 1) := by decide +kernel
theorem d_A_share_42 : decode b_A_share 42 = .ok (.getfield 35, 3) := by decide +kernel
theorem d_A_share_45 : decode b_A_share 45 = .ok (.imul, 1) := by decide +kernel
theorem d_A_share_46 : decode b_A_share 46 = .ok (.iload_n 1, 1) := by decide +kernel
theorem d_A_share_47 : decode b_A_share 47 = .ok (.idiv, 1) := by decide +kernel
theorem d_A_share_48 : decode b_A_share 48 = .ok (.ireturn, 1) := by decide +kernel
theorem d_A_sourceAt_0 : decode b_A_sourceAt 0 = .ok (.iload_n 1, 1) := by decide +kernel
theorem d_A_sourceAt_1 : decode b_A_sourceAt 1 = .ok (.ifCond .lt 20, 3) := by decide +kernel
theorem d_A_sourceAt_4 : decode b_A_sourceAt 4 = .ok (.iload_n 1, 1) := by decide +kernel
theorem d_A_sourceAt_5 : decode b_A_sourceAt 5 = .ok (.aload_n 0, 1) := by decide +kernel
theorem d_A_sourceAt_6 : decode b_A_sourceAt 6 = .ok (.getfield 15, 3) := by decide +kernel
theorem d_A_sourceAt_9 : decode b_A_sourceAt 9 = .ok (.if_icmp .ge 12, 3) := by decide +kernel
theorem d_A_sourceAt_12 : decode b_A_sourceAt 12 = .ok (.aload_n 0, 1) := by decide +kernel
theorem d_A_sourceAt_13 : decode b_A_sourceAt 13 = .ok (.getfield 11, 3) := by decide +kernel
theorem d_A_sourceAt_16 : decode b_A_sourceAt 16 = .ok (.iload_n 1, 1) := by decide +kernel
theorem d_A_sourceAt_17 : decode b_A_sourceAt 17 = .ok (.aaload, 1) := by decide +kernel
theorem d_A_sourceAt_18 : decode b_A_sourceAt 18 = .ok (.goto 4, 3) := by decide +kernel
theorem d_A_sourceAt_21 : decode b_A_sourceAt 21 = .ok (.aconst_null, 1) := by decide +kernel
theorem d_A_sourceAt_22 : decode b_A_sourceAt 22 = .ok (.areturn, 1) := by decide +kernel
theorem d_A_stepAt_0 : decode b_A_stepAt 0 = .ok (.iload_n 1, 1) := by decide +kernel
theorem d_A_stepAt_1 : decode b_A_stepAt 1 = .ok (.ifCond .lt 20, 3) := by decide +kernel
theorem d_A_stepAt_4 : decode b_A_stepAt 4 = .ok (.iload_n 1, 1) := by decide +kernel
theorem d_A_stepAt_5 : decode b_A_stepAt 5 = .ok (.aload_n 0, 1) := by decide +kernel
theorem d_A_stepAt_6 : decode b_A_stepAt 6 = .ok (.getfield 25, 3) := by decide +kernel
theorem d_A_stepAt_9 : decode b_A_stepAt 9 = .ok (.if_icmp .ge 12, 3) := by decide +kernel
theorem d_A_stepAt_12 : decode b_A_stepAt 12 = .ok (.aload_n 0, 1) := by decide +kernel
theorem d_A_stepAt_13 : decode b_A_stepAt 13 = .ok (.getfield 21, 3) := by decide +kernel
theorem d_A_stepAt_16 : decode b_A_stepAt 16 = .ok (.iload_n 1, 1) := by decide +kernel
theorem d_A_stepAt_17 : decode b_A_stepAt 17 = .ok (.aaload, 1) := by decide +kernel
theorem d_A_stepAt_18 : decode b_A_stepAt 18 = .ok (.goto 4, 3) := by decide +kernel
theorem d_A_stepAt_21 : decode b_A_stepAt 21 = .ok (.aconst_null, 1) := by decide +kernel
theorem d_A_stepAt_22 : decode b_A_stepAt 22 = .ok (.areturn, 1) := by decide +kernel
theorem d_A_isPart_0 : decode b_A_isPart 0 = .ok (.iload_n 0, 1) := by decide +kernel
theorem d_A_isPart_1 : decode b_A_isPart 1 = .ok (.ifCond .eq 8, 3) := by decide +kernel
theorem d_A_isPart_4 : decode b_A_isPart 4 = .ok (.iload_n 0, 1) := by decide +kernel
theorem d_A_isPart_5 : decode b_A_isPart 5 = .ok (.iconst 1, 1) := by decide +kernel
theorem d_A_isPart_6 : decode b_A_isPart 6 = .ok (.if_icmp .ne 7, 3) := by decide +kernel
theorem d_A_isPart_9 : decode b_A_isPart 9 = .ok (.iconst 1, 1) := by decide +kernel
theorem d_A_isPart_10 : decode b_A_isPart 10 = .ok (.goto 4, 3) := by decide +kernel
theorem d_A_isPart_13 : decode b_A_isPart 13 = .ok (.iconst 0, 1) := by decide +kernel
theorem d_A_isPart_14 : decode b_A_isPart 14 = .ok (.ireturn, 1) := by decide +kernel
theorem d_A_codeOfFile_0 : decode b_A_codeOfFile 0 = .ok (.iload_n 0, 1) := by decide +kernel
theorem d_A_codeOfFile_1 : decode b_A_codeOfFile 1 = .ok (.ireturn, 1) := by decide +kernel
theorem d_A_codeOfPart_0 : decode b_A_codeOfPart 0 = .ok (.bipush 16, 2) := by decide +kernel
theorem d_A_codeOfPart_2 : decode b_A_codeOfPart 2 = .ok (.iconst 2, 1) := by decide +kernel
theorem d_A_codeOfPart_3 : decode b_A_codeOfPart 3 = .ok (.iload_n 0, 1) := by decide +kernel
theorem d_A_codeOfPart_4 : decode b_A_codeOfPart 4 = .ok (.imul, 1) := by decide +kernel
theorem d_A_codeOfPart_5 : decode b_A_codeOfPart 5 = .ok (.iadd, 1) := by decide +kernel
theorem d_A_codeOfPart_6 : decode b_A_codeOfPart 6 = .ok (.iload_n 1, 1) := by decide +kernel
theorem d_A_codeOfPart_7 : decode b_A_codeOfPart 7 = .ok (.iadd, 1) := by decide +kernel
theorem d_A_codeOfPart_8 : decode b_A_codeOfPart 8 = .ok (.ireturn, 1) := by decide +kernel
theorem d_A_isFileCode_0 : decode b_A_isFileCode 0 = .ok (.iload_n 0, 1) := by decide +kernel
theorem d_A_isFileCode_1 : decode b_A_isFileCode 1 = .ok (.bipush 16, 2) := by decide +kernel
theorem d_A_isFileCode_3 : decode b_A_isFileCode 3 = .ok (.if_icmp .ge 7, 3) := by decide +kernel
theorem d_A_isFileCode_6 : decode b_A_isFileCode 6 = .ok (.iconst 1, 1) := by decide +kernel
theorem d_A_isFileCode_7 : decode b_A_isFileCode 7 = .ok (.goto 4, 3) := by decide +kernel
theorem d_A_isFileCode_10 : decode b_A_isFileCode 10 = .ok (.iconst 0, 1) := by decide +kernel
theorem d_A_isFileCode_11 : decode b_A_isFileCode 11 = .ok (.ireturn, 1) := by decide +kernel
theorem d_A_stepOfCode_0 : decode b_A_stepOfCode 0 = .ok (.aload_n 0, 1) := by decide +kernel
theorem d_A_stepOfCode_1 : decode b_A_stepOfCode 1 = .ok (.iload_n 1, 1) := by decide +kernel
theorem d_A_stepOfCode_2 : decode b_A_stepOfCode 2 = .ok (.bipush 16, 2) := by decide +kernel
theorem d_A_stepOfCode_4 : decode b_A_stepOfCode 4 = .ok (.isub, 1) := by decide +kernel
theorem d_A_stepOfCode_5 : decode b_A_stepOfCode 5 = .ok (.iconst 2, 1) := by decide +kernel
theorem d_A_stepOfCode_6 : decode b_A_stepOfCode 6 = .ok (.idiv, 1) := by decide +kernel
theorem d_A_stepOfCode_7 : decode b_A_stepOfCode 7 = .ok (.invokevirtual 59, 3) := by decide +kernel
theorem d_A_stepOfCode_10 : decode b_A_stepOfCode 10 = .ok (.areturn, 1) := by decide +kernel
theorem d_A_partOfCode_0 : decode b_A_partOfCode 0 = .ok (.iload_n 0, 1) := by decide +kernel
theorem d_A_partOfCode_1 : decode b_A_partOfCode 1 = .ok (.bipush 16, 2) := by decide +kernel
theorem d_A_partOfCode_3 : decode b_A_partOfCode 3 = .ok (.isub, 1) := by decide +kernel
theorem d_A_partOfCode_4 : decode b_A_partOfCode 4 = .ok (.iconst 2, 1) := by decide +kernel
theorem d_A_partOfCode_5 : decode b_A_partOfCode 5 = .ok (.irem, 1) := by decide +kernel
theorem d_A_partOfCode_6 : decode b_A_partOfCode 6 = .ok (.ireturn, 1) := by decide +kernel
theorem d_A_forgetLatestBuild_0 : decode b_A_forgetLatestBuild 0 = .ok (.iconst 0, 1) := by decide +kernel
theorem d_A_forgetLatestBuild_1 : decode b_A_forgetLatestBuild 1 = .ok (.istore_n 1, 1) := by decide +kernel
theorem d_A_forgetLatestBuild_2 : decode b_A_forgetLatestBuild 2 = .ok (.iload_n 1, 1) := by decide +kernel
theorem d_A_forgetLatestBuild_3 : decode b_A_forgetLatestBuild 3 = .ok (.aload_n 0, 1) := by decide +kernel
theorem d_A_forgetLatestBuild_4 : decode b_A_forgetLatestBuild 4 = .ok (.getfield 25, 3) := by decide +kernel
theorem d_A_forgetLatestBuild_7 : decode b_A_forgetLatestBuild 7 = .ok (.if_icmp .ge 18, 3) := by decide +kernel
theorem d_A_forgetLatestBuild_10 : decode b_A_forgetLatestBuild 10 = .ok (.aload_n 0, 1) := by decide +kernel
theorem d_A_forgetLatestBuild_11 : decode b_A_forgetLatestBuild 11 = .ok (.getfield 21, 3) := by decide +kernel
theorem d_A_forgetLatestBuild_14 : decode b_A_forgetLatestBuild 14 = .ok (.iload_n 1, 1) := by decide +kernel
theorem d_A_forgetLatestBuild_15 : decode b_A_forgetLatestBuild 15 = .ok (.aaload, 1) := by decide +kernel
theorem d_A_forgetLatestBuild_16 : decode b_A_forgetLatestBuild 16 = .ok (.invokevirtual 145, 3) := by decide +kernel
theorem d_A_forgetLatestBuild_19 : decode b_A_forgetLatestBuild 19 = .ok (.iinc 1 1, 3) := by decide +kernel
theorem d_A_forgetLatestBuild_22 : decode b_A_forgetLatestBuild 22 = .ok (.goto (-20), 3) := by decide +kernel
theorem d_A_forgetLatestBuild_25 : decode b_A_forgetLatestBuild 25 = .ok (.iconst 0, 1) := by decide +kernel
theorem d_A_forgetLatestBuild_26 : decode b_A_forgetLatestBuild 26 = .ok (.istore_n 1, 1) := by decide +kernel
theorem d_A_forgetLatestBuild_27 : decode b_A_forgetLatestBuild 27 = .ok (.iload_n 1, 1) := by decide +kernel
theorem d_A_forgetLatestBuild_28 : decode b_A_forgetLatestBuild 28 = .ok (.iconst 5, 1) := by decide +kernel
theorem d_A_forgetLatestBuild_29 : decode b_A_forgetLatestBuild 29 = .ok (.if_icmp .ge 16, 3) := by decide +kernel
theorem d_A_forgetLatestBuild_32 : decode b_A_forgetLatestBuild 32 = .ok (.aload_n 0, 1) := by decide +kernel
theorem d_A_forgetLatestBuild_33 : decode b_A_forgetLatestBuild 33 = .ok (.getfield 28, 3) := by decide +kernel
theorem d_A_forgetLatestBuild_36 : decode b_A_forgetLatestBuild 36 = .ok (.iload_n 1, 1) := by decide +kernel
theorem d_A_forgetLatestBuild_37 : decode b_A_forgetLatestBuild 37 = .ok (.iconst 0, 1) := by decide +kernel
theorem d_A_forgetLatestBuild_38 : decode b_A_forgetLatestBuild 38 = .ok (.iastore, 1) := by decide +kernel
theorem d_A_forgetLatestBuild_39 : decode b_A_forgetLatestBuild 39 = .ok (.iinc 1 1, 3) := by decide +kernel
theorem d_A_forgetLatestBuild_42 : decode b_A_forgetLatestBuild 42 = .ok (.goto (-15), 3) := by decide +kernel
theorem d_A_forgetLatestBuild_45 : decode b_A_forgetLatestBuild 45 = .ok (.return_, 1) := by decide +kernel
theorem d_A_takeNeeded_0 : decode b_A_takeNeeded 0 = .ok (.aload_n 0, 1) := by decide +kernel
theorem d_A_takeNeeded_1 : decode b_A_takeNeeded 1 = .ok (.getfield 25, 3) := by decide +kernel
theorem d_A_takeNeeded_4 : decode b_A_takeNeeded 4 = .ok (.iconst 1, 1) := by decide +kernel
theorem d_A_takeNeeded_5 : decode b_A_takeNeeded 5 = .ok (.isub, 1) := by decide +kernel
theorem d_A_takeNeeded_6 : decode b_A_takeNeeded 6 = .ok (.istore_n 2, 1) := by decide +kernel
theorem d_A_takeNeeded_7 : decode b_A_takeNeeded 7 = .ok (.iload_n 2, 1) := by decide +kernel
theorem d_A_takeNeeded_8 : decode b_A_takeNeeded 8 = .ok (.ifCond .lt 41, 3) := by decide +kernel
theorem d_A_takeNeeded_11 : decode b_A_takeNeeded 11 = .ok (.aload_n 0, 1) := by decide +kernel
theorem d_A_takeNeeded_12 : decode b_A_takeNeeded 12 = .ok (.getfield 21, 3) := by decide +kernel
theorem d_A_takeNeeded_15 : decode b_A_takeNeeded 15 = .ok (.iload_n 2, 1) := by decide +kernel
theorem d_A_takeNeeded_16 : decode b_A_takeNeeded 16 = .ok (.aaload, 1) := by decide +kernel
theorem d_A_takeNeeded_17 : decode b_A_takeNeeded 17 = .ok (.astore_n 3, 1) := by decide +kernel
theorem d_A_takeNeeded_18 : decode b_A_takeNeeded 18 = .ok (.iload_n 1, 1) := by decide +kernel
theorem d_A_takeNeeded_19 : decode b_A_takeNeeded 19 = .ok (.iload_n 2, 1) := by decide +kernel
theorem d_A_takeNeeded_20 : decode b_A_takeNeeded 20 = .ok (.iushr, 1) := by decide +kernel
theorem d_A_takeNeeded_21 : decode b_A_takeNeeded 21 = .ok (.iconst 1, 1) := by decide +kernel
theorem d_A_takeNeeded_22 : decode b_A_takeNeeded 22 = .ok (.iand, 1) := by decide +kernel
theorem d_A_takeNeeded_23 : decode b_A_takeNeeded 23 = .ok (.ifCond .eq 8, 3) := by decide +kernel
theorem d_A_takeNeeded_26 : decode b_A_takeNeeded 26 = .ok (.aload_n 3, 1) := by decide +kernel
theorem d_A_takeNeeded_27 : decode b_A_takeNeeded 27 = .ok (.iconst 1, 1) := by decide +kernel
theorem d_A_takeNeeded_28 : decode b_A_takeNeeded 28 = .ok (.putfield 88, 3) := by decide +kernel
theorem d_A_takeNeeded_31 : decode b_A_takeNeeded 31 = .ok (.aload_n 3, 1) := by decide +kernel
theorem d_A_takeNeeded_32 : decode b_A_takeNeeded 32 = .ok (.getfield 88, 3) := by decide +kernel
theorem d_A_takeNeeded_35 : decode b_A_takeNeeded 35 = .ok (.ifCond .eq 8, 3) := by decide +kernel
theorem d_A_takeNeeded_38 : decode b_A_takeNeeded 38 = .ok (.aload_n 0, 1) := by decide +kernel
theorem d_A_takeNeeded_39 : decode b_A_takeNeeded 39 = .ok (.aload_n 3, 1) := by decide +kernel
theorem d_A_takeNeeded_40 : decode b_A_takeNeeded 40 = .ok (.invokevirtual 146, 3) := by decide +kernel
theorem d_A_takeNeeded_43 : decode b_A_takeNeeded 43 = .ok (.iinc 2 (-1), 3) := by decide +kernel
theorem d_A_takeNeeded_46 : decode b_A_takeNeeded 46 = .ok (.goto (-39), 3) := by decide +kernel
theorem d_A_takeNeeded_49 : decode b_A_takeNeeded 49 = .ok (.return_, 1) := by decide +kernel
theorem d_A_takeStepsReadBy_0 : decode b_A_takeStepsReadBy 0 = .ok (.iconst 0, 1) := by decide +kernel
theorem d_A_takeStepsReadBy_1 : decode b_A_takeStepsReadBy 1 = .ok (.istore_n 2, 1) := by decide +kernel
theorem d_A_takeStepsReadBy_2 : decode b_A_takeStepsReadBy 2 = .ok (.iload_n 2, 1) := by decide +kernel
theorem d_A_takeStepsReadBy_3 : decode b_A_takeStepsReadBy 3 = .ok (.aload_n 1, 1) := by decide +kernel
theorem d_A_takeStepsReadBy_4 : decode b_A_takeStepsReadBy 4 = .ok (.getfield 130, 3) := by decide +kernel
theorem d_A_takeStepsReadBy_7 : decode b_A_takeStepsReadBy 7 = .ok (.if_icmp .ge 41, 3) := by decide +kernel
theorem d_A_takeStepsReadBy_10 : decode b_A_takeStepsReadBy 10 = .ok (.aload_n 1, 1) := by decide +kernel
theorem d_A_takeStepsReadBy_11 : decode b_A_takeStepsReadBy 11 = .ok (.getfield 149, 3) := by decide +kernel
theorem d_A_takeStepsReadBy_14 : decode b_A_takeStepsReadBy 14 = .ok (.iload_n 2, 1) := by decide +kernel
theorem d_A_takeStepsReadBy_15 : decode b_A_takeStepsReadBy 15 = .ok (.iaload, 1) := by decide +kernel
theorem d_A_takeStepsReadBy_16 : decode b_A_takeStepsReadBy 16 = .ok (.invokestatic 152, 3) := by decide +kernel
theorem d_A_takeStepsReadBy_19 : decode b_A_takeStepsReadBy 19 = .ok (.ifCond .ne 23, 3) := by decide +kernel
theorem d_A_takeStepsReadBy_22 : decode b_A_takeStepsReadBy 22 = .ok (.aload_n 0, 1) := by decide +kernel
theorem d_A_takeStepsReadBy_23 : decode b_A_takeStepsReadBy 23 = .ok (.aload_n 1, 1) := by decide +kernel
theorem d_A_takeStepsReadBy_24 : decode b_A_takeStepsReadBy 24 = .ok (.getfield 149, 3) := by decide +kernel
theorem d_A_takeStepsReadBy_27 : decode b_A_takeStepsReadBy 27 = .ok (.iload_n 2, 1) := by decide +kernel
theorem d_A_takeStepsReadBy_28 : decode b_A_takeStepsReadBy 28 = .ok (.iaload, 1) := by decide +kernel
theorem d_A_takeStepsReadBy_29 : decode b_A_takeStepsReadBy 29 = .ok (.invokevirtual 155, 3) := by decide +kernel
theorem d_A_takeStepsReadBy_32 : decode b_A_takeStepsReadBy 32 = .ok (.astore_n 3, 1) := by decide +kernel
theorem d_A_takeStepsReadBy_33 : decode b_A_takeStepsReadBy 33 = .ok (.aload_n 3, 1) := by decide +kernel
theorem d_A_takeStepsReadBy_34 : decode b_A_takeStepsReadBy 34 = .ok (.ifnull 8, 3) := by decide +kernel
theorem d_A_takeStepsReadBy_37 : decode b_A_takeStepsReadBy 37 = .ok (.aload_n 3, 1) := by decide +kernel
theorem d_A_takeStepsReadBy_38 : decode b_A_takeStepsReadBy 38 = .ok (.iconst 1, 1) := by decide +kernel
theorem d_A_takeStepsReadBy_39 : decode b_A_takeStepsReadBy 39 = .ok (.putfield 88, 3) := by decide +kernel
theorem d_A_takeStepsReadBy_42 : decode b_A_takeStepsReadBy 42 = .ok (.iinc 2 1, 3) := by decide +kernel
theorem d_A_takeStepsReadBy_45 : decode b_A_takeStepsReadBy 45 = .ok (.goto (-43), 3) := by decide +kernel
theorem d_A_takeStepsReadBy_48 : decode b_A_takeStepsReadBy 48 = .ok (.return_, 1) := by decide +kernel
theorem d_A_buildOne_0 : decode b_A_buildOne 0 = .ok (.aload_n 1, 1) := by decide +kernel
theorem d_A_buildOne_1 : decode b_A_buildOne 1 = .ok (.aload_n 0, 1) := by decide +kernel
theorem d_A_buildOne_2 : decode b_A_buildOne 2 = .ok (.aload_n 1, 1) := by decide +kernel
theorem d_A_buildOne_3 : decode b_A_buildOne 3 = .ok (.invokevirtual 158, 3) := by decide +kernel
theorem d_A_buildOne_6 : decode b_A_buildOne 6 = .ok (.putfield 162, 3) := by decide +kernel
theorem d_A_buildOne_9 : decode b_A_buildOne 9 = .ok (.aload_n 1, 1) := by decide +kernel
theorem d_A_buildOne_10 : decode b_A_buildOne 10 = .ok (.getfield 162, 3) := by decide +kernel
theorem d_A_buildOne_13 : decode b_A_buildOne 13 = .ok (.ifCond .eq 13, 3) := by decide +kernel
theorem d_A_buildOne_16 : decode b_A_buildOne 16 = .ok (.aload_n 0, 1) := by decide +kernel
theorem d_A_buildOne_17 : decode b_A_buildOne 17 = .ok (.getfield 28, 3) := by decide +kernel
theorem d_A_buildOne_20 : decode b_A_buildOne 20 = .ok (.iconst 4, 1) := by decide +kernel
theorem d_A_buildOne_21 : decode b_A_buildOne 21 = .ok (.dup2, 1) := by decide +kernel
theorem d_A_buildOne_22 : decode b_A_buildOne 22 = .ok (.iaload, 1) := by decide +kernel
theorem d_A_buildOne_23 : decode b_A_buildOne 23 = .ok (.iconst 1, 1) := by decide +kernel
theorem d_A_buildOne_24 : decode b_A_buildOne 24 = .ok (.iadd, 1) := by decide +kernel
theorem d_A_buildOne_25 : decode b_A_buildOne 25 = .ok (.iastore, 1) := by decide +kernel
theorem d_A_buildOne_26 : decode b_A_buildOne 26 = .ok (.aload_n 0, 1) := by decide +kernel
theorem d_A_buildOne_27 : decode b_A_buildOne 27 = .ok (.aload_n 1, 1) := by decide +kernel
theorem d_A_buildOne_28 : decode b_A_buildOne 28 = .ok (.invokevirtual 165, 3) := by decide +kernel
theorem d_A_buildOne_31 : decode b_A_buildOne 31 = .ok (.ifCond .eq 19, 3) := by decide +kernel
theorem d_A_buildOne_34 : decode b_A_buildOne 34 = .ok (.aload_n 1, 1) := by decide +kernel
theorem d_A_buildOne_35 : decode b_A_buildOne 35 = .ok (.iconst 5, 1) := by decide +kernel
theorem d_A_buildOne_36 : decode b_A_buildOne 36 = .ok (.putfield 98, 3) := by decide +kernel
theorem d_A_buildOne_39 : decode b_A_buildOne 39 = .ok (.aload_n 0, 1) := by decide +kernel
theorem d_A_buildOne_40 : decode b_A_buildOne 40 = .ok (.getfield 28, 3) := by decide +kernel
theorem d_A_buildOne_43 : decode b_A_buildOne 43 = .ok (.iconst 3, 1) := by decide +kernel
theorem d_A_buildOne_44 : decode b_A_buildOne 44 = .ok (.dup2, 1) := by decide +kernel
theorem d_A_buildOne_45 : decode b_A_buildOne 45 = .ok (.iaload, 1) := by decide +kernel
theorem d_A_buildOne_46 : decode b_A_buildOne 46 = .ok (.iconst 1, 1) := by decide +kernel
theorem d_A_buildOne_47 : decode b_A_buildOne 47 = .ok (.iadd, 1) := by decide +kernel
theorem d_A_buildOne_48 : decode b_A_buildOne 48 = .ok (.iastore, 1) := by decide +kernel
theorem d_A_buildOne_49 : decode b_A_buildOne 49 = .ok (.return_, 1) := by decide +kernel
theorem d_A_buildOne_50 : decode b_A_buildOne 50 = .ok (.aload_n 0, 1) := by decide +kernel
theorem d_A_buildOne_51 : decode b_A_buildOne 51 = .ok (.aload_n 1, 1) := by decide +kernel
theorem d_A_buildOne_52 : decode b_A_buildOne 52 = .ok (.invokevirtual 168, 3) := by decide +kernel
theorem d_A_buildOne_55 : decode b_A_buildOne 55 = .ok (.aload_n 1, 1) := by decide +kernel
theorem d_A_buildOne_56 : decode b_A_buildOne 56 = .ok (.getfield 162, 3) := by decide +kernel
theorem d_A_buildOne_59 : decode b_A_buildOne 59 = .ok (.ifCond .eq 21, 3) := by decide +kernel
theorem d_A_buildOne_62 : decode b_A_buildOne 62 = .ok (.aload_n 1, 1) := by decide +kernel
theorem d_A_buildOne_63 : decode b_A_buildOne 63 = .ok (.getfield 95, 3) := by decide +kernel
theorem d_A_buildOne_66 : decode b_A_buildOne 66 = .ok (.iconst (-1), 1) := by decide +kernel
theorem d_A_buildOne_67 : decode b_A_buildOne 67 = .ok (.if_icmp .ne 13, 3) := by decide +kernel
theorem d_A_buildOne_70 : decode b_A_buildOne 70 = .ok (.aload_n 0, 1) := by decide +kernel
theorem d_A_buildOne_71 : decode b_A_buildOne 71 = .ok (.getfield 28, 3) := by decide +kernel
theorem d_A_buildOne_74 : decode b_A_buildOne 74 = .ok (.iconst 0, 1) := by decide +kernel
theorem d_A_buildOne_75 : decode b_A_buildOne 75 = .ok (.dup2, 1) := by decide +kernel
theorem d_A_buildOne_76 : decode b_A_buildOne 76 = .ok (.iaload, 1) := by decide +kernel
theorem d_A_buildOne_77 : decode b_A_buildOne 77 = .ok (.iconst 1, 1) := by decide +kernel
theorem d_A_buildOne_78 : decode b_A_buildOne 78 = .ok (.iadd, 1) := by decide +kernel
theorem d_A_buildOne_79 : decode b_A_buildOne 79 = .ok (.iastore, 1) := by decide +kernel
theorem d_A_buildOne_80 : decode b_A_buildOne 80 = .ok (.return_, 1) := by decide +kernel
theorem d_A_isMarked_0 : decode b_A_isMarked 0 = .ok (.aload_n 1, 1) := by decide +kernel
theorem d_A_isMarked_1 : decode b_A_isMarked 1 = .ok (.iconst 0, 1) := by decide +kernel
theorem d_A_isMarked_2 : decode b_A_isMarked 2 = .ok (.invokevirtual 108, 3) := by decide +kernel
theorem d_A_isMarked_5 : decode b_A_isMarked 5 = .ok (.astore_n 2, 1) := by decide +kernel
theorem d_A_isMarked_6 : decode b_A_isMarked 6 = .ok (.aload_n 2, 1) := by decide +kernel
theorem d_A_isMarked_7 : decode b_A_isMarked 7 = .ok (.ifnull 10, 3) := by decide +kernel
theorem d_A_isMarked_10 : decode b_A_isMarked 10 = .ok (.aload_n 1, 1) := by decide +kernel
theorem d_A_isMarked_11 : decode b_A_isMarked 11 = .ok (.getfield 78, 3) := by decide +kernel
theorem d_A_isMarked_14 : decode b_A_isMarked 14 = .ok (.ifCond .eq 5, 3) := by decide +kernel
theorem d_A_isMarked_17 : decode b_A_isMarked 17 = .ok (.iconst 1, 1) := by decide +kernel
theorem d_A_isMarked_18 : decode b_A_isMarked 18 = .ok (.ireturn, 1) := by decide +kernel
theorem d_A_isMarked_19 : decode b_A_isMarked 19 = .ok (.iconst 0, 1) := by decide +kernel
theorem d_A_isMarked_20 : decode b_A_isMarked 20 = .ok (.istore_n 3, 1) := by decide +kernel
theorem d_A_isMarked_21 : decode b_A_isMarked 21 = .ok (.iload_n 3, 1) := by decide +kernel
theorem d_A_isMarked_22 : decode b_A_isMarked 22 = .ok (.aload_n 1, 1) := by decide +kernel
theorem d_A_isMarked_23 : decode b_A_isMarked 23 = .ok (.getfield 130, 3) := by decide +kernel
theorem d_A_isMarked_26 : decode b_A_isMarked 26 = .ok (.if_icmp .ge 26, 3) := by decide +kernel
theorem d_A_isMarked_29 : decode b_A_isMarked 29 = .ok (.aload_n 0, 1) := by decide +kernel
theorem d_A_isMarked_30 : decode b_A_isMarked 30 = .ok (.aload_n 1, 1) := by decide +kernel
theorem d_A_isMarked_31 : decode b_A_isMarked 31 = .ok (.getfield 149, 3) := by decide +kernel
theorem d_A_isMarked_34 : decode b_A_isMarked 34 = .ok (.iload_n 3, 1) := by decide +kernel
theorem d_A_isMarked_35 : decode b_A_isMarked 35 = .ok (.iaload, 1) := by decide +kernel
theorem d_A_isMarked_36 : decode b_A_isMarked 36 = .ok (.aload_n 2, 1) := by decide +kernel
theorem d_A_isMarked_37 : decode b_A_isMarked 37 = .ok (.iload_n 3, 1) := by decide +kernel
theorem d_A_isMarked_38 : decode b_A_isMarked 38 = .ok (.invokevirtual 171, 3) := by decide +kernel
theorem d_A_isMarked_41 : decode b_A_isMarked 41 = .ok (.ifCond .eq 5, 3) := by decide +kernel
theorem d_A_isMarked_44 : decode b_A_isMarked 44 = .ok (.iconst 1, 1) := by decide +kernel
theorem d_A_isMarked_45 : decode b_A_isMarked 45 = .ok (.ireturn, 1) := by decide +kernel
theorem d_A_isMarked_46 : decode b_A_isMarked 46 = .ok (.iinc 3 1, 3) := by decide +kernel
theorem d_A_isMarked_49 : decode b_A_isMarked 49 = .ok (.goto (-28), 3) := by decide +kernel
theorem d_A_isMarked_52 : decode b_A_isMarked 52 = .ok (.iconst 0, 1) := by decide +kernel
theorem d_A_isMarked_53 : decode b_A_isMarked 53 = .ok (.ireturn, 1) := by decide +kernel
theorem d_A_marksItsReader_0 : decode b_A_marksItsReader 0 = .ok (.iload_n 1, 1) := by decide +kernel
theorem d_A_marksItsReader_1 : decode b_A_marksItsReader 1 = .ok (.invokestatic 152, 3) := by decide +kernel
theorem d_A_marksItsReader_4 : decode b_A_marksItsReader 4 = .ok (.ifCond .eq 19, 3) := by decide +kernel
theorem d_A_marksItsReader_7 : decode b_A_marksItsReader 7 = .ok (.aload_n 2, 1) := by decide +kernel
theorem d_A_marksItsReader_8 : decode b_A_marksItsReader 8 = .ok (.iload_n 3, 1) := by decide +kernel
theorem d_A_marksItsReader_9 : decode b_A_marksItsReader 9 = .ok (.aload_n 0, 1) := by decide +kernel
theorem d_A_marksItsReader_10 : decode b_A_marksItsReader 10 = .ok (.iload_n 1, 1) := by decide +kernel
theorem d_A_marksItsReader_11 : decode b_A_marksItsReader 11 = .ok (.invokevirtual 175, 3) := by decide +kernel
theorem d_A_marksItsReader_14 : decode b_A_marksItsReader 14 = .ok (.aload_n 0, 1) := by decide +kernel
theorem d_A_marksItsReader_15 : decode b_A_marksItsReader 15 = .ok (.iload_n 1, 1) := by decide +kernel
theorem d_A_marksItsReader_16 : decode b_A_marksItsReader 16 = .ok (.invokevirtual 178, 3) := by decide +kernel
theorem d_A_marksItsReader_19 : decode b_A_marksItsReader 19 = .ok (.invokevirtual 181, 3) := by decide +kernel
theorem d_A_marksItsReader_22 : decode b_A_marksItsReader 22 = .ok (.ireturn, 1) := by decide +kernel
theorem d_A_marksItsReader_23 : decode b_A_marksItsReader 23 = .ok (.aload_n 0, 1) := by decide +kernel
theorem d_A_marksItsReader_24 : decode b_A_marksItsReader 24 = .ok (.iload_n 1, 1) := by decide +kernel
theorem d_A_marksItsReader_25 : decode b_A_marksItsReader 25 = .ok (.invokevirtual 155, 3) := by decide +kernel
theorem d_A_marksItsReader_28 : decode b_A_marksItsReader 28 = .ok (.astore 4, 2) := by decide +kernel
theorem d_A_marksItsReader_30 : decode b_A_marksItsReader 30 = .ok (.aload 4, 2) := by decide +kernel
theorem d_A_marksItsReader_32 : decode b_A_marksItsReader 32 = .ok (.ifnull 15, 3) := by decide +kernel
theorem d_A_marksItsReader_35 : decode b_A_marksItsReader 35 = .ok (.aload 4, 2) := by decide +kernel
theorem d_A_marksItsReader_37 : decode b_A_marksItsReader 37 = .ok (.getfield 162, 3) := by decide +kernel
theorem d_A_marksItsReader_40 : decode b_A_marksItsReader 40 = .ok (.ifCond .eq 7, 3) := by decide +kernel
theorem d_A_marksItsReader_43 : decode b_A_marksItsReader 43 = .ok (.iconst 1, 1) := by decide +kernel
theorem d_A_marksItsReader_44 : decode b_A_marksItsReader 44 = .ok (.goto 4, 3) := by decide +kernel
theorem d_A_marksItsReader_47 : decode b_A_marksItsReader 47 = .ok (.iconst 0, 1) := by decide +kernel
theorem d_A_marksItsReader_48 : decode b_A_marksItsReader 48 = .ok (.ireturn, 1) := by decide +kernel
theorem d_A_isBlocked_0 : decode b_A_isBlocked 0 = .ok (.iconst 0, 1) := by decide +kernel
theorem d_A_isBlocked_1 : decode b_A_isBlocked 1 = .ok (.istore_n 2, 1) := by decide +kernel
theorem d_A_isBlocked_2 : decode b_A_isBlocked 2 = .ok (.iload_n 2, 1) := by decide +kernel
theorem d_A_isBlocked_3 : decode b_A_isBlocked 3 = .ok (.aload_n 1, 1) := by decide +kernel
theorem d_A_isBlocked_4 : decode b_A_isBlocked 4 = .ok (.getfield 130, 3) := by decide +kernel
theorem d_A_isBlocked_7 : decode b_A_isBlocked 7 = .ok (.if_icmp .ge 45, 3) := by decide +kernel
theorem d_A_isBlocked_10 : decode b_A_isBlocked 10 = .ok (.aload_n 1, 1) := by decide +kernel
theorem d_A_isBlocked_11 : decode b_A_isBlocked 11 = .ok (.getfield 149, 3) := by decide +kernel
theorem d_A_isBlocked_14 : decode b_A_isBlocked 14 = .ok (.iload_n 2, 1) := by decide +kernel
theorem d_A_isBlocked_15 : decode b_A_isBlocked 15 = .ok (.iaload, 1) := by decide +kernel
theorem d_A_isBlocked_16 : decode b_A_isBlocked 16 = .ok (.invokestatic 152, 3) := by decide +kernel
theorem d_A_isBlocked_19 : decode b_A_isBlocked 19 = .ok (.ifCond .ne 27, 3) := by decide +kernel
theorem d_A_isBlocked_22 : decode b_A_isBlocked 22 = .ok (.aload_n 0, 1) := by decide +kernel
theorem d_A_isBlocked_23 : decode b_A_isBlocked 23 = .ok (.aload_n 1, 1) := by decide +kernel
theorem d_A_isBlocked_24 : decode b_A_isBlocked 24 = .ok (.getfield 149, 3) := by decide +kernel
theorem d_A_isBlocked_27 : decode b_A_isBlocked 27 = .ok (.iload_n 2, 1) := by decide +kernel
theorem d_A_isBlocked_28 : decode b_A_isBlocked 28 = .ok (.iaload, 1) := by decide +kernel
theorem d_A_isBlocked_29 : decode b_A_isBlocked 29 = .ok (.invokevirtual 155, 3) := by decide +kernel
theorem d_A_isBlocked_32 : decode b_A_isBlocked 32 = .ok (.astore_n 3, 1) := by decide +kernel
theorem d_A_isBlocked_33 : decode b_A_isBlocked 33 = .ok (.aload_n 3, 1) := by decide +kernel
theorem d_A_isBlocked_34 : decode b_A_isBlocked 34 = .ok (.ifnull 12, 3) := by decide +kernel
theorem d_A_isBlocked_37 : decode b_A_isBlocked 37 = .ok (.aload_n 3, 1) := by decide +kernel
theorem d_A_isBlocked_38 : decode b_A_isBlocked 38 = .ok (.invokevirtual 185, 3) := by decide +kernel
theorem d_A_isBlocked_41 : decode b_A_isBlocked 41 = .ok (.ifCond .eq 5, 3) := by decide +kernel
theorem d_A_isBlocked_44 : decode b_A_isBlocked 44 = .ok (.iconst 1, 1) := by decide +kernel
theorem d_A_isBlocked_45 : decode b_A_isBlocked 45 = .ok (.ireturn, 1) := by decide +kernel
theorem d_A_isBlocked_46 : decode b_A_isBlocked 46 = .ok (.iinc 2 1, 3) := by decide +kernel
theorem d_A_isBlocked_49 : decode b_A_isBlocked 49 = .ok (.goto (-47), 3) := by decide +kernel
theorem d_A_isBlocked_52 : decode b_A_isBlocked 52 = .ok (.iconst 0, 1) := by decide +kernel
theorem d_A_isBlocked_53 : decode b_A_isBlocked 53 = .ok (.ireturn, 1) := by decide +kernel
theorem d_A_bringUpToDate_0 : decode b_A_bringUpToDate 0 = .ok (.aload_n 1, 1) := by decide +kernel
theorem d_A_bringUpToDate_1 : decode b_A_bringUpToDate 1 = .ok (.iconst 0, 1) := by decide +kernel
theorem d_A_bringUpToDate_2 : decode b_A_bringUpToDate 2 = .ok (.invokevirtual 108, 3) := by decide +kernel
theorem d_A_bringUpToDate_5 : decode b_A_bringUpToDate 5 = .ok (.astore_n 2, 1) := by decide +kernel
theorem d_A_bringUpToDate_6 : decode b_A_bringUpToDate 6 = .ok (.aload_n 0, 1) := by decide +kernel
theorem d_A_bringUpToDate_7 : decode b_A_bringUpToDate 7 = .ok (.aload_n 1, 1) := by decide +kernel
theorem d_A_bringUpToDate_8 : decode b_A_bringUpToDate 8 = .ok (.invokevirtual 188, 3) := by decide +kernel
theorem d_A_bringUpToDate_11 : decode b_A_bringUpToDate 11 = .ok (.astore_n 3, 1) := by decide +kernel
theorem d_A_bringUpToDate_12 : decode b_A_bringUpToDate 12 = .ok (.aload_n 1, 1) := by decide +kernel
theorem d_A_bringUpToDate_13 : decode b_A_bringUpToDate 13 = .ok (.aload_n 3, 1) := by decide +kernel
theorem d_A_bringUpToDate_14 : decode b_A_bringUpToDate 14 = .ok (.invokevirtual 192, 3) := by decide +kernel
theorem d_A_bringUpToDate_17 : decode b_A_bringUpToDate 17 = .ok (.istore 4, 2) := by decide +kernel
theorem d_A_bringUpToDate_19 : decode b_A_bringUpToDate 19 = .ok (.iload 4, 2) := by decide +kernel
theorem d_A_bringUpToDate_21 : decode b_A_bringUpToDate 21 = .ok (.iconst (-1), 1) := by decide +kernel
theorem d_A_bringUpToDate_22 : decode b_A_bringUpToDate 22 = .ok (.if_icmp .eq 19, 3) := by decide +kernel
theorem d_A_bringUpToDate_25 : decode b_A_bringUpToDate 25 = .ok (.aload_n 1, 1) := by decide +kernel
theorem d_A_bringUpToDate_26 : decode b_A_bringUpToDate 26 = .ok (.getfield 78, 3) := by decide +kernel
theorem d_A_bringUpToDate_29 : decode b_A_bringUpToDate 29 = .ok (.ifCond .ne 12, 3) := by decide +kernel
theorem d_A_bringUpToDate_32 : decode b_A_bringUpToDate 32 = .ok (.aload_n 1, 1) := by decide +kernel
theorem d_A_bringUpToDate_33 : decode b_A_bringUpToDate 33 = .ok (.iload 4, 2) := by decide +kernel
theorem d_A_bringUpToDate_35 : decode b_A_bringUpToDate 35 = .ok (.invokevirtual 196, 3) := by decide +kernel
theorem d_A_bringUpToDate_38 : decode b_A_bringUpToDate 38 = .ok (.goto 33, 3) := by decide +kernel
theorem d_A_bringUpToDate_41 : decode b_A_bringUpToDate 41 = .ok (.aload_n 1, 1) := by decide +kernel
theorem d_A_bringUpToDate_42 : decode b_A_bringUpToDate 42 = .ok (.aload_n 3, 1) := by decide +kernel
theorem d_A_bringUpToDate_43 : decode b_A_bringUpToDate 43 = .ok (.invokestatic 199, 3) := by decide +kernel
theorem d_A_bringUpToDate_46 : decode b_A_bringUpToDate 46 = .ok (.istore 5, 2) := by decide +kernel
theorem d_A_bringUpToDate_48 : decode b_A_bringUpToDate 48 = .ok (.aload_n 1, 1) := by decide +kernel
theorem d_A_bringUpToDate_49 : decode b_A_bringUpToDate 49 = .ok (.iload 4, 2) := by decide +kernel
theorem d_A_bringUpToDate_51 : decode b_A_bringUpToDate 51 = .ok (.invokevirtual 203, 3) := by decide +kernel
theorem d_A_bringUpToDate_54 : decode b_A_bringUpToDate 54 = .ok (.aload_n 1, 1) := by decide +kernel
theorem d_A_bringUpToDate_55 : decode b_A_bringUpToDate 55 = .ok (.iload 5, 2) := by decide +kernel
theorem d_A_bringUpToDate_57 : decode b_A_bringUpToDate 57 = .ok (.putfield 95, 3) := by decide +kernel
theorem d_A_bringUpToDate_60 : decode b_A_bringUpToDate 60 = .ok (.aload_n 0, 1) := by decide +kernel
theorem d_A_bringUpToDate_61 : decode b_A_bringUpToDate 61 = .ok (.getfield 32, 3) := by decide +kernel
theorem d_A_bringUpToDate_64 : decode b_A_bringUpToDate 64 = .ok (.iload 5, 2) := by decide +kernel
theorem d_A_bringUpToDate_66 : decode b_A_bringUpToDate 66 = .ok (.dup2, 1) := by decide +kernel
theorem d_A_bringUpToDate_67 : decode b_A_bringUpToDate 67 = .ok (.iaload, 1) := by decide +kernel
theorem d_A_bringUpToDate_68 : decode b_A_bringUpToDate 68 = .ok (.iconst 1, 1) := by decide +kernel
theorem d_A_bringUpToDate_69 : decode b_A_bringUpToDate 69 = .ok (.iadd, 1) := by decide +kernel
theorem d_A_bringUpToDate_70 : decode b_A_bringUpToDate 70 = .ok (.iastore, 1) := by decide +kernel
theorem d_A_bringUpToDate_71 : decode b_A_bringUpToDate 71 = .ok (.aload_n 0, 1) := by decide +kernel
theorem d_A_bringUpToDate_72 : decode b_A_bringUpToDate 72 = .ok (.aload_n 2, 1) := by decide +kernel
theorem d_A_bringUpToDate_73 : decode b_A_bringUpToDate 73 = .ok (.aload_n 1, 1) := by decide +kernel
theorem d_A_bringUpToDate_74 : decode b_A_bringUpToDate 74 = .ok (.invokevirtual 206, 3) := by decide +kernel
theorem d_A_bringUpToDate_77 : decode b_A_bringUpToDate 77 = .ok (.return_, 1) := by decide +kernel
theorem d_A_readNow_0 : decode b_A_readNow 0 = .ok (.aload_n 1, 1) := by decide +kernel
theorem d_A_readNow_1 : decode b_A_readNow 1 = .ok (.invokevirtual 210, 3) := by decide +kernel
theorem d_A_readNow_4 : decode b_A_readNow 4 = .ok (.astore_n 2, 1) := by decide +kernel
theorem d_A_readNow_5 : decode b_A_readNow 5 = .ok (.iconst 0, 1) := by decide +kernel
theorem d_A_readNow_6 : decode b_A_readNow 6 = .ok (.istore_n 3, 1) := by decide +kernel
theorem d_A_readNow_7 : decode b_A_readNow 7 = .ok (.iload_n 3, 1) := by decide +kernel
theorem d_A_readNow_8 : decode b_A_readNow 8 = .ok (.aload_n 1, 1) := by decide +kernel
theorem d_A_readNow_9 : decode b_A_readNow 9 = .ok (.getfield 130, 3) := by decide +kernel
theorem d_A_readNow_12 : decode b_A_readNow 12 = .ok (.if_icmp .ge 41, 3) := by decide +kernel
theorem d_A_readNow_15 : decode b_A_readNow 15 = .ok (.aload_n 2, 1) := by decide +kernel
theorem d_A_readNow_16 : decode b_A_readNow 16 = .ok (.getfield 214, 3) := by decide +kernel
theorem d_A_readNow_19 : decode b_A_readNow 19 = .ok (.iload_n 3, 1) := by decide +kernel
theorem d_A_readNow_20 : decode b_A_readNow 20 = .ok (.aload_n 0, 1) := by decide +kernel
theorem d_A_readNow_21 : decode b_A_readNow 21 = .ok (.aload_n 1, 1) := by decide +kernel
theorem d_A_readNow_22 : decode b_A_readNow 22 = .ok (.getfield 149, 3) := by decide +kernel
theorem d_A_readNow_25 : decode b_A_readNow 25 = .ok (.iload_n 3, 1) := by decide +kernel
theorem d_A_readNow_26 : decode b_A_readNow 26 = .ok (.iaload, 1) := by decide +kernel
theorem d_A_readNow_27 : decode b_A_readNow 27 = .ok (.invokevirtual 175, 3) := by decide +kernel
theorem d_A_readNow_30 : decode b_A_readNow 30 = .ok (.bastore, 1) := by decide +kernel
theorem d_A_readNow_31 : decode b_A_readNow 31 = .ok (.aload_n 2, 1) := by decide +kernel
theorem d_A_readNow_32 : decode b_A_readNow 32 = .ok (.getfield 133, 3) := by decide +kernel
theorem d_A_readNow_35 : decode b_A_readNow 35 = .ok (.iload_n 3, 1) := by decide +kernel
theorem d_A_readNow_36 : decode b_A_readNow 36 = .ok (.aload_n 0, 1) := by decide +kernel
theorem d_A_readNow_37 : decode b_A_readNow 37 = .ok (.aload_n 1, 1) := by decide +kernel
theorem d_A_readNow_38 : decode b_A_readNow 38 = .ok (.getfield 149, 3) := by decide +kernel
theorem d_A_readNow_41 : decode b_A_readNow 41 = .ok (.iload_n 3, 1) := by decide +kernel
theorem d_A_readNow_42 : decode b_A_readNow 42 = .ok (.iaload, 1) := by decide +kernel
theorem d_A_readNow_43 : decode b_A_readNow 43 = .ok (.invokevirtual 178, 3) := by decide +kernel
theorem d_A_readNow_46 : decode b_A_readNow 46 = .ok (.lastore, 1) := by decide +kernel
theorem d_A_readNow_47 : decode b_A_readNow 47 = .ok (.iinc 3 1, 3) := by decide +kernel
theorem d_A_readNow_50 : decode b_A_readNow 50 = .ok (.goto (-43), 3) := by decide +kernel
theorem d_A_readNow_53 : decode b_A_readNow 53 = .ok (.aload_n 2, 1) := by decide +kernel
theorem d_A_readNow_54 : decode b_A_readNow 54 = .ok (.areturn, 1) := by decide +kernel
theorem d_A_isThereNow_0 : decode b_A_isThereNow 0 = .ok (.iload_n 1, 1) := by decide +kernel
theorem d_A_isThereNow_1 : decode b_A_isThereNow 1 = .ok (.invokestatic 152, 3) := by decide +kernel
theorem d_A_isThereNow_4 : decode b_A_isThereNow 4 = .ok (.ifCond .ne 5, 3) := by decide +kernel
theorem d_A_isThereNow_7 : decode b_A_isThereNow 7 = .ok (.iconst 1, 1) := by decide +kernel
theorem d_A_isThereNow_8 : decode b_A_isThereNow 8 = .ok (.ireturn, 1) := by decide +kernel
theorem d_A_isThereNow_9 : decode b_A_isThereNow 9 = .ok (.aload_n 0, 1) := by decide +kernel
theorem d_A_isThereNow_10 : decode b_A_isThereNow 10 = .ok (.iload_n 1, 1) := by decide +kernel
theorem d_A_isThereNow_11 : decode b_A_isThereNow 11 = .ok (.invokevirtual 41, 3) := by decide +kernel
theorem d_A_isThereNow_14 : decode b_A_isThereNow 14 = .ok (.astore_n 2, 1) := by decide +kernel
theorem d_A_isThereNow_15 : decode b_A_isThereNow 15 = .ok (.aload_n 2, 1) := by decide +kernel
theorem d_A_isThereNow_16 : decode b_A_isThereNow 16 = .ok (.ifnull 14, 3) := by decide +kernel
theorem d_A_isThereNow_19 : decode b_A_isThereNow 19 = .ok (.aload_n 2, 1) := by decide +kernel
theorem d_A_isThereNow_20 : decode b_A_isThereNow 20 = .ok (.getfield 45, 3) := by decide +kernel
theorem d_A_isThereNow_23 : decode b_A_isThereNow 23 = .ok (.ifCond .eq 7, 3) := by decide +kernel
theorem d_A_isThereNow_26 : decode b_A_isThereNow 26 = .ok (.iconst 1, 1) := by decide +kernel
theorem d_A_isThereNow_27 : decode b_A_isThereNow 27 = .ok (.goto 4, 3) := by decide +kernel
theorem d_A_isThereNow_30 : decode b_A_isThereNow 30 = .ok (.iconst 0, 1) := by decide +kernel
theorem d_A_isThereNow_31 : decode b_A_isThereNow 31 = .ok (.ireturn, 1) := by decide +kernel
theorem d_A_valueNow_0 : decode b_A_valueNow 0 = .ok (.iload_n 1, 1) := by decide +kernel
theorem d_A_valueNow_1 : decode b_A_valueNow 1 = .ok (.invokestatic 152, 3) := by decide +kernel
theorem d_A_valueNow_4 : decode b_A_valueNow 4 = .ok (.ifCond .eq 22, 3) := by decide +kernel
theorem d_A_valueNow_7 : decode b_A_valueNow 7 = .ok (.aload_n 0, 1) := by decide +kernel
theorem d_A_valueNow_8 : decode b_A_valueNow 8 = .ok (.iload_n 1, 1) := by decide +kernel
theorem d_A_valueNow_9 : decode b_A_valueNow 9 = .ok (.invokevirtual 41, 3) := by decide +kernel
theorem d_A_valueNow_12 : decode b_A_valueNow 12 = .ok (.astore_n 2, 1) := by decide +kernel
theorem d_A_valueNow_13 : decode b_A_valueNow 13 = .ok (.aload_n 2, 1) := by decide +kernel
theorem d_A_valueNow_14 : decode b_A_valueNow 14 = .ok (.ifnonnull 7, 3) := by decide +kernel
theorem d_A_valueNow_17 : decode b_A_valueNow 17 = .ok (.lconst 0, 1) := by decide +kernel
theorem d_A_valueNow_18 : decode b_A_valueNow 18 = .ok (.goto 7, 3) := by decide +kernel
theorem d_A_valueNow_21 : decode b_A_valueNow 21 = .ok (.aload_n 2, 1) := by decide +kernel
theorem d_A_valueNow_22 : decode b_A_valueNow 22 = .ok (.getfield 49, 3) := by decide +kernel
theorem d_A_valueNow_25 : decode b_A_valueNow 25 = .ok (.lreturn, 1) := by decide +kernel
theorem d_A_valueNow_26 : decode b_A_valueNow 26 = .ok (.aload_n 0, 1) := by decide +kernel
theorem d_A_valueNow_27 : decode b_A_valueNow 27 = .ok (.iload_n 1, 1) := by decide +kernel
theorem d_A_valueNow_28 : decode b_A_valueNow 28 = .ok (.invokevirtual 155, 3) := by decide +kernel
theorem d_A_valueNow_31 : decode b_A_valueNow 31 = .ok (.astore_n 2, 1) := by decide +kernel
theorem d_A_valueNow_32 : decode b_A_valueNow 32 = .ok (.aload_n 2, 1) := by decide +kernel
theorem d_A_valueNow_33 : decode b_A_valueNow 33 = .ok (.ifnonnull 7, 3) := by decide +kernel
theorem d_A_valueNow_36 : decode b_A_valueNow 36 = .ok (.aconst_null, 1) := by decide +kernel
theorem d_A_valueNow_37 : decode b_A_valueNow 37 = .ok (.goto 8, 3) := by decide +kernel
theorem d_A_valueNow_40 : decode b_A_valueNow 40 = .ok (.aload_n 2, 1) := by decide +kernel
theorem d_A_valueNow_41 : decode b_A_valueNow 41 = .ok (.iconst 0, 1) := by decide +kernel
theorem d_A_valueNow_42 : decode b_A_valueNow 42 = .ok (.invokevirtual 108, 3) := by decide +kernel
theorem d_A_valueNow_45 : decode b_A_valueNow 45 = .ok (.astore_n 3, 1) := by decide +kernel
theorem d_A_valueNow_46 : decode b_A_valueNow 46 = .ok (.aload_n 3, 1) := by decide +kernel
theorem d_A_valueNow_47 : decode b_A_valueNow 47 = .ok (.ifnonnull 7, 3) := by decide +kernel
theorem d_A_valueNow_50 : decode b_A_valueNow 50 = .ok (.lconst 0, 1) := by decide +kernel
theorem d_A_valueNow_51 : decode b_A_valueNow 51 = .ok (.goto 11, 3) := by decide +kernel
theorem d_A_valueNow_54 : decode b_A_valueNow 54 = .ok (.aload_n 3, 1) := by decide +kernel
theorem d_A_valueNow_55 : decode b_A_valueNow 55 = .ok (.iload_n 1, 1) := by decide +kernel
theorem d_A_valueNow_56 : decode b_A_valueNow 56 = .ok (.invokestatic 217, 3) := by decide +kernel
theorem d_A_valueNow_59 : decode b_A_valueNow 59 = .ok (.invokevirtual 123, 3) := by decide +kernel
theorem d_A_valueNow_62 : decode b_A_valueNow 62 = .ok (.lreturn, 1) := by decide +kernel
theorem d_A_causeToRedo_0 : decode b_A_causeToRedo 0 = .ok (.aload_n 0, 1) := by decide +kernel
theorem d_A_causeToRedo_1 : decode b_A_causeToRedo 1 = .ok (.iconst 0, 1) := by decide +kernel
theorem d_A_causeToRedo_2 : decode b_A_causeToRedo 2 = .ok (.invokevirtual 108, 3) := by decide +kernel
theorem d_A_causeToRedo_5 : decode b_A_causeToRedo 5 = .ok (.astore_n 2, 1) := by decide +kernel
theorem d_A_causeToRedo_6 : decode b_A_causeToRedo 6 = .ok (.aload_n 2, 1) := by decide +kernel
theorem d_A_causeToRedo_7 : decode b_A_causeToRedo 7 = .ok (.ifnonnull 5, 3) := by decide +kernel
theorem d_A_causeToRedo_10 : decode b_A_causeToRedo 10 = .ok (.iconst 0, 1) := by decide +kernel
theorem d_A_causeToRedo_11 : decode b_A_causeToRedo 11 = .ok (.ireturn, 1) := by decide +kernel
theorem d_A_causeToRedo_12 : decode b_A_causeToRedo 12 = .ok (.aload_n 2, 1) := by decide +kernel
theorem d_A_causeToRedo_13 : decode b_A_causeToRedo 13 = .ok (.aload_n 1, 1) := by decide +kernel
theorem d_A_causeToRedo_14 : decode b_A_causeToRedo 14 = .ok (.aload_n 0, 1) := by decide +kernel
theorem d_A_causeToRedo_15 : decode b_A_causeToRedo 15 = .ok (.getfield 130, 3) := by decide +kernel
theorem d_A_causeToRedo_18 : decode b_A_causeToRedo 18 = .ok (.invokevirtual 220, 3) := by decide +kernel
theorem d_A_causeToRedo_21 : decode b_A_causeToRedo 21 = .ok (.istore_n 3, 1) := by decide +kernel
theorem d_A_causeToRedo_22 : decode b_A_causeToRedo 22 = .ok (.aload_n 0, 1) := by decide +kernel
theorem d_A_causeToRedo_23 : decode b_A_causeToRedo 23 = .ok (.getfield 78, 3) := by decide +kernel
theorem d_A_causeToRedo_26 : decode b_A_causeToRedo 26 = .ok (.ifCond .ne 8, 3) := by decide +kernel
theorem d_A_causeToRedo_29 : decode b_A_causeToRedo 29 = .ok (.iload_n 3, 1) := by decide +kernel
theorem d_A_causeToRedo_30 : decode b_A_causeToRedo 30 = .ok (.iconst (-1), 1) := by decide +kernel
theorem d_A_causeToRedo_31 : decode b_A_causeToRedo 31 = .ok (.if_icmp .ne 5, 3) := by decide +kernel
theorem d_A_causeToRedo_34 : decode b_A_causeToRedo 34 = .ok (.iconst 1, 1) := by decide +kernel
theorem d_A_causeToRedo_35 : decode b_A_causeToRedo 35 = .ok (.ireturn, 1) := by decide +kernel
theorem d_A_causeToRedo_36 : decode b_A_causeToRedo 36 = .ok (.aload_n 0, 1) := by decide +kernel
theorem d_A_causeToRedo_37 : decode b_A_causeToRedo 37 = .ok (.getfield 149, 3) := by decide +kernel
theorem d_A_causeToRedo_40 : decode b_A_causeToRedo 40 = .ok (.iload_n 3, 1) := by decide +kernel
theorem d_A_causeToRedo_41 : decode b_A_causeToRedo 41 = .ok (.iaload, 1) := by decide +kernel
theorem d_A_causeToRedo_42 : decode b_A_causeToRedo 42 = .ok (.invokestatic 152, 3) := by decide +kernel
theorem d_A_causeToRedo_45 : decode b_A_causeToRedo 45 = .ok (.ifCond .eq 7, 3) := by decide +kernel
theorem d_A_causeToRedo_48 : decode b_A_causeToRedo 48 = .ok (.iconst 2, 1) := by decide +kernel
theorem d_A_causeToRedo_49 : decode b_A_causeToRedo 49 = .ok (.goto 4, 3) := by decide +kernel
theorem d_A_causeToRedo_52 : decode b_A_causeToRedo 52 = .ok (.iconst 3, 1) := by decide +kernel
theorem d_A_causeToRedo_53 : decode b_A_causeToRedo 53 = .ok (.ireturn, 1) := by decide +kernel
theorem d_A_compareOutputs_0 : decode b_A_compareOutputs 0 = .ok (.aload_n 2, 1) := by decide +kernel
theorem d_A_compareOutputs_1 : decode b_A_compareOutputs 1 = .ok (.getfield 98, 3) := by decide +kernel
theorem d_A_compareOutputs_4 : decode b_A_compareOutputs 4 = .ok (.iconst 2, 1) := by decide +kernel
theorem d_A_compareOutputs_5 : decode b_A_compareOutputs 5 = .ok (.if_icmp .eq 12, 3) := by decide +kernel
theorem d_A_compareOutputs_8 : decode b_A_compareOutputs 8 = .ok (.aload_n 2, 1) := by decide +kernel
theorem d_A_compareOutputs_9 : decode b_A_compareOutputs 9 = .ok (.getfield 98, 3) := by decide +kernel
theorem d_A_compareOutputs_12 : decode b_A_compareOutputs 12 = .ok (.bipush 6, 2) := by decide +kernel
theorem d_A_compareOutputs_14 : decode b_A_compareOutputs 14 = .ok (.if_icmp .ne 7, 3) := by decide +kernel
theorem d_A_compareOutputs_17 : decode b_A_compareOutputs 17 = .ok (.iconst 1, 1) := by decide +kernel
theorem d_A_compareOutputs_18 : decode b_A_compareOutputs 18 = .ok (.goto 4, 3) := by decide +kernel
theorem d_A_compareOutputs_21 : decode b_A_compareOutputs 21 = .ok (.iconst 0, 1) := by decide +kernel
theorem d_A_compareOutputs_22 : decode b_A_compareOutputs 22 = .ok (.istore_n 3, 1) := by decide +kernel
theorem d_A_compareOutputs_23 : decode b_A_compareOutputs 23 = .ok (.aload_n 2, 1) := by decide +kernel
theorem d_A_compareOutputs_24 : decode b_A_compareOutputs 24 = .ok (.iconst 0, 1) := by decide +kernel
theorem d_A_compareOutputs_25 : decode b_A_compareOutputs 25 = .ok (.invokevirtual 108, 3) := by decide +kernel
theorem d_A_compareOutputs_28 : decode b_A_compareOutputs 28 = .ok (.astore 4, 2) := by decide +kernel
theorem d_A_compareOutputs_30 : decode b_A_compareOutputs 30 = .ok (.iload_n 3, 1) := by decide +kernel
theorem d_A_compareOutputs_31 : decode b_A_compareOutputs 31 = .ok (.ifCond .eq 19, 3) := by decide +kernel
theorem d_A_compareOutputs_34 : decode b_A_compareOutputs 34 = .ok (.aload_n 1, 1) := by decide +kernel
theorem d_A_compareOutputs_35 : decode b_A_compareOutputs 35 = .ok (.ifnull 15, 3) := by decide +kernel
theorem d_A_compareOutputs_38 : decode b_A_compareOutputs 38 = .ok (.aload_n 1, 1) := by decide +kernel
theorem d_A_compareOutputs_39 : decode b_A_compareOutputs 39 = .ok (.invokevirtual 112, 3) := by decide +kernel
theorem d_A_compareOutputs_42 : decode b_A_compareOutputs 42 = .ok (.ifCond .ne 8, 3) := by decide +kernel
theorem d_A_compareOutputs_45 : decode b_A_compareOutputs 45 = .ok (.aload 4, 2) := by decide +kernel
theorem d_A_compareOutputs_47 : decode b_A_compareOutputs 47 = .ok (.ifnonnull 4, 3) := by decide +kernel
theorem d_A_compareOutputs_50 : decode b_A_compareOutputs 50 = .ok (.return_, 1) := by decide +kernel
theorem d_A_compareOutputs_51 : decode b_A_compareOutputs 51 = .ok (.aload 4, 2) := by decide +kernel
theorem d_A_compareOutputs_53 : decode b_A_compareOutputs 53 = .ok (.getfield 224, 3) := by decide +kernel
theorem d_A_compareOutputs_56 : decode b_A_compareOutputs 56 = .ok (.aload_n 1, 1) := by decide +kernel
theorem d_A_compareOutputs_57 : decode b_A_compareOutputs 57 = .ok (.getfield 224, 3) := by decide +kernel
theorem d_A_compareOutputs_60 : decode b_A_compareOutputs 60 = .ok (.lcmp, 1) := by decide +kernel
theorem d_A_compareOutputs_61 : decode b_A_compareOutputs 61 = .ok (.ifCond .ne 34, 3) := by decide +kernel
theorem d_A_compareOutputs_64 : decode b_A_compareOutputs 64 = .ok (.aload_n 0, 1) := by decide +kernel
theorem d_A_compareOutputs_65 : decode b_A_compareOutputs 65 = .ok (.getfield 28, 3) := by decide +kernel
theorem d_A_compareOutputs_68 : decode b_A_compareOutputs 68 = .ok (.iconst 1, 1) := by decide +kernel
theorem d_A_compareOutputs_69 : decode b_A_compareOutputs 69 = .ok (.dup2, 1) := by decide +kernel
theorem d_A_compareOutputs_70 : decode b_A_compareOutputs 70 = .ok (.iaload, 1) := by decide +kernel
theorem d_A_compareOutputs_71 : decode b_A_compareOutputs 71 = .ok (.iconst 1, 1) := by decide +kernel
theorem d_A_compareOutputs_72 : decode b_A_compareOutputs 72 = .ok (.iadd, 1) := by decide +kernel
theorem d_A_compareOutputs_73 : decode b_A_compareOutputs 73 = .ok (.iastore, 1) := by decide +kernel
theorem d_A_compareOutputs_74 : decode b_A_compareOutputs 74 = .ok (.aload_n 2, 1) := by decide +kernel
theorem d_A_compareOutputs_75 : decode b_A_compareOutputs 75 = .ok (.getfield 98, 3) := by decide +kernel
theorem d_A_compareOutputs_78 : decode b_A_compareOutputs 78 = .ok (.iconst 2, 1) := by decide +kernel
theorem d_A_compareOutputs_79 : decode b_A_compareOutputs 79 = .ok (.if_icmp .ne 39, 3) := by decide +kernel
theorem d_A_compareOutputs_82 : decode b_A_compareOutputs 82 = .ok (.aload_n 0, 1) := by decide +kernel
theorem d_A_compareOutputs_83 : decode b_A_compareOutputs 83 = .ok (.dup, 1) := by decide +kernel
theorem d_A_compareOutputs_84 : decode b_A_compareOutputs 84 = .ok (.getfield 35, 3) := by decide +kernel
theorem d_A_compareOutputs_87 : decode b_A_compareOutputs 87 = .ok (.iconst 1, 1) := by decide +kernel
theorem d_A_compareOutputs_88 : decode b_A_compareOutputs 88 = .ok (.iadd, 1) := by decide +kernel
theorem d_A_compareOutputs_89 : decode b_A_compareOutputs 89 = .ok (.putfield 35, 3) := by decide +kernel
theorem d_A_compareOutputs_92 : decode b_A_compareOutputs 92 = .ok (.goto 26, 3) := by decide +kernel
theorem d_A_compareOutputs_95 : decode b_A_compareOutputs 95 = .ok (.aload 4, 2) := by decide +kernel
theorem d_A_compareOutputs_97 : decode b_A_compareOutputs 97 = .ok (.getfield 227, 3) := by decide +kernel
theorem d_A_compareOutputs_100 : decode b_A_compareOutputs 100 = .ok (.aload_n 1, 1) := by decide +kernel
theorem d_A_compareOutputs_101 : decode b_A_compareOutputs 101 = .ok (.getfield 227, 3) := by decide +kernel
theorem d_A_compareOutputs_104 : decode b_A_compareOutputs 104 = .ok (.lcmp, 1) := by decide +kernel
theorem d_A_compareOutputs_105 : decode b_A_compareOutputs 105 = .ok (.ifCond .ne 13, 3) := by decide +kernel
theorem d_A_compareOutputs_108 : decode b_A_compareOutputs 108 = .ok (.aload_n 0, 1) := by decide +kernel
theorem d_A_compareOutputs_109 : decode b_A_compareOutputs 109 = .ok (.getfield 28, 3) := by decide +kernel
theorem d_A_compareOutputs_112 : decode b_A_compareOutputs 112 = .ok (.iconst 2, 1) := by decide +kernel
theorem d_A_compareOutputs_113 : decode b_A_compareOutputs 113 = .ok (.dup2, 1) := by decide +kernel
theorem d_A_compareOutputs_114 : decode b_A_compareOutputs 114 = .ok (.iaload, 1) := by decide +kernel
theorem d_A_compareOutputs_115 : decode b_A_compareOutputs 115 = .ok (.iconst 1, 1) := by decide +kernel
theorem d_A_compareOutputs_116 : decode b_A_compareOutputs 116 = .ok (.iadd, 1) := by decide +kernel
theorem d_A_compareOutputs_117 : decode b_A_compareOutputs 117 = .ok (.iastore, 1) := by decide +kernel
theorem d_A_compareOutputs_118 : decode b_A_compareOutputs 118 = .ok (.return_, 1) := by decide +kernel
