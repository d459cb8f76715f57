theorem dX0_init_0 : decode cX0_init 0 = .ok (.aload_n 0, 1) := by decide +kernel
theorem dX0_init_1 : decode cX0_init 1 = .ok (.invokespecial 3, 3) := by decide +kernel
theorem dX0_init_4 : decode cX0_init 4 = .ok (.aload_n 0, 1) := by decide +kernel
theorem dX0_init_5 : decode cX0_init 5 = .ok (.bipush 6, 2) := by decide +kernel
theorem dX0_init_7 : decode cX0_init 7 = .ok (.newarray .int, 2) := by decide +kernel
theorem dX0_init_9 : decode cX0_init 9 = .ok (.putfield 9, 3) := by decide +kernel
theorem dX0_init_12 : decode cX0_init 12 = .ok (.return_, 1) := by decide +kernel
theorem dX0_forget_0 : decode cX0_forget 0 = .ok (.aload_n 0, 1) := by decide +kernel
theorem dX0_forget_1 : decode cX0_forget 1 = .ok (.iconst 0, 1) := by decide +kernel
theorem dX0_forget_2 : decode cX0_forget 2 = .ok (.putfield 15, 3) := by decide +kernel
theorem dX0_forget_5 : decode cX0_forget 5 = .ok (.aload_n 0, 1) := by decide +kernel
theorem dX0_forget_6 : decode cX0_forget 6 = .ok (.iconst 0, 1) := by decide +kernel
theorem dX0_forget_7 : decode cX0_forget 7 = .ok (.putfield 19, 3) := by decide +kernel
theorem dX0_forget_10 : decode cX0_forget 10 = .ok (.aload_n 0, 1) := by decide +kernel
theorem dX0_forget_11 : decode cX0_forget 11 = .ok (.iconst 0, 1) := by decide +kernel
theorem dX0_forget_12 : decode cX0_forget 12 = .ok (.putfield 22, 3) := by decide +kernel
theorem dX0_forget_15 : decode cX0_forget 15 = .ok (.return_, 1) := by decide +kernel
theorem dX0_read_0 : decode cX0_read 0 = .ok (.iconst 0, 1) := by decide +kernel
theorem dX0_read_1 : decode cX0_read 1 = .ok (.istore_n 3, 1) := by decide +kernel
theorem dX0_read_2 : decode cX0_read 2 = .ok (.iconst 0, 1) := by decide +kernel
theorem dX0_read_3 : decode cX0_read 3 = .ok (.istore 4, 2) := by decide +kernel
theorem dX0_read_5 : decode cX0_read 5 = .ok (.iconst 0, 1) := by decide +kernel
theorem dX0_read_6 : decode cX0_read 6 = .ok (.istore 5, 2) := by decide +kernel
theorem dX0_read_8 : decode cX0_read 8 = .ok (.iload 5, 2) := by decide +kernel
theorem dX0_read_10 : decode cX0_read 10 = .ok (.bipush 6, 2) := by decide +kernel
theorem dX0_read_12 : decode cX0_read 12 = .ok (.if_icmp .gt 93, 3) := by decide +kernel
theorem dX0_read_15 : decode cX0_read 15 = .ok (.aload_n 1, 1) := by decide +kernel
theorem dX0_read_16 : decode cX0_read 16 = .ok (.invokevirtual 25, 3) := by decide +kernel
theorem dX0_read_19 : decode cX0_read 19 = .ok (.ifCond .ne 86, 3) := by decide +kernel
theorem dX0_read_22 : decode cX0_read 22 = .ok (.aload_n 1, 1) := by decide +kernel
theorem dX0_read_23 : decode cX0_read 23 = .ok (.iconst 0, 1) := by decide +kernel
theorem dX0_read_24 : decode cX0_read 24 = .ok (.iload_n 2, 1) := by decide +kernel
theorem dX0_read_25 : decode cX0_read 25 = .ok (.iconst 1, 1) := by decide +kernel
theorem dX0_read_26 : decode cX0_read 26 = .ok (.isub, 1) := by decide +kernel
theorem dX0_read_27 : decode cX0_read 27 = .ok (.invokevirtual 31, 3) := by decide +kernel
theorem dX0_read_30 : decode cX0_read 30 = .ok (.ifCond .ne 5, 3) := by decide +kernel
theorem dX0_read_33 : decode cX0_read 33 = .ok (.iconst 0, 1) := by decide +kernel
theorem dX0_read_34 : decode cX0_read 34 = .ok (.ireturn, 1) := by decide +kernel
theorem dX0_read_35 : decode cX0_read 35 = .ok (.aload_n 1, 1) := by decide +kernel
theorem dX0_read_36 : decode cX0_read 36 = .ok (.getfield 35, 3) := by decide +kernel
theorem dX0_read_39 : decode cX0_read 39 = .ok (.istore 6, 2) := by decide +kernel
theorem dX0_read_41 : decode cX0_read 41 = .ok (.iload_n 3, 1) := by decide +kernel
theorem dX0_read_42 : decode cX0_read 42 = .ok (.iload 6, 2) := by decide +kernel
theorem dX0_read_44 : decode cX0_read 44 = .ok (.invokestatic 38, 3) := by decide +kernel
theorem dX0_read_47 : decode cX0_read 47 = .ok (.ifCond .eq 13, 3) := by decide +kernel
theorem dX0_read_50 : decode cX0_read 50 = .ok (.aload_n 1, 1) := by decide +kernel
theorem dX0_read_51 : decode cX0_read 51 = .ok (.iconst 2, 1) := by decide +kernel
theorem dX0_read_52 : decode cX0_read 52 = .ok (.aload_n 1, 1) := by decide +kernel
theorem dX0_read_53 : decode cX0_read 53 = .ok (.getfield 41, 3) := by decide +kernel
theorem dX0_read_56 : decode cX0_read 56 = .ok (.invokevirtual 44, 3) := by decide +kernel
theorem dX0_read_59 : decode cX0_read 59 = .ok (.ireturn, 1) := by decide +kernel
theorem dX0_read_60 : decode cX0_read 60 = .ok (.aload_n 1, 1) := by decide +kernel
theorem dX0_read_61 : decode cX0_read 61 = .ok (.iconst 0, 1) := by decide +kernel
theorem dX0_read_62 : decode cX0_read 62 = .ok (.iconst 1, 1) := by decide +kernel
theorem dX0_read_63 : decode cX0_read 63 = .ok (.invokevirtual 31, 3) := by decide +kernel
theorem dX0_read_66 : decode cX0_read 66 = .ok (.ifCond .eq 12, 3) := by decide +kernel
theorem dX0_read_69 : decode cX0_read 69 = .ok (.aload_n 1, 1) := by decide +kernel
theorem dX0_read_70 : decode cX0_read 70 = .ok (.bipush 59, 2) := by decide +kernel
theorem dX0_read_72 : decode cX0_read 72 = .ok (.invokevirtual 47, 3) := by decide +kernel
theorem dX0_read_75 : decode cX0_read 75 = .ok (.ifCond .ne 5, 3) := by decide +kernel
theorem dX0_read_78 : decode cX0_read 78 = .ok (.iconst 0, 1) := by decide +kernel
theorem dX0_read_79 : decode cX0_read 79 = .ok (.ireturn, 1) := by decide +kernel
theorem dX0_read_80 : decode cX0_read 80 = .ok (.iload_n 3, 1) := by decide +kernel
theorem dX0_read_81 : decode cX0_read 81 = .ok (.iconst 1, 1) := by decide +kernel
theorem dX0_read_82 : decode cX0_read 82 = .ok (.iload 6, 2) := by decide +kernel
theorem dX0_read_84 : decode cX0_read 84 = .ok (.ishl, 1) := by decide +kernel
theorem dX0_read_85 : decode cX0_read 85 = .ok (.ior, 1) := by decide +kernel
theorem dX0_read_86 : decode cX0_read 86 = .ok (.istore_n 3, 1) := by decide +kernel
theorem dX0_read_87 : decode cX0_read 87 = .ok (.iload 4, 2) := by decide +kernel
theorem dX0_read_89 : decode cX0_read 89 = .ok (.aload_n 1, 1) := by decide +kernel
theorem dX0_read_90 : decode cX0_read 90 = .ok (.getfield 35, 3) := by decide +kernel
theorem dX0_read_93 : decode cX0_read 93 = .ok (.iload 6, 2) := by decide +kernel
theorem dX0_read_95 : decode cX0_read 95 = .ok (.ishl, 1) := by decide +kernel
theorem dX0_read_96 : decode cX0_read 96 = .ok (.ior, 1) := by decide +kernel
theorem dX0_read_97 : decode cX0_read 97 = .ok (.istore 4, 2) := by decide +kernel
theorem dX0_read_99 : decode cX0_read 99 = .ok (.iinc 5 1, 3) := by decide +kernel
theorem dX0_read_102 : decode cX0_read 102 = .ok (.goto (-94), 3) := by decide +kernel
theorem dX0_read_105 : decode cX0_read 105 = .ok (.aload_n 0, 1) := by decide +kernel
theorem dX0_read_106 : decode cX0_read 106 = .ok (.iload_n 3, 1) := by decide +kernel
theorem dX0_read_107 : decode cX0_read 107 = .ok (.invokestatic 51, 3) := by decide +kernel
theorem dX0_read_110 : decode cX0_read 110 = .ok (.putfield 15, 3) := by decide +kernel
theorem dX0_read_113 : decode cX0_read 113 = .ok (.aload_n 0, 1) := by decide +kernel
theorem dX0_read_114 : decode cX0_read 114 = .ok (.iload_n 3, 1) := by decide +kernel
theorem dX0_read_115 : decode cX0_read 115 = .ok (.putfield 19, 3) := by decide +kernel
theorem dX0_read_118 : decode cX0_read 118 = .ok (.aload_n 0, 1) := by decide +kernel
theorem dX0_read_119 : decode cX0_read 119 = .ok (.iload 4, 2) := by decide +kernel
theorem dX0_read_121 : decode cX0_read 121 = .ok (.putfield 22, 3) := by decide +kernel
theorem dX0_read_124 : decode cX0_read 124 = .ok (.iconst 1, 1) := by decide +kernel
theorem dX0_read_125 : decode cX0_read 125 = .ok (.ireturn, 1) := by decide +kernel
theorem dX0_sift_0 : decode cX0_sift 0 = .ok (.aload_n 2, 1) := by decide +kernel
theorem dX0_sift_1 : decode cX0_sift 1 = .ok (.aload_n 1, 1) := by decide +kernel
theorem dX0_sift_2 : decode cX0_sift 2 = .ok (.invokevirtual 57, 3) := by decide +kernel
theorem dX0_sift_5 : decode cX0_sift 5 = .ok (.aload_n 0, 1) := by decide +kernel
theorem dX0_sift_6 : decode cX0_sift 6 = .ok (.iconst 0, 1) := by decide +kernel
theorem dX0_sift_7 : decode cX0_sift 7 = .ok (.putfield 63, 3) := by decide +kernel
theorem dX0_sift_10 : decode cX0_sift 10 = .ok (.aload_n 0, 1) := by decide +kernel
theorem dX0_sift_11 : decode cX0_sift 11 = .ok (.iconst (-1), 1) := by decide +kernel
theorem dX0_sift_12 : decode cX0_sift 12 = .ok (.putfield 66, 3) := by decide +kernel
theorem dX0_sift_15 : decode cX0_sift 15 = .ok (.iconst 0, 1) := by decide +kernel
theorem dX0_sift_16 : decode cX0_sift 16 = .ok (.istore_n 3, 1) := by decide +kernel
theorem dX0_sift_17 : decode cX0_sift 17 = .ok (.iload_n 3, 1) := by decide +kernel
theorem dX0_sift_18 : decode cX0_sift 18 = .ok (.bipush 6, 2) := by decide +kernel
theorem dX0_sift_20 : decode cX0_sift 20 = .ok (.if_icmp .ge 16, 3) := by decide +kernel
theorem dX0_sift_23 : decode cX0_sift 23 = .ok (.aload_n 0, 1) := by decide +kernel
theorem dX0_sift_24 : decode cX0_sift 24 = .ok (.getfield 9, 3) := by decide +kernel
theorem dX0_sift_27 : decode cX0_sift 27 = .ok (.iload_n 3, 1) := by decide +kernel
theorem dX0_sift_28 : decode cX0_sift 28 = .ok (.iconst 0, 1) := by decide +kernel
theorem dX0_sift_29 : decode cX0_sift 29 = .ok (.iastore, 1) := by decide +kernel
theorem dX0_sift_30 : decode cX0_sift 30 = .ok (.iinc 3 1, 3) := by decide +kernel
theorem dX0_sift_33 : decode cX0_sift 33 = .ok (.goto (-16), 3) := by decide +kernel
theorem dX0_sift_36 : decode cX0_sift 36 = .ok (.iconst 0, 1) := by decide +kernel
theorem dX0_sift_37 : decode cX0_sift 37 = .ok (.istore_n 3, 1) := by decide +kernel
theorem dX0_sift_38 : decode cX0_sift 38 = .ok (.iload_n 3, 1) := by decide +kernel
theorem dX0_sift_39 : decode cX0_sift 39 = .ok (.aload_n 2, 1) := by decide +kernel
theorem dX0_sift_40 : decode cX0_sift 40 = .ok (.invokevirtual 69, 3) := by decide +kernel
theorem dX0_sift_43 : decode cX0_sift 43 = .ok (.if_icmp .ge 84, 3) := by decide +kernel
theorem dX0_sift_46 : decode cX0_sift 46 = .ok (.aload_n 2, 1) := by decide +kernel
theorem dX0_sift_47 : decode cX0_sift 47 = .ok (.aload_n 1, 1) := by decide +kernel
theorem dX0_sift_48 : decode cX0_sift 48 = .ok (.iload_n 3, 1) := by decide +kernel
theorem dX0_sift_49 : decode cX0_sift 49 = .ok (.aload_n 1, 1) := by decide +kernel
theorem dX0_sift_50 : decode cX0_sift 50 = .ok (.invokevirtual 73, 3) := by decide +kernel
theorem dX0_sift_53 : decode cX0_sift 53 = .ok (.invokevirtual 78, 3) := by decide +kernel
theorem dX0_sift_56 : decode cX0_sift 56 = .ok (.istore 4, 2) := by decide +kernel
theorem dX0_sift_58 : decode cX0_sift 58 = .ok (.iload 4, 2) := by decide +kernel
theorem dX0_sift_60 : decode cX0_sift 60 = .ok (.iconst (-1), 1) := by decide +kernel
theorem dX0_sift_61 : decode cX0_sift 61 = .ok (.if_icmp .ne 7, 3) := by decide +kernel
theorem dX0_sift_64 : decode cX0_sift 64 = .ok (.iconst 0, 1) := by decide +kernel
theorem dX0_sift_65 : decode cX0_sift 65 = .ok (.goto 5, 3) := by decide +kernel
theorem dX0_sift_68 : decode cX0_sift 68 = .ok (.iload 4, 2) := by decide +kernel
theorem dX0_sift_70 : decode cX0_sift 70 = .ok (.istore 5, 2) := by decide +kernel
theorem dX0_sift_72 : decode cX0_sift 72 = .ok (.iload 5, 2) := by decide +kernel
theorem dX0_sift_74 : decode cX0_sift 74 = .ok (.aload_n 0, 1) := by decide +kernel
theorem dX0_sift_75 : decode cX0_sift 75 = .ok (.getfield 19, 3) := by decide +kernel
theorem dX0_sift_78 : decode cX0_sift 78 = .ok (.iand, 1) := by decide +kernel
theorem dX0_sift_79 : decode cX0_sift 79 = .ok (.aload_n 0, 1) := by decide +kernel
theorem dX0_sift_80 : decode cX0_sift 80 = .ok (.getfield 22, 3) := by decide +kernel
theorem dX0_sift_83 : decode cX0_sift 83 = .ok (.if_icmp .ne 38, 3) := by decide +kernel
theorem dX0_sift_86 : decode cX0_sift 86 = .ok (.aload_n 0, 1) := by decide +kernel
theorem dX0_sift_87 : decode cX0_sift 87 = .ok (.aload_n 0, 1) := by decide +kernel
theorem dX0_sift_88 : decode cX0_sift 88 = .ok (.getfield 63, 3) := by decide +kernel
theorem dX0_sift_91 : decode cX0_sift 91 = .ok (.ifCond .ne 7, 3) := by decide +kernel
theorem dX0_sift_94 : decode cX0_sift 94 = .ok (.iload_n 3, 1) := by decide +kernel
theorem dX0_sift_95 : decode cX0_sift 95 = .ok (.goto 7, 3) := by decide +kernel
theorem dX0_sift_98 : decode cX0_sift 98 = .ok (.aload_n 0, 1) := by decide +kernel
theorem dX0_sift_99 : decode cX0_sift 99 = .ok (.getfield 66, 3) := by decide +kernel
theorem dX0_sift_102 : decode cX0_sift 102 = .ok (.putfield 66, 3) := by decide +kernel
theorem dX0_sift_105 : decode cX0_sift 105 = .ok (.aload_n 0, 1) := by decide +kernel
theorem dX0_sift_106 : decode cX0_sift 106 = .ok (.dup, 1) := by decide +kernel
theorem dX0_sift_107 : decode cX0_sift 107 = .ok (.getfield 63, 3) := by decide +kernel
theorem dX0_sift_110 : decode cX0_sift 110 = .ok (.iconst 1, 1) := by decide +kernel
theorem dX0_sift_111 : decode cX0_sift 111 = .ok (.iadd, 1) := by decide +kernel
theorem dX0_sift_112 : decode cX0_sift 112 = .ok (.putfield 63, 3) := by decide +kernel
theorem dX0_sift_115 : decode cX0_sift 115 = .ok (.aload_n 0, 1) := by decide +kernel
theorem dX0_sift_116 : decode cX0_sift 116 = .ok (.iload 5, 2) := by decide +kernel
theorem dX0_sift_118 : decode cX0_sift 118 = .ok (.invokevirtual 82, 3) := by decide +kernel
theorem dX0_sift_121 : decode cX0_sift 121 = .ok (.iinc 3 1, 3) := by decide +kernel
theorem dX0_sift_124 : decode cX0_sift 124 = .ok (.goto (-86), 3) := by decide +kernel
theorem dX0_sift_127 : decode cX0_sift 127 = .ok (.return_, 1) := by decide +kernel
theorem dX0_addWith_0 : decode cX0_addWith 0 = .ok (.iconst 0, 1) := by decide +kernel
theorem dX0_addWith_1 : decode cX0_addWith 1 = .ok (.istore_n 2, 1) := by decide +kernel
theorem dX0_addWith_2 : decode cX0_addWith 2 = .ok (.iload_n 2, 1) := by decide +kernel
theorem dX0_addWith_3 : decode cX0_addWith 3 = .ok (.bipush 6, 2) := by decide +kernel
theorem dX0_addWith_5 : decode cX0_addWith 5 = .ok (.if_icmp .ge 31, 3) := by decide +kernel
theorem dX0_addWith_8 : decode cX0_addWith 8 = .ok (.aload_n 0, 1) := by decide +kernel
theorem dX0_addWith_9 : decode cX0_addWith 9 = .ok (.getfield 9, 3) := by decide +kernel
theorem dX0_addWith_12 : decode cX0_addWith 12 = .ok (.iload_n 2, 1) := by decide +kernel
theorem dX0_addWith_13 : decode cX0_addWith 13 = .ok (.dup2, 1) := by decide +kernel
theorem dX0_addWith_14 : decode cX0_addWith 14 = .ok (.iaload, 1) := by decide +kernel
theorem dX0_addWith_15 : decode cX0_addWith 15 = .ok (.iload_n 1, 1) := by decide +kernel
theorem dX0_addWith_16 : decode cX0_addWith 16 = .ok (.iload_n 2, 1) := by decide +kernel
theorem dX0_addWith_17 : decode cX0_addWith 17 = .ok (.invokestatic 38, 3) := by decide +kernel
theorem dX0_addWith_20 : decode cX0_addWith 20 = .ok (.ifCond .eq 7, 3) := by decide +kernel
theorem dX0_addWith_23 : decode cX0_addWith 23 = .ok (.iconst 1, 1) := by decide +kernel
theorem dX0_addWith_24 : decode cX0_addWith 24 = .ok (.goto 4, 3) := by decide +kernel
theorem dX0_addWith_27 : decode cX0_addWith 27 = .ok (.iconst 0, 1) := by decide +kernel
theorem dX0_addWith_28 : decode cX0_addWith 28 = .ok (.iadd, 1) := by decide +kernel
theorem dX0_addWith_29 : decode cX0_addWith 29 = .ok (.iastore, 1) := by decide +kernel
theorem dX0_addWith_30 : decode cX0_addWith 30 = .ok (.iinc 2 1, 3) := by decide +kernel
theorem dX0_addWith_33 : decode cX0_addWith 33 = .ok (.goto (-31), 3) := by decide +kernel
theorem dX0_addWith_36 : decode cX0_addWith 36 = .ok (.return_, 1) := by decide +kernel
theorem dX0_leftAtWorst_0 : decode cX0_leftAtWorst 0 = .ok (.iload_n 1, 1) := by decide +kernel
theorem dX0_leftAtWorst_1 : decode cX0_leftAtWorst 1 = .ok (.ifCond .lt 9, 3) := by decide +kernel
theorem dX0_leftAtWorst_4 : decode cX0_leftAtWorst 4 = .ok (.iload_n 1, 1) := by decide +kernel
theorem dX0_leftAtWorst_5 : decode cX0_leftAtWorst 5 = .ok (.bipush 6, 2) := by decide +kernel
theorem dX0_leftAtWorst_7 : decode cX0_leftAtWorst 7 = .ok (.if_icmp .lt 5, 3) := by decide +kernel
theorem dX0_leftAtWorst_10 : decode cX0_leftAtWorst 10 = .ok (.iconst (-1), 1) := by decide +kernel
theorem dX0_leftAtWorst_11 : decode cX0_leftAtWorst 11 = .ok (.ireturn, 1) := by decide +kernel
theorem dX0_leftAtWorst_12 : decode cX0_leftAtWorst 12 = .ok (.aload_n 0, 1) := by decide +kernel
theorem dX0_leftAtWorst_13 : decode cX0_leftAtWorst 13 = .ok (.getfield 9, 3) := by decide +kernel
theorem dX0_leftAtWorst_16 : decode cX0_leftAtWorst 16 = .ok (.iload_n 1, 1) := by decide +kernel
theorem dX0_leftAtWorst_17 : decode cX0_leftAtWorst 17 = .ok (.iaload, 1) := by decide +kernel
theorem dX0_leftAtWorst_18 : decode cX0_leftAtWorst 18 = .ok (.aload_n 0, 1) := by decide +kernel
theorem dX0_leftAtWorst_19 : decode cX0_leftAtWorst 19 = .ok (.getfield 63, 3) := by decide +kernel
theorem dX0_leftAtWorst_22 : decode cX0_leftAtWorst 22 = .ok (.aload_n 0, 1) := by decide +kernel
theorem dX0_leftAtWorst_23 : decode cX0_leftAtWorst 23 = .ok (.getfield 9, 3) := by decide +kernel
theorem dX0_leftAtWorst_26 : decode cX0_leftAtWorst 26 = .ok (.iload_n 1, 1) := by decide +kernel
theorem dX0_leftAtWorst_27 : decode cX0_leftAtWorst 27 = .ok (.iaload, 1) := by decide +kernel
theorem dX0_leftAtWorst_28 : decode cX0_leftAtWorst 28 = .ok (.isub, 1) := by decide +kernel
theorem dX0_leftAtWorst_29 : decode cX0_leftAtWorst 29 = .ok (.invokestatic 86, 3) := by decide +kernel
theorem dX0_leftAtWorst_32 : decode cX0_leftAtWorst 32 = .ok (.ireturn, 1) := by decide +kernel
theorem dX0_bestToAsk_0 : decode cX0_bestToAsk 0 = .ok (.iconst (-1), 1) := by decide +kernel
theorem dX0_bestToAsk_1 : decode cX0_bestToAsk 1 = .ok (.istore_n 2, 1) := by decide +kernel
theorem dX0_bestToAsk_2 : decode cX0_bestToAsk 2 = .ok (.iconst 0, 1) := by decide +kernel
theorem dX0_bestToAsk_3 : decode cX0_bestToAsk 3 = .ok (.istore_n 3, 1) := by decide +kernel
theorem dX0_bestToAsk_4 : decode cX0_bestToAsk 4 = .ok (.iload_n 3, 1) := by decide +kernel
theorem dX0_bestToAsk_5 : decode cX0_bestToAsk 5 = .ok (.iload_n 1, 1) := by decide +kernel
theorem dX0_bestToAsk_6 : decode cX0_bestToAsk 6 = .ok (.if_icmp .ge 46, 3) := by decide +kernel
theorem dX0_bestToAsk_9 : decode cX0_bestToAsk 9 = .ok (.iload_n 3, 1) := by decide +kernel
theorem dX0_bestToAsk_10 : decode cX0_bestToAsk 10 = .ok (.bipush 6, 2) := by decide +kernel
theorem dX0_bestToAsk_12 : decode cX0_bestToAsk 12 = .ok (.if_icmp .ge 40, 3) := by decide +kernel
theorem dX0_bestToAsk_15 : decode cX0_bestToAsk 15 = .ok (.aload_n 0, 1) := by decide +kernel
theorem dX0_bestToAsk_16 : decode cX0_bestToAsk 16 = .ok (.getfield 19, 3) := by decide +kernel
theorem dX0_bestToAsk_19 : decode cX0_bestToAsk 19 = .ok (.iload_n 3, 1) := by decide +kernel
theorem dX0_bestToAsk_20 : decode cX0_bestToAsk 20 = .ok (.invokestatic 38, 3) := by decide +kernel
theorem dX0_bestToAsk_23 : decode cX0_bestToAsk 23 = .ok (.ifCond .ne 23, 3) := by decide +kernel
theorem dX0_bestToAsk_26 : decode cX0_bestToAsk 26 = .ok (.iload_n 2, 1) := by decide +kernel
theorem dX0_bestToAsk_27 : decode cX0_bestToAsk 27 = .ok (.iconst (-1), 1) := by decide +kernel
theorem dX0_bestToAsk_28 : decode cX0_bestToAsk 28 = .ok (.if_icmp .eq 16, 3) := by decide +kernel
theorem dX0_bestToAsk_31 : decode cX0_bestToAsk 31 = .ok (.aload_n 0, 1) := by decide +kernel
theorem dX0_bestToAsk_32 : decode cX0_bestToAsk 32 = .ok (.iload_n 3, 1) := by decide +kernel
theorem dX0_bestToAsk_33 : decode cX0_bestToAsk 33 = .ok (.invokevirtual 92, 3) := by decide +kernel
theorem dX0_bestToAsk_36 : decode cX0_bestToAsk 36 = .ok (.aload_n 0, 1) := by decide +kernel
theorem dX0_bestToAsk_37 : decode cX0_bestToAsk 37 = .ok (.iload_n 2, 1) := by decide +kernel
theorem dX0_bestToAsk_38 : decode cX0_bestToAsk 38 = .ok (.invokevirtual 92, 3) := by decide +kernel
theorem dX0_bestToAsk_41 : decode cX0_bestToAsk 41 = .ok (.if_icmp .ge 5, 3) := by decide +kernel
theorem dX0_bestToAsk_44 : decode cX0_bestToAsk 44 = .ok (.iload_n 3, 1) := by decide +kernel
theorem dX0_bestToAsk_45 : decode cX0_bestToAsk 45 = .ok (.istore_n 2, 1) := by decide +kernel
theorem dX0_bestToAsk_46 : decode cX0_bestToAsk 46 = .ok (.iinc 3 1, 3) := by decide +kernel
theorem dX0_bestToAsk_49 : decode cX0_bestToAsk 49 = .ok (.goto (-45), 3) := by decide +kernel
theorem dX0_bestToAsk_52 : decode cX0_bestToAsk 52 = .ok (.iload_n 2, 1) := by decide +kernel
theorem dX0_bestToAsk_53 : decode cX0_bestToAsk 53 = .ok (.ireturn, 1) := by decide +kernel
theorem dX1_init_0 : decode cX1_init 0 = .ok (.aload_n 0, 1) := by decide +kernel
theorem dX1_init_1 : decode cX1_init 1 = .ok (.invokespecial 3, 3) := by decide +kernel
theorem dX1_init_4 : decode cX1_init 4 = .ok (.aload_n 0, 1) := by decide +kernel
theorem dX1_init_5 : decode cX1_init 5 = .ok (.bipush 30, 2) := by decide +kernel
theorem dX1_init_7 : decode cX1_init 7 = .ok (.putfield 9, 3) := by decide +kernel
theorem dX1_init_10 : decode cX1_init 10 = .ok (.return_, 1) := by decide +kernel
theorem dX1_read_0 : decode cX1_read 0 = .ok (.iconst 0, 1) := by decide +kernel
theorem dX1_read_1 : decode cX1_read 1 = .ok (.istore_n 2, 1) := by decide +kernel
theorem dX1_read_2 : decode cX1_read 2 = .ok (.iconst 0, 1) := by decide +kernel
theorem dX1_read_3 : decode cX1_read 3 = .ok (.istore_n 3, 1) := by decide +kernel
theorem dX1_read_4 : decode cX1_read 4 = .ok (.bipush 30, 2) := by decide +kernel
theorem dX1_read_6 : decode cX1_read 6 = .ok (.istore 4, 2) := by decide +kernel
theorem dX1_read_8 : decode cX1_read 8 = .ok (.iconst 0, 1) := by decide +kernel
theorem dX1_read_9 : decode cX1_read 9 = .ok (.istore 5, 2) := by decide +kernel
theorem dX1_read_11 : decode cX1_read 11 = .ok (.iload 5, 2) := by decide +kernel
theorem dX1_read_13 : decode cX1_read 13 = .ok (.bipush 60, 2) := by decide +kernel
theorem dX1_read_15 : decode cX1_read 15 = .ok (.if_icmp .gt 122, 3) := by decide +kernel
theorem dX1_read_18 : decode cX1_read 18 = .ok (.aload_n 1, 1) := by decide +kernel
theorem dX1_read_19 : decode cX1_read 19 = .ok (.invokevirtual 15, 3) := by decide +kernel
theorem dX1_read_22 : decode cX1_read 22 = .ok (.ifCond .ne 115, 3) := by decide +kernel
theorem dX1_read_25 : decode cX1_read 25 = .ok (.aload_n 1, 1) := by decide +kernel
theorem dX1_read_26 : decode cX1_read 26 = .ok (.invokevirtual 21, 3) := by decide +kernel
theorem dX1_read_29 : decode cX1_read 29 = .ok (.ifCond .ne 5, 3) := by decide +kernel
theorem dX1_read_32 : decode cX1_read 32 = .ok (.iconst 0, 1) := by decide +kernel
theorem dX1_read_33 : decode cX1_read 33 = .ok (.ireturn, 1) := by decide +kernel
theorem dX1_read_34 : decode cX1_read 34 = .ok (.aload_n 1, 1) := by decide +kernel
theorem dX1_read_35 : decode cX1_read 35 = .ok (.ldc 24, 2) := by decide +kernel
theorem dX1_read_37 : decode cX1_read 37 = .ok (.invokevirtual 26, 3) := by decide +kernel
theorem dX1_read_40 : decode cX1_read 40 = .ok (.istore 6, 2) := by decide +kernel
theorem dX1_read_42 : decode cX1_read 42 = .ok (.iload 6, 2) := by decide +kernel
theorem dX1_read_44 : decode cX1_read 44 = .ok (.ifCond .ne 22, 3) := by decide +kernel
theorem dX1_read_47 : decode cX1_read 47 = .ok (.aload_n 1, 1) := by decide +kernel
theorem dX1_read_48 : decode cX1_read 48 = .ok (.ldc 30, 2) := by decide +kernel
theorem dX1_read_50 : decode cX1_read 50 = .ok (.invokevirtual 26, 3) := by decide +kernel
theorem dX1_read_53 : decode cX1_read 53 = .ok (.ifCond .ne 13, 3) := by decide +kernel
theorem dX1_read_56 : decode cX1_read 56 = .ok (.aload_n 1, 1) := by decide +kernel
theorem dX1_read_57 : decode cX1_read 57 = .ok (.iconst 1, 1) := by decide +kernel
theorem dX1_read_58 : decode cX1_read 58 = .ok (.aload_n 1, 1) := by decide +kernel
theorem dX1_read_59 : decode cX1_read 59 = .ok (.getfield 31, 3) := by decide +kernel
theorem dX1_read_62 : decode cX1_read 62 = .ok (.invokevirtual 34, 3) := by decide +kernel
theorem dX1_read_65 : decode cX1_read 65 = .ok (.ireturn, 1) := by decide +kernel
theorem dX1_read_66 : decode cX1_read 66 = .ok (.iload 5, 2) := by decide +kernel
theorem dX1_read_68 : decode cX1_read 68 = .ok (.bipush 60, 2) := by decide +kernel
theorem dX1_read_70 : decode cX1_read 70 = .ok (.if_icmp .eq 14, 3) := by decide +kernel
theorem dX1_read_73 : decode cX1_read 73 = .ok (.iload 6, 2) := by decide +kernel
theorem dX1_read_75 : decode cX1_read 75 = .ok (.ifCond .eq 19, 3) := by decide +kernel
theorem dX1_read_78 : decode cX1_read 78 = .ok (.iload_n 2, 1) := by decide +kernel
theorem dX1_read_79 : decode cX1_read 79 = .ok (.bipush 6, 2) := by decide +kernel
theorem dX1_read_81 : decode cX1_read 81 = .ok (.if_icmp .ne 13, 3) := by decide +kernel
theorem dX1_read_84 : decode cX1_read 84 = .ok (.aload_n 1, 1) := by decide +kernel
theorem dX1_read_85 : decode cX1_read 85 = .ok (.iconst 3, 1) := by decide +kernel
theorem dX1_read_86 : decode cX1_read 86 = .ok (.aload_n 1, 1) := by decide +kernel
theorem dX1_read_87 : decode cX1_read 87 = .ok (.getfield 31, 3) := by decide +kernel
theorem dX1_read_90 : decode cX1_read 90 = .ok (.invokevirtual 34, 3) := by decide +kernel
theorem dX1_read_93 : decode cX1_read 93 = .ok (.ireturn, 1) := by decide +kernel
theorem dX1_read_94 : decode cX1_read 94 = .ok (.aload_n 1, 1) := by decide +kernel
theorem dX1_read_95 : decode cX1_read 95 = .ok (.iload 6, 2) := by decide +kernel
theorem dX1_read_97 : decode cX1_read 97 = .ok (.invokestatic 38, 3) := by decide +kernel
theorem dX1_read_100 : decode cX1_read 100 = .ok (.ifCond .ne 5, 3) := by decide +kernel
theorem dX1_read_103 : decode cX1_read 103 = .ok (.iconst 0, 1) := by decide +kernel
theorem dX1_read_104 : decode cX1_read 104 = .ok (.ireturn, 1) := by decide +kernel
theorem dX1_read_105 : decode cX1_read 105 = .ok (.iload 6, 2) := by decide +kernel
theorem dX1_read_107 : decode cX1_read 107 = .ok (.ifCond .eq 18, 3) := by decide +kernel
theorem dX1_read_110 : decode cX1_read 110 = .ok (.iload_n 3, 1) := by decide +kernel
theorem dX1_read_111 : decode cX1_read 111 = .ok (.aload_n 1, 1) := by decide +kernel
theorem dX1_read_112 : decode cX1_read 112 = .ok (.getfield 42, 3) := by decide +kernel
theorem dX1_read_115 : decode cX1_read 115 = .ok (.iload_n 2, 1) := by decide +kernel
theorem dX1_read_116 : decode cX1_read 116 = .ok (.ishl, 1) := by decide +kernel
theorem dX1_read_117 : decode cX1_read 117 = .ok (.ior, 1) := by decide +kernel
theorem dX1_read_118 : decode cX1_read 118 = .ok (.istore_n 3, 1) := by decide +kernel
theorem dX1_read_119 : decode cX1_read 119 = .ok (.iinc 2 1, 3) := by decide +kernel
theorem dX1_read_122 : decode cX1_read 122 = .ok (.goto 9, 3) := by decide +kernel
theorem dX1_read_125 : decode cX1_read 125 = .ok (.aload_n 1, 1) := by decide +kernel
theorem dX1_read_126 : decode cX1_read 126 = .ok (.getfield 42, 3) := by decide +kernel
theorem dX1_read_129 : decode cX1_read 129 = .ok (.istore 4, 2) := by decide +kernel
theorem dX1_read_131 : decode cX1_read 131 = .ok (.iinc 5 1, 3) := by decide +kernel
theorem dX1_read_134 : decode cX1_read 134 = .ok (.goto (-123), 3) := by decide +kernel
theorem dX1_read_137 : decode cX1_read 137 = .ok (.aload_n 0, 1) := by decide +kernel
theorem dX1_read_138 : decode cX1_read 138 = .ok (.iload_n 2, 1) := by decide +kernel
theorem dX1_read_139 : decode cX1_read 139 = .ok (.putfield 45, 3) := by decide +kernel
theorem dX1_read_142 : decode cX1_read 142 = .ok (.aload_n 0, 1) := by decide +kernel
theorem dX1_read_143 : decode cX1_read 143 = .ok (.iload_n 3, 1) := by decide +kernel
theorem dX1_read_144 : decode cX1_read 144 = .ok (.putfield 48, 3) := by decide +kernel
theorem dX1_read_147 : decode cX1_read 147 = .ok (.aload_n 0, 1) := by decide +kernel
theorem dX1_read_148 : decode cX1_read 148 = .ok (.iload 4, 2) := by decide +kernel
theorem dX1_read_150 : decode cX1_read 150 = .ok (.putfield 9, 3) := by decide +kernel
theorem dX1_read_153 : decode cX1_read 153 = .ok (.iconst 1, 1) := by decide +kernel
theorem dX1_read_154 : decode cX1_read 154 = .ok (.ireturn, 1) := by decide +kernel
theorem dX1_readNumber_0 : decode cX1_readNumber 0 = .ok (.iload_n 1, 1) := by decide +kernel
theorem dX1_readNumber_1 : decode cX1_readNumber 1 = .ok (.ifCond .eq 12, 3) := by decide +kernel
theorem dX1_readNumber_4 : decode cX1_readNumber 4 = .ok (.aload_n 0, 1) := by decide +kernel
theorem dX1_readNumber_5 : decode cX1_readNumber 5 = .ok (.iconst 0, 1) := by decide +kernel
theorem dX1_readNumber_6 : decode cX1_readNumber 6 = .ok (.iconst 1, 1) := by decide +kernel
theorem dX1_readNumber_7 : decode cX1_readNumber 7 = .ok (.invokevirtual 51, 3) := by decide +kernel
theorem dX1_readNumber_10 : decode cX1_readNumber 10 = .ok (.goto 10, 3) := by decide +kernel
theorem dX1_readNumber_13 : decode cX1_readNumber 13 = .ok (.aload_n 0, 1) := by decide +kernel
theorem dX1_readNumber_14 : decode cX1_readNumber 14 = .ok (.iconst 1, 1) := by decide +kernel
theorem dX1_readNumber_15 : decode cX1_readNumber 15 = .ok (.bipush 30, 2) := by decide +kernel
theorem dX1_readNumber_17 : decode cX1_readNumber 17 = .ok (.invokevirtual 51, 3) := by decide +kernel
theorem dX1_readNumber_20 : decode cX1_readNumber 20 = .ok (.istore_n 2, 1) := by decide +kernel
theorem dX1_readNumber_21 : decode cX1_readNumber 21 = .ok (.iload_n 2, 1) := by decide +kernel
theorem dX1_readNumber_22 : decode cX1_readNumber 22 = .ok (.ifCond .eq 16, 3) := by decide +kernel
theorem dX1_readNumber_25 : decode cX1_readNumber 25 = .ok (.aload_n 0, 1) := by decide +kernel
theorem dX1_readNumber_26 : decode cX1_readNumber 26 = .ok (.bipush 59, 2) := by decide +kernel
theorem dX1_readNumber_28 : decode cX1_readNumber 28 = .ok (.invokevirtual 54, 3) := by decide +kernel
theorem dX1_readNumber_31 : decode cX1_readNumber 31 = .ok (.ifCond .eq 7, 3) := by decide +kernel
theorem dX1_readNumber_34 : decode cX1_readNumber 34 = .ok (.iconst 1, 1) := by decide +kernel
theorem dX1_readNumber_35 : decode cX1_readNumber 35 = .ok (.goto 4, 3) := by decide +kernel
theorem dX1_readNumber_38 : decode cX1_readNumber 38 = .ok (.iconst 0, 1) := by decide +kernel
theorem dX1_readNumber_39 : decode cX1_readNumber 39 = .ok (.ireturn, 1) := by decide +kernel
theorem dX2_init_0 : decode cX2_init 0 = .ok (.aload_n 0, 1) := by decide +kernel
theorem dX2_init_1 : decode cX2_init 1 = .ok (.invokespecial 1, 3) := by decide +kernel
theorem dX2_init_4 : decode cX2_init 4 = .ok (.aload_n 0, 1) := by decide +kernel
theorem dX2_init_5 : decode cX2_init 5 = .ok (.new 7, 3) := by decide +kernel
theorem dX2_init_8 : decode cX2_init 8 = .ok (.dup, 1) := by decide +kernel
theorem dX2_init_9 : decode cX2_init 9 = .ok (.invokespecial 9, 3) := by decide +kernel
theorem dX2_init_12 : decode cX2_init 12 = .ok (.putfield 10, 3) := by decide +kernel
theorem dX2_init_15 : decode cX2_init 15 = .ok (.aload_n 0, 1) := by decide +kernel
theorem dX2_init_16 : decode cX2_init 16 = .ok (.new 16, 3) := by decide +kernel
theorem dX2_init_19 : decode cX2_init 19 = .ok (.dup, 1) := by decide +kernel
theorem dX2_init_20 : decode cX2_init 20 = .ok (.invokespecial 18, 3) := by decide +kernel
theorem dX2_init_23 : decode cX2_init 23 = .ok (.putfield 19, 3) := by decide +kernel
theorem dX2_init_26 : decode cX2_init 26 = .ok (.return_, 1) := by decide +kernel
theorem dX3_init_0 : decode cX3_init 0 = .ok (.aload_n 0, 1) := by decide +kernel
theorem dX3_init_1 : decode cX3_init 1 = .ok (.invokespecial 3, 3) := by decide +kernel
theorem dX3_init_4 : decode cX3_init 4 = .ok (.aload_n 0, 1) := by decide +kernel
theorem dX3_init_5 : decode cX3_init 5 = .ok (.sipush 150, 3) := by decide +kernel
theorem dX3_init_8 : decode cX3_init 8 = .ok (.newarray .int, 2) := by decide +kernel
theorem dX3_init_10 : decode cX3_init 10 = .ok (.putfield 9, 3) := by decide +kernel
theorem dX3_init_13 : decode cX3_init 13 = .ok (.aload_n 0, 1) := by decide +kernel
theorem dX3_init_14 : decode cX3_init 14 = .ok (.sipush 150, 3) := by decide +kernel
theorem dX3_init_17 : decode cX3_init 17 = .ok (.newarray .int, 2) := by decide +kernel
theorem dX3_init_19 : decode cX3_init 19 = .ok (.putfield 15, 3) := by decide +kernel
theorem dX3_init_22 : decode cX3_init 22 = .ok (.aload_n 0, 1) := by decide +kernel
theorem dX3_init_23 : decode cX3_init 23 = .ok (.sipush 150, 3) := by decide +kernel
theorem dX3_init_26 : decode cX3_init 26 = .ok (.newarray .int, 2) := by decide +kernel
theorem dX3_init_28 : decode cX3_init 28 = .ok (.putfield 18, 3) := by decide +kernel
theorem dX3_init_31 : decode cX3_init 31 = .ok (.aload_n 0, 1) := by decide +kernel
theorem dX3_init_32 : decode cX3_init 32 = .ok (.invokevirtual 21, 3) := by decide +kernel
theorem dX3_init_35 : decode cX3_init 35 = .ok (.return_, 1) := by decide +kernel
theorem dX3_forget_0 : decode cX3_forget 0 = .ok (.aload_n 0, 1) := by decide +kernel
theorem dX3_forget_1 : decode cX3_forget 1 = .ok (.getfield 9, 3) := by decide +kernel
theorem dX3_forget_4 : decode cX3_forget 4 = .ok (.iconst 0, 1) := by decide +kernel
theorem dX3_forget_5 : decode cX3_forget 5 = .ok (.iconst 1, 1) := by decide +kernel
theorem dX3_forget_6 : decode cX3_forget 6 = .ok (.iastore, 1) := by decide +kernel
theorem dX3_forget_7 : decode cX3_forget 7 = .ok (.aload_n 0, 1) := by decide +kernel
theorem dX3_forget_8 : decode cX3_forget 8 = .ok (.iconst 1, 1) := by decide +kernel
theorem dX3_forget_9 : decode cX3_forget 9 = .ok (.putfield 24, 3) := by decide +kernel
theorem dX3_forget_12 : decode cX3_forget 12 = .ok (.return_, 1) := by decide +kernel
theorem dX3_read_0 : decode cX3_read 0 = .ok (.aload_n 0, 1) := by decide +kernel
theorem dX3_read_1 : decode cX3_read 1 = .ok (.iconst 0, 1) := by decide +kernel
theorem dX3_read_2 : decode cX3_read 2 = .ok (.putfield 28, 3) := by decide +kernel
theorem dX3_read_5 : decode cX3_read 5 = .ok (.aload_n 0, 1) := by decide +kernel
theorem dX3_read_6 : decode cX3_read 6 = .ok (.aload_n 1, 1) := by decide +kernel
theorem dX3_read_7 : decode cX3_read 7 = .ok (.iconst 0, 1) := by decide +kernel
theorem dX3_read_8 : decode cX3_read 8 = .ok (.invokevirtual 31, 3) := by decide +kernel
theorem dX3_read_11 : decode cX3_read 11 = .ok (.ifCond .ne 5, 3) := by decide +kernel
theorem dX3_read_14 : decode cX3_read 14 = .ok (.iconst 0, 1) := by decide +kernel
theorem dX3_read_15 : decode cX3_read 15 = .ok (.ireturn, 1) := by decide +kernel
theorem dX3_read_16 : decode cX3_read 16 = .ok (.aload_n 1, 1) := by decide +kernel
theorem dX3_read_17 : decode cX3_read 17 = .ok (.invokevirtual 35, 3) := by decide +kernel
theorem dX3_read_20 : decode cX3_read 20 = .ok (.ifCond .ne 13, 3) := by decide +kernel
theorem dX3_read_23 : decode cX3_read 23 = .ok (.aload_n 1, 1) := by decide +kernel
theorem dX3_read_24 : decode cX3_read 24 = .ok (.iconst 1, 1) := by decide +kernel
theorem dX3_read_25 : decode cX3_read 25 = .ok (.aload_n 1, 1) := by decide +kernel
theorem dX3_read_26 : decode cX3_read 26 = .ok (.getfield 41, 3) := by decide +kernel
theorem dX3_read_29 : decode cX3_read 29 = .ok (.invokevirtual 44, 3) := by decide +kernel
theorem dX3_read_32 : decode cX3_read 32 = .ok (.ireturn, 1) := by decide +kernel
theorem dX3_read_33 : decode cX3_read 33 = .ok (.aload_n 0, 1) := by decide +kernel
theorem dX3_read_34 : decode cX3_read 34 = .ok (.getfield 9, 3) := by decide +kernel
theorem dX3_read_37 : decode cX3_read 37 = .ok (.astore_n 2, 1) := by decide +kernel
theorem dX3_read_38 : decode cX3_read 38 = .ok (.aload_n 0, 1) := by decide +kernel
theorem dX3_read_39 : decode cX3_read 39 = .ok (.aload_n 0, 1) := by decide +kernel
theorem dX3_read_40 : decode cX3_read 40 = .ok (.getfield 15, 3) := by decide +kernel
theorem dX3_read_43 : decode cX3_read 43 = .ok (.putfield 9, 3) := by decide +kernel
theorem dX3_read_46 : decode cX3_read 46 = .ok (.aload_n 0, 1) := by decide +kernel
theorem dX3_read_47 : decode cX3_read 47 = .ok (.aload_n 2, 1) := by decide +kernel
theorem dX3_read_48 : decode cX3_read 48 = .ok (.putfield 15, 3) := by decide +kernel
theorem dX3_read_51 : decode cX3_read 51 = .ok (.aload_n 0, 1) := by decide +kernel
theorem dX3_read_52 : decode cX3_read 52 = .ok (.aload_n 0, 1) := by decide +kernel
theorem dX3_read_53 : decode cX3_read 53 = .ok (.getfield 28, 3) := by decide +kernel
theorem dX3_read_56 : decode cX3_read 56 = .ok (.putfield 24, 3) := by decide +kernel
theorem dX3_read_59 : decode cX3_read 59 = .ok (.iconst 1, 1) := by decide +kernel
theorem dX3_read_60 : decode cX3_read 60 = .ok (.ireturn, 1) := by decide +kernel
theorem dX3_readSum_0 : decode cX3_readSum 0 = .ok (.iconst (-1), 1) := by decide +kernel
theorem dX3_readSum_1 : decode cX3_readSum 1 = .ok (.istore_n 3, 1) := by decide +kernel
theorem dX3_readSum_2 : decode cX3_readSum 2 = .ok (.aload_n 0, 1) := by decide +kernel
theorem dX3_readSum_3 : decode cX3_readSum 3 = .ok (.aload_n 1, 1) := by decide +kernel
theorem dX3_readSum_4 : decode cX3_readSum 4 = .ok (.iload_n 2, 1) := by decide +kernel
theorem dX3_readSum_5 : decode cX3_readSum 5 = .ok (.invokevirtual 48, 3) := by decide +kernel
theorem dX3_readSum_8 : decode cX3_readSum 8 = .ok (.istore 4, 2) := by decide +kernel
theorem dX3_readSum_10 : decode cX3_readSum 10 = .ok (.iconst 0, 1) := by decide +kernel
theorem dX3_readSum_11 : decode cX3_readSum 11 = .ok (.istore 5, 2) := by decide +kernel
theorem dX3_readSum_13 : decode cX3_readSum 13 = .ok (.iload 4, 2) := by decide +kernel
theorem dX3_readSum_15 : decode cX3_readSum 15 = .ok (.ifCond .eq 109, 3) := by decide +kernel
theorem dX3_readSum_18 : decode cX3_readSum 18 = .ok (.iload 5, 2) := by decide +kernel
theorem dX3_readSum_20 : decode cX3_readSum 20 = .ok (.sipush 150, 3) := by decide +kernel
theorem dX3_readSum_23 : decode cX3_readSum 23 = .ok (.if_icmp .ge 101, 3) := by decide +kernel
theorem dX3_readSum_26 : decode cX3_readSum 26 = .ok (.aload_n 1, 1) := by decide +kernel
theorem dX3_readSum_27 : decode cX3_readSum 27 = .ok (.invokevirtual 51, 3) := by decide +kernel
theorem dX3_readSum_30 : decode cX3_readSum 30 = .ok (.invokestatic 55, 3) := by decide +kernel
theorem dX3_readSum_33 : decode cX3_readSum 33 = .ok (.istore 6, 2) := by decide +kernel
theorem dX3_readSum_35 : decode cX3_readSum 35 = .ok (.iload 6, 2) := by decide +kernel
theorem dX3_readSum_37 : decode cX3_readSum 37 = .ok (.sipush 1008, 3) := by decide +kernel
theorem dX3_readSum_40 : decode cX3_readSum 40 = .ok (.if_icmp .eq 19, 3) := by decide +kernel
theorem dX3_readSum_43 : decode cX3_readSum 43 = .ok (.iload 6, 2) := by decide +kernel
theorem dX3_readSum_45 : decode cX3_readSum 45 = .ok (.sipush 1009, 3) := by decide +kernel
theorem dX3_readSum_48 : decode cX3_readSum 48 = .ok (.if_icmp .eq 11, 3) := by decide +kernel
theorem dX3_readSum_51 : decode cX3_readSum 51 = .ok (.iload 6, 2) := by decide +kernel
theorem dX3_readSum_53 : decode cX3_readSum 53 = .ok (.sipush 1010, 3) := by decide +kernel
theorem dX3_readSum_56 : decode cX3_readSum 56 = .ok (.if_icmp .ne 7, 3) := by decide +kernel
theorem dX3_readSum_59 : decode cX3_readSum 59 = .ok (.iconst 1, 1) := by decide +kernel
theorem dX3_readSum_60 : decode cX3_readSum 60 = .ok (.goto 4, 3) := by decide +kernel
theorem dX3_readSum_63 : decode cX3_readSum 63 = .ok (.iconst 0, 1) := by decide +kernel
theorem dX3_readSum_64 : decode cX3_readSum 64 = .ok (.istore 7, 2) := by decide +kernel
theorem dX3_readSum_66 : decode cX3_readSum 66 = .ok (.iload 7, 2) := by decide +kernel
theorem dX3_readSum_68 : decode cX3_readSum 68 = .ok (.ifCond .ne 13, 3) := by decide +kernel
theorem dX3_readSum_71 : decode cX3_readSum 71 = .ok (.iload_n 3, 1) := by decide +kernel
theorem dX3_readSum_72 : decode cX3_readSum 72 = .ok (.iconst (-1), 1) := by decide +kernel
theorem dX3_readSum_73 : decode cX3_readSum 73 = .ok (.if_icmp .eq 8, 3) := by decide +kernel
theorem dX3_readSum_76 : decode cX3_readSum 76 = .ok (.aload_n 0, 1) := by decide +kernel
theorem dX3_readSum_77 : decode cX3_readSum 77 = .ok (.iload_n 3, 1) := by decide +kernel
theorem dX3_readSum_78 : decode cX3_readSum 78 = .ok (.invokevirtual 59, 3) := by decide +kernel
theorem dX3_readSum_81 : decode cX3_readSum 81 = .ok (.iload 6, 2) := by decide +kernel
theorem dX3_readSum_83 : decode cX3_readSum 83 = .ok (.iconst (-1), 1) := by decide +kernel
theorem dX3_readSum_84 : decode cX3_readSum 84 = .ok (.if_icmp .ne 5, 3) := by decide +kernel
theorem dX3_readSum_87 : decode cX3_readSum 87 = .ok (.iconst 1, 1) := by decide +kernel
theorem dX3_readSum_88 : decode cX3_readSum 88 = .ok (.ireturn, 1) := by decide +kernel
theorem dX3_readSum_89 : decode cX3_readSum 89 = .ok (.aload_n 1, 1) := by decide +kernel
theorem dX3_readSum_90 : decode cX3_readSum 90 = .ok (.invokevirtual 63, 3) := by decide +kernel
theorem dX3_readSum_93 : decode cX3_readSum 93 = .ok (.aload_n 0, 1) := by decide +kernel
theorem dX3_readSum_94 : decode cX3_readSum 94 = .ok (.aload_n 1, 1) := by decide +kernel
theorem dX3_readSum_95 : decode cX3_readSum 95 = .ok (.iload_n 2, 1) := by decide +kernel
theorem dX3_readSum_96 : decode cX3_readSum 96 = .ok (.invokevirtual 48, 3) := by decide +kernel
theorem dX3_readSum_99 : decode cX3_readSum 99 = .ok (.istore 4, 2) := by decide +kernel
theorem dX3_readSum_101 : decode cX3_readSum 101 = .ok (.iload 7, 2) := by decide +kernel
theorem dX3_readSum_103 : decode cX3_readSum 103 = .ok (.ifCond .eq 12, 3) := by decide +kernel
theorem dX3_readSum_106 : decode cX3_readSum 106 = .ok (.aload_n 0, 1) := by decide +kernel
theorem dX3_readSum_107 : decode cX3_readSum 107 = .ok (.iload 6, 2) := by decide +kernel
theorem dX3_readSum_109 : decode cX3_readSum 109 = .ok (.invokevirtual 59, 3) := by decide +kernel
theorem dX3_readSum_112 : decode cX3_readSum 112 = .ok (.goto 6, 3) := by decide +kernel
theorem dX3_readSum_115 : decode cX3_readSum 115 = .ok (.iload 6, 2) := by decide +kernel
theorem dX3_readSum_117 : decode cX3_readSum 117 = .ok (.istore_n 3, 1) := by decide +kernel
theorem dX3_readSum_118 : decode cX3_readSum 118 = .ok (.iinc 5 1, 3) := by decide +kernel
theorem dX3_readSum_121 : decode cX3_readSum 121 = .ok (.goto (-108), 3) := by decide +kernel
theorem dX3_readSum_124 : decode cX3_readSum 124 = .ok (.iload 4, 2) := by decide +kernel
theorem dX3_readSum_126 : decode cX3_readSum 126 = .ok (.ireturn, 1) := by decide +kernel
theorem dX3_joint_0 : decode cX3_joint 0 = .ok (.iload_n 0, 1) := by decide +kernel
theorem dX3_joint_1 : decode cX3_joint 1 = .ok (.tableswitch 79 37 47 #[75, 79, 79, 79, 79, 67, 59, 79, 63, 79, 71], 59) := by decide +kernel
theorem dX3_joint_60 : decode cX3_joint 60 = .ok (.sipush 1006, 3) := by decide +kernel
theorem dX3_joint_63 : decode cX3_joint 63 = .ok (.ireturn, 1) := by decide +kernel
theorem dX3_joint_64 : decode cX3_joint 64 = .ok (.sipush 1007, 3) := by decide +kernel
theorem dX3_joint_67 : decode cX3_joint 67 = .ok (.ireturn, 1) := by decide +kernel
theorem dX3_joint_68 : decode cX3_joint 68 = .ok (.sipush 1008, 3) := by decide +kernel
theorem dX3_joint_71 : decode cX3_joint 71 = .ok (.ireturn, 1) := by decide +kernel
theorem dX3_joint_72 : decode cX3_joint 72 = .ok (.sipush 1009, 3) := by decide +kernel
theorem dX3_joint_75 : decode cX3_joint 75 = .ok (.ireturn, 1) := by decide +kernel
theorem dX3_joint_76 : decode cX3_joint 76 = .ok (.sipush 1010, 3) := by decide +kernel
theorem dX3_joint_79 : decode cX3_joint 79 = .ok (.ireturn, 1) := by decide +kernel
theorem dX3_joint_80 : decode cX3_joint 80 = .ok (.iconst (-1), 1) := by decide +kernel
theorem dX3_joint_81 : decode cX3_joint 81 = .ok (.ireturn, 1) := by decide +kernel
theorem dX3_readUnit_0 : decode cX3_readUnit 0 = .ok (.aload_n 1, 1) := by decide +kernel
theorem dX3_readUnit_1 : decode cX3_readUnit 1 = .ok (.invokevirtual 51, 3) := by decide +kernel
theorem dX3_readUnit_4 : decode cX3_readUnit 4 = .ok (.istore_n 3, 1) := by decide +kernel
theorem dX3_readUnit_5 : decode cX3_readUnit 5 = .ok (.iload_n 3, 1) := by decide +kernel
theorem dX3_readUnit_6 : decode cX3_readUnit 6 = .ok (.invokestatic 66, 3) := by decide +kernel
theorem dX3_readUnit_9 : decode cX3_readUnit 9 = .ok (.ifCond .eq 24, 3) := by decide +kernel
theorem dX3_readUnit_12 : decode cX3_readUnit 12 = .ok (.aload_n 1, 1) := by decide +kernel
theorem dX3_readUnit_13 : decode cX3_readUnit 13 = .ok (.iconst 0, 1) := by decide +kernel
theorem dX3_readUnit_14 : decode cX3_readUnit 14 = .ok (.sipush 999, 3) := by decide +kernel
theorem dX3_readUnit_17 : decode cX3_readUnit 17 = .ok (.invokevirtual 70, 3) := by decide +kernel
theorem dX3_readUnit_20 : decode cX3_readUnit 20 = .ok (.istore 4, 2) := by decide +kernel
theorem dX3_readUnit_22 : decode cX3_readUnit 22 = .ok (.aload_n 0, 1) := by decide +kernel
theorem dX3_readUnit_23 : decode cX3_readUnit 23 = .ok (.aload_n 1, 1) := by decide +kernel
theorem dX3_readUnit_24 : decode cX3_readUnit 24 = .ok (.getfield 73, 3) := by decide +kernel
theorem dX3_readUnit_27 : decode cX3_readUnit 27 = .ok (.invokevirtual 59, 3) := by decide +kernel
theorem dX3_readUnit_30 : decode cX3_readUnit 30 = .ok (.iload 4, 2) := by decide +kernel
theorem dX3_readUnit_32 : decode cX3_readUnit 32 = .ok (.ireturn, 1) := by decide +kernel
theorem dX3_readUnit_33 : decode cX3_readUnit 33 = .ok (.iload_n 3, 1) := by decide +kernel
theorem dX3_readUnit_34 : decode cX3_readUnit 34 = .ok (.bipush 40, 2) := by decide +kernel
theorem dX3_readUnit_36 : decode cX3_readUnit 36 = .ok (.if_icmp .eq 10, 3) := by decide +kernel
theorem dX3_readUnit_39 : decode cX3_readUnit 39 = .ok (.aload_n 0, 1) := by decide +kernel
theorem dX3_readUnit_40 : decode cX3_readUnit 40 = .ok (.aload_n 1, 1) := by decide +kernel
theorem dX3_readUnit_41 : decode cX3_readUnit 41 = .ok (.iload_n 2, 1) := by decide +kernel
theorem dX3_readUnit_42 : decode cX3_readUnit 42 = .ok (.invokevirtual 76, 3) := by decide +kernel
theorem dX3_readUnit_45 : decode cX3_readUnit 45 = .ok (.ireturn, 1) := by decide +kernel
theorem dX3_readUnit_46 : decode cX3_readUnit 46 = .ok (.iload_n 2, 1) := by decide +kernel
theorem dX3_readUnit_47 : decode cX3_readUnit 47 = .ok (.bipush 6, 2) := by decide +kernel
theorem dX3_readUnit_49 : decode cX3_readUnit 49 = .ok (.if_icmp .lt 13, 3) := by decide +kernel
theorem dX3_readUnit_52 : decode cX3_readUnit 52 = .ok (.aload_n 1, 1) := by decide +kernel
theorem dX3_readUnit_53 : decode cX3_readUnit 53 = .ok (.iconst 3, 1) := by decide +kernel
theorem dX3_readUnit_54 : decode cX3_readUnit 54 = .ok (.aload_n 1, 1) := by decide +kernel
theorem dX3_readUnit_55 : decode cX3_readUnit 55 = .ok (.getfield 41, 3) := by decide +kernel
theorem dX3_readUnit_58 : decode cX3_readUnit 58 = .ok (.invokevirtual 44, 3) := by decide +kernel
theorem dX3_readUnit_61 : decode cX3_readUnit 61 = .ok (.ireturn, 1) := by decide +kernel
theorem dX3_readUnit_62 : decode cX3_readUnit 62 = .ok (.aload_n 1, 1) := by decide +kernel
theorem dX3_readUnit_63 : decode cX3_readUnit 63 = .ok (.invokevirtual 63, 3) := by decide +kernel
theorem dX3_readUnit_66 : decode cX3_readUnit 66 = .ok (.aload_n 0, 1) := by decide +kernel
theorem dX3_readUnit_67 : decode cX3_readUnit 67 = .ok (.aload_n 1, 1) := by decide +kernel
theorem dX3_readUnit_68 : decode cX3_readUnit 68 = .ok (.iload_n 2, 1) := by decide +kernel
theorem dX3_readUnit_69 : decode cX3_readUnit 69 = .ok (.iconst 1, 1) := by decide +kernel
theorem dX3_readUnit_70 : decode cX3_readUnit 70 = .ok (.iadd, 1) := by decide +kernel
theorem dX3_readUnit_71 : decode cX3_readUnit 71 = .ok (.invokevirtual 31, 3) := by decide +kernel
theorem dX3_readUnit_74 : decode cX3_readUnit 74 = .ok (.ifCond .eq 16, 3) := by decide +kernel
theorem dX3_readUnit_77 : decode cX3_readUnit 77 = .ok (.aload_n 1, 1) := by decide +kernel
theorem dX3_readUnit_78 : decode cX3_readUnit 78 = .ok (.bipush 41, 2) := by decide +kernel
theorem dX3_readUnit_80 : decode cX3_readUnit 80 = .ok (.invokevirtual 79, 3) := by decide +kernel
theorem dX3_readUnit_83 : decode cX3_readUnit 83 = .ok (.ifCond .eq 7, 3) := by decide +kernel
theorem dX3_readUnit_86 : decode cX3_readUnit 86 = .ok (.iconst 1, 1) := by decide +kernel
theorem dX3_readUnit_87 : decode cX3_readUnit 87 = .ok (.goto 4, 3) := by decide +kernel
theorem dX3_readUnit_90 : decode cX3_readUnit 90 = .ok (.iconst 0, 1) := by decide +kernel
theorem dX3_readUnit_91 : decode cX3_readUnit 91 = .ok (.ireturn, 1) := by decide +kernel
theorem dX3_readWord_0 : decode cX3_readWord 0 = .ok (.aload_n 1, 1) := by decide +kernel
theorem dX3_readWord_1 : decode cX3_readWord 1 = .ok (.invokevirtual 83, 3) := by decide +kernel
theorem dX3_readWord_4 : decode cX3_readWord 4 = .ok (.ifCond .ne 5, 3) := by decide +kernel
theorem dX3_readWord_7 : decode cX3_readWord 7 = .ok (.iconst 0, 1) := by decide +kernel
theorem dX3_readWord_8 : decode cX3_readWord 8 = .ok (.ireturn, 1) := by decide +kernel
theorem dX3_readWord_9 : decode cX3_readWord 9 = .ok (.aload_n 1, 1) := by decide +kernel
theorem dX3_readWord_10 : decode cX3_readWord 10 = .ok (.invokestatic 86, 3) := by decide +kernel
theorem dX3_readWord_13 : decode cX3_readWord 13 = .ok (.istore_n 3, 1) := by decide +kernel
theorem dX3_readWord_14 : decode cX3_readWord 14 = .ok (.iload_n 3, 1) := by decide +kernel
theorem dX3_readWord_15 : decode cX3_readWord 15 = .ok (.iconst (-1), 1) := by decide +kernel
theorem dX3_readWord_16 : decode cX3_readWord 16 = .ok (.if_icmp .ne 13, 3) := by decide +kernel
theorem dX3_readWord_19 : decode cX3_readWord 19 = .ok (.aload_n 1, 1) := by decide +kernel
theorem dX3_readWord_20 : decode cX3_readWord 20 = .ok (.iconst 1, 1) := by decide +kernel
theorem dX3_readWord_21 : decode cX3_readWord 21 = .ok (.aload_n 1, 1) := by decide +kernel
theorem dX3_readWord_22 : decode cX3_readWord 22 = .ok (.getfield 90, 3) := by decide +kernel
theorem dX3_readWord_25 : decode cX3_readWord 25 = .ok (.invokevirtual 44, 3) := by decide +kernel
theorem dX3_readWord_28 : decode cX3_readWord 28 = .ok (.ireturn, 1) := by decide +kernel
theorem dX3_readWord_29 : decode cX3_readWord 29 = .ok (.iload_n 3, 1) := by decide +kernel
theorem dX3_readWord_30 : decode cX3_readWord 30 = .ok (.sipush 1004, 3) := by decide +kernel
theorem dX3_readWord_33 : decode cX3_readWord 33 = .ok (.if_icmp .eq 10, 3) := by decide +kernel
theorem dX3_readWord_36 : decode cX3_readWord 36 = .ok (.iload_n 3, 1) := by decide +kernel
theorem dX3_readWord_37 : decode cX3_readWord 37 = .ok (.sipush 1005, 3) := by decide +kernel
theorem dX3_readWord_40 : decode cX3_readWord 40 = .ok (.if_icmp .ne 7, 3) := by decide +kernel
theorem dX3_readWord_43 : decode cX3_readWord 43 = .ok (.iconst 1, 1) := by decide +kernel
theorem dX3_readWord_44 : decode cX3_readWord 44 = .ok (.goto 4, 3) := by decide +kernel
theorem dX3_readWord_47 : decode cX3_readWord 47 = .ok (.iconst 0, 1) := by decide +kernel
theorem dX3_readWord_48 : decode cX3_readWord 48 = .ok (.istore 4, 2) := by decide +kernel
theorem dX3_readWord_50 : decode cX3_readWord 50 = .ok (.iload 4, 2) := by decide +kernel
theorem dX3_readWord_52 : decode cX3_readWord 52 = .ok (.ifCond .eq 19, 3) := by decide +kernel
theorem dX3_readWord_55 : decode cX3_readWord 55 = .ok (.iload_n 2, 1) := by decide +kernel
theorem dX3_readWord_56 : decode cX3_readWord 56 = .ok (.bipush 6, 2) := by decide +kernel
theorem dX3_readWord_58 : decode cX3_readWord 58 = .ok (.if_icmp .lt 13, 3) := by decide +kernel
theorem dX3_readWord_61 : decode cX3_readWord 61 = .ok (.aload_n 1, 1) := by decide +kernel
theorem dX3_readWord_62 : decode cX3_readWord 62 = .ok (.iconst 3, 1) := by decide +kernel
theorem dX3_readWord_63 : decode cX3_readWord 63 = .ok (.aload_n 1, 1) := by decide +kernel
theorem dX3_readWord_64 : decode cX3_readWord 64 = .ok (.getfield 90, 3) := by decide +kernel
theorem dX3_readWord_67 : decode cX3_readWord 67 = .ok (.invokevirtual 44, 3) := by decide +kernel
theorem dX3_readWord_70 : decode cX3_readWord 70 = .ok (.ireturn, 1) := by decide +kernel
theorem dX3_readWord_71 : decode cX3_readWord 71 = .ok (.iload 4, 2) := by decide +kernel
theorem dX3_readWord_73 : decode cX3_readWord 73 = .ok (.ifCond .eq 52, 3) := by decide +kernel
theorem dX3_readWord_76 : decode cX3_readWord 76 = .ok (.aload_n 1, 1) := by decide +kernel
theorem dX3_readWord_77 : decode cX3_readWord 77 = .ok (.bipush 91, 2) := by decide +kernel
theorem dX3_readWord_79 : decode cX3_readWord 79 = .ok (.invokevirtual 79, 3) := by decide +kernel
theorem dX3_readWord_82 : decode cX3_readWord 82 = .ok (.ifCond .eq 47, 3) := by decide +kernel
theorem dX3_readWord_85 : decode cX3_readWord 85 = .ok (.aload_n 0, 1) := by decide +kernel
theorem dX3_readWord_86 : decode cX3_readWord 86 = .ok (.aload_n 1, 1) := by decide +kernel
theorem dX3_readWord_87 : decode cX3_readWord 87 = .ok (.iload_n 2, 1) := by decide +kernel
theorem dX3_readWord_88 : decode cX3_readWord 88 = .ok (.iconst 1, 1) := by decide +kernel
theorem dX3_readWord_89 : decode cX3_readWord 89 = .ok (.iadd, 1) := by decide +kernel
theorem dX3_readWord_90 : decode cX3_readWord 90 = .ok (.invokevirtual 31, 3) := by decide +kernel
theorem dX3_readWord_93 : decode cX3_readWord 93 = .ok (.ifCond .eq 36, 3) := by decide +kernel
theorem dX3_readWord_96 : decode cX3_readWord 96 = .ok (.aload_n 1, 1) := by decide +kernel
theorem dX3_readWord_97 : decode cX3_readWord 97 = .ok (.bipush 44, 2) := by decide +kernel
theorem dX3_readWord_99 : decode cX3_readWord 99 = .ok (.invokevirtual 79, 3) := by decide +kernel
theorem dX3_readWord_102 : decode cX3_readWord 102 = .ok (.ifCond .eq 27, 3) := by decide +kernel
theorem dX3_readWord_105 : decode cX3_readWord 105 = .ok (.aload_n 0, 1) := by decide +kernel
theorem dX3_readWord_106 : decode cX3_readWord 106 = .ok (.aload_n 1, 1) := by decide +kernel
theorem dX3_readWord_107 : decode cX3_readWord 107 = .ok (.iload_n 2, 1) := by decide +kernel
theorem dX3_readWord_108 : decode cX3_readWord 108 = .ok (.iconst 1, 1) := by decide +kernel
theorem dX3_readWord_109 : decode cX3_readWord 109 = .ok (.iadd, 1) := by decide +kernel
theorem dX3_readWord_110 : decode cX3_readWord 110 = .ok (.invokevirtual 31, 3) := by decide +kernel
theorem dX3_readWord_113 : decode cX3_readWord 113 = .ok (.ifCond .eq 16, 3) := by decide +kernel
theorem dX3_readWord_116 : decode cX3_readWord 116 = .ok (.aload_n 1, 1) := by decide +kernel
theorem dX3_readWord_117 : decode cX3_readWord 117 = .ok (.bipush 93, 2) := by decide +kernel
theorem dX3_readWord_119 : decode cX3_readWord 119 = .ok (.invokevirtual 79, 3) := by decide +kernel
theorem dX3_readWord_122 : decode cX3_readWord 122 = .ok (.ifCond .eq 7, 3) := by decide +kernel
theorem dX3_readWord_125 : decode cX3_readWord 125 = .ok (.iconst 1, 1) := by decide +kernel
theorem dX3_readWord_126 : decode cX3_readWord 126 = .ok (.goto 4, 3) := by decide +kernel
theorem dX3_readWord_129 : decode cX3_readWord 129 = .ok (.iconst 0, 1) := by decide +kernel
theorem dX3_readWord_130 : decode cX3_readWord 130 = .ok (.istore 5, 2) := by decide +kernel
theorem dX3_readWord_132 : decode cX3_readWord 132 = .ok (.aload_n 0, 1) := by decide +kernel
theorem dX3_readWord_133 : decode cX3_readWord 133 = .ok (.iload_n 3, 1) := by decide +kernel
theorem dX3_readWord_134 : decode cX3_readWord 134 = .ok (.invokevirtual 59, 3) := by decide +kernel
theorem dX3_readWord_137 : decode cX3_readWord 137 = .ok (.iload 5, 2) := by decide +kernel
theorem dX3_readWord_139 : decode cX3_readWord 139 = .ok (.ireturn, 1) := by decide +kernel
theorem dX3_kindOf_0 : decode cX3_kindOf 0 = .ok (.aload_n 0, 1) := by decide +kernel
theorem dX3_kindOf_1 : decode cX3_kindOf 1 = .ok (.ldc 93, 2) := by decide +kernel
theorem dX3_kindOf_3 : decode cX3_kindOf 3 = .ok (.invokevirtual 95, 3) := by decide +kernel
theorem dX3_kindOf_6 : decode cX3_kindOf 6 = .ok (.ifCond .eq 7, 3) := by decide +kernel
theorem dX3_kindOf_9 : decode cX3_kindOf 9 = .ok (.sipush 1000, 3) := by decide +kernel
theorem dX3_kindOf_12 : decode cX3_kindOf 12 = .ok (.ireturn, 1) := by decide +kernel
theorem dX3_kindOf_13 : decode cX3_kindOf 13 = .ok (.aload_n 0, 1) := by decide +kernel
theorem dX3_kindOf_14 : decode cX3_kindOf 14 = .ok (.ldc 99, 2) := by decide +kernel
theorem dX3_kindOf_16 : decode cX3_kindOf 16 = .ok (.invokevirtual 95, 3) := by decide +kernel
theorem dX3_kindOf_19 : decode cX3_kindOf 19 = .ok (.ifCond .eq 7, 3) := by decide +kernel
theorem dX3_kindOf_22 : decode cX3_kindOf 22 = .ok (.sipush 1001, 3) := by decide +kernel
theorem dX3_kindOf_25 : decode cX3_kindOf 25 = .ok (.ireturn, 1) := by decide +kernel
theorem dX3_kindOf_26 : decode cX3_kindOf 26 = .ok (.aload_n 0, 1) := by decide +kernel
theorem dX3_kindOf_27 : decode cX3_kindOf 27 = .ok (.ldc 101, 2) := by decide +kernel
theorem dX3_kindOf_29 : decode cX3_kindOf 29 = .ok (.invokevirtual 95, 3) := by decide +kernel
theorem dX3_kindOf_32 : decode cX3_kindOf 32 = .ok (.ifCond .eq 7, 3) := by decide +kernel
theorem dX3_kindOf_35 : decode cX3_kindOf 35 = .ok (.sipush 1002, 3) := by decide +kernel
theorem dX3_kindOf_38 : decode cX3_kindOf 38 = .ok (.ireturn, 1) := by decide +kernel
theorem dX3_kindOf_39 : decode cX3_kindOf 39 = .ok (.aload_n 0, 1) := by decide +kernel
theorem dX3_kindOf_40 : decode cX3_kindOf 40 = .ok (.ldc 103, 2) := by decide +kernel
theorem dX3_kindOf_42 : decode cX3_kindOf 42 = .ok (.invokevirtual 95, 3) := by decide +kernel
theorem dX3_kindOf_45 : decode cX3_kindOf 45 = .ok (.ifCond .eq 7, 3) := by decide +kernel
theorem dX3_kindOf_48 : decode cX3_kindOf 48 = .ok (.sipush 1003, 3) := by decide +kernel
theorem dX3_kindOf_51 : decode cX3_kindOf 51 = .ok (.ireturn, 1) := by decide +kernel
theorem dX3_kindOf_52 : decode cX3_kindOf 52 = .ok (.aload_n 0, 1) := by decide +kernel
theorem dX3_kindOf_53 : decode cX3_kindOf 53 = .ok (.ldc 105, 2) := by decide +kernel
theorem dX3_kindOf_55 : decode cX3_kindOf 55 = .ok (.invokevirtual 95, 3) := by decide +kernel
theorem dX3_kindOf_58 : decode cX3_kindOf 58 = .ok (.ifCond .eq 7, 3) := by decide +kernel
theorem dX3_kindOf_61 : decode cX3_kindOf 61 = .ok (.sipush 1004, 3) := by decide +kernel
theorem dX3_kindOf_64 : decode cX3_kindOf 64 = .ok (.ireturn, 1) := by decide +kernel
theorem dX3_kindOf_65 : decode cX3_kindOf 65 = .ok (.aload_n 0, 1) := by decide +kernel
theorem dX3_kindOf_66 : decode cX3_kindOf 66 = .ok (.ldc 107, 2) := by decide +kernel
theorem dX3_kindOf_68 : decode cX3_kindOf 68 = .ok (.invokevirtual 95, 3) := by decide +kernel
theorem dX3_kindOf_71 : decode cX3_kindOf 71 = .ok (.ifCond .eq 9, 3) := by decide +kernel
theorem dX3_kindOf_74 : decode cX3_kindOf 74 = .ok (.sipush 1005, 3) := by decide +kernel
theorem dX3_kindOf_77 : decode cX3_kindOf 77 = .ok (.goto 4, 3) := by decide +kernel
theorem dX3_kindOf_80 : decode cX3_kindOf 80 = .ok (.iconst (-1), 1) := by decide +kernel
theorem dX3_kindOf_81 : decode cX3_kindOf 81 = .ok (.ireturn, 1) := by decide +kernel
theorem dX3_emit_0 : decode cX3_emit 0 = .ok (.aload_n 0, 1) := by decide +kernel
theorem dX3_emit_1 : decode cX3_emit 1 = .ok (.getfield 28, 3) := by decide +kernel
theorem dX3_emit_4 : decode cX3_emit 4 = .ok (.aload_n 0, 1) := by decide +kernel
theorem dX3_emit_5 : decode cX3_emit 5 = .ok (.getfield 15, 3) := by decide +kernel
theorem dX3_emit_8 : decode cX3_emit 8 = .ok (.arraylength, 1) := by decide +kernel
theorem dX3_emit_9 : decode cX3_emit 9 = .ok (.if_icmp .ge 23, 3) := by decide +kernel
theorem dX3_emit_12 : decode cX3_emit 12 = .ok (.aload_n 0, 1) := by decide +kernel
theorem dX3_emit_13 : decode cX3_emit 13 = .ok (.getfield 15, 3) := by decide +kernel
theorem dX3_emit_16 : decode cX3_emit 16 = .ok (.aload_n 0, 1) := by decide +kernel
theorem dX3_emit_17 : decode cX3_emit 17 = .ok (.getfield 28, 3) := by decide +kernel
theorem dX3_emit_20 : decode cX3_emit 20 = .ok (.iload_n 1, 1) := by decide +kernel
theorem dX3_emit_21 : decode cX3_emit 21 = .ok (.iastore, 1) := by decide +kernel
theorem dX3_emit_22 : decode cX3_emit 22 = .ok (.aload_n 0, 1) := by decide +kernel
theorem dX3_emit_23 : decode cX3_emit 23 = .ok (.dup, 1) := by decide +kernel
theorem dX3_emit_24 : decode cX3_emit 24 = .ok (.getfield 28, 3) := by decide +kernel
theorem dX3_emit_27 : decode cX3_emit 27 = .ok (.iconst 1, 1) := by decide +kernel
theorem dX3_emit_28 : decode cX3_emit 28 = .ok (.iadd, 1) := by decide +kernel
theorem dX3_emit_29 : decode cX3_emit 29 = .ok (.putfield 28, 3) := by decide +kernel
theorem dX3_emit_32 : decode cX3_emit 32 = .ok (.return_, 1) := by decide +kernel
theorem dX3_weigh_0 : decode cX3_weigh 0 = .ok (.iconst 0, 1) := by decide +kernel
theorem dX3_weigh_1 : decode cX3_weigh 1 = .ok (.istore 5, 2) := by decide +kernel
theorem dX3_weigh_3 : decode cX3_weigh 3 = .ok (.iconst 0, 1) := by decide +kernel
theorem dX3_weigh_4 : decode cX3_weigh 4 = .ok (.istore 6, 2) := by decide +kernel
theorem dX3_weigh_6 : decode cX3_weigh 6 = .ok (.iload 6, 2) := by decide +kernel
theorem dX3_weigh_8 : decode cX3_weigh 8 = .ok (.aload_n 0, 1) := by decide +kernel
theorem dX3_weigh_9 : decode cX3_weigh 9 = .ok (.getfield 24, 3) := by decide +kernel
theorem dX3_weigh_12 : decode cX3_weigh 12 = .ok (.if_icmp .ge 150, 3) := by decide +kernel
theorem dX3_weigh_15 : decode cX3_weigh 15 = .ok (.iload 6, 2) := by decide +kernel
theorem dX3_weigh_17 : decode cX3_weigh 17 = .ok (.aload_n 0, 1) := by decide +kernel
theorem dX3_weigh_18 : decode cX3_weigh 18 = .ok (.getfield 9, 3) := by decide +kernel
theorem dX3_weigh_21 : decode cX3_weigh 21 = .ok (.arraylength, 1) := by decide +kernel
theorem dX3_weigh_22 : decode cX3_weigh 22 = .ok (.if_icmp .ge 140, 3) := by decide +kernel
theorem dX3_weigh_25 : decode cX3_weigh 25 = .ok (.aload_n 0, 1) := by decide +kernel
theorem dX3_weigh_26 : decode cX3_weigh 26 = .ok (.getfield 9, 3) := by decide +kernel
theorem dX3_weigh_29 : decode cX3_weigh 29 = .ok (.iload 6, 2) := by decide +kernel
theorem dX3_weigh_31 : decode cX3_weigh 31 = .ok (.iaload, 1) := by decide +kernel
theorem dX3_weigh_32 : decode cX3_weigh 32 = .ok (.istore 7, 2) := by decide +kernel
theorem dX3_weigh_34 : decode cX3_weigh 34 = .ok (.iload 7, 2) := by decide +kernel
theorem dX3_weigh_36 : decode cX3_weigh 36 = .ok (.sipush 1004, 3) := by decide +kernel
theorem dX3_weigh_39 : decode cX3_weigh 39 = .ok (.if_icmp .lt 40, 3) := by decide +kernel
theorem dX3_weigh_42 : decode cX3_weigh 42 = .ok (.iload 5, 2) := by decide +kernel
theorem dX3_weigh_44 : decode cX3_weigh 44 = .ok (.iconst 2, 1) := by decide +kernel
theorem dX3_weigh_45 : decode cX3_weigh 45 = .ok (.if_icmp .ge 5, 3) := by decide +kernel
theorem dX3_weigh_48 : decode cX3_weigh 48 = .ok (.iconst 0, 1) := by decide +kernel
theorem dX3_weigh_49 : decode cX3_weigh 49 = .ok (.ireturn, 1) := by decide +kernel
theorem dX3_weigh_50 : decode cX3_weigh 50 = .ok (.iinc 5 (-2), 3) := by decide +kernel
theorem dX3_weigh_53 : decode cX3_weigh 53 = .ok (.iload 7, 2) := by decide +kernel
theorem dX3_weigh_55 : decode cX3_weigh 55 = .ok (.aload_n 0, 1) := by decide +kernel
theorem dX3_weigh_56 : decode cX3_weigh 56 = .ok (.getfield 18, 3) := by decide +kernel
theorem dX3_weigh_59 : decode cX3_weigh 59 = .ok (.iload 5, 2) := by decide +kernel
theorem dX3_weigh_61 : decode cX3_weigh 61 = .ok (.iaload, 1) := by decide +kernel
theorem dX3_weigh_62 : decode cX3_weigh 62 = .ok (.aload_n 0, 1) := by decide +kernel
theorem dX3_weigh_63 : decode cX3_weigh 63 = .ok (.getfield 18, 3) := by decide +kernel
theorem dX3_weigh_66 : decode cX3_weigh 66 = .ok (.iload 5, 2) := by decide +kernel
theorem dX3_weigh_68 : decode cX3_weigh 68 = .ok (.iconst 1, 1) := by decide +kernel
theorem dX3_weigh_69 : decode cX3_weigh 69 = .ok (.iadd, 1) := by decide +kernel
theorem dX3_weigh_70 : decode cX3_weigh 70 = .ok (.iaload, 1) := by decide +kernel
theorem dX3_weigh_71 : decode cX3_weigh 71 = .ok (.invokestatic 109, 3) := by decide +kernel
theorem dX3_weigh_74 : decode cX3_weigh 74 = .ok (.istore 8, 2) := by decide +kernel
theorem dX3_weigh_76 : decode cX3_weigh 76 = .ok (.goto 56, 3) := by decide +kernel
theorem dX3_weigh_79 : decode cX3_weigh 79 = .ok (.iload 7, 2) := by decide +kernel
theorem dX3_weigh_81 : decode cX3_weigh 81 = .ok (.sipush 1000, 3) := by decide +kernel
theorem dX3_weigh_84 : decode cX3_weigh 84 = .ok (.if_icmp .ne 7, 3) := by decide +kernel
theorem dX3_weigh_87 : decode cX3_weigh 87 = .ok (.iload_n 1, 1) := by decide +kernel
theorem dX3_weigh_88 : decode cX3_weigh 88 = .ok (.goto 42, 3) := by decide +kernel
theorem dX3_weigh_91 : decode cX3_weigh 91 = .ok (.iload 7, 2) := by decide +kernel
theorem dX3_weigh_93 : decode cX3_weigh 93 = .ok (.sipush 1001, 3) := by decide +kernel
theorem dX3_weigh_96 : decode cX3_weigh 96 = .ok (.if_icmp .ne 7, 3) := by decide +kernel
theorem dX3_weigh_99 : decode cX3_weigh 99 = .ok (.iload_n 2, 1) := by decide +kernel
theorem dX3_weigh_100 : decode cX3_weigh 100 = .ok (.goto 30, 3) := by decide +kernel
theorem dX3_weigh_103 : decode cX3_weigh 103 = .ok (.iload 7, 2) := by decide +kernel
theorem dX3_weigh_105 : decode cX3_weigh 105 = .ok (.sipush 1002, 3) := by decide +kernel
theorem dX3_weigh_108 : decode cX3_weigh 108 = .ok (.if_icmp .ne 7, 3) := by decide +kernel
theorem dX3_weigh_111 : decode cX3_weigh 111 = .ok (.iload_n 3, 1) := by decide +kernel
theorem dX3_weigh_112 : decode cX3_weigh 112 = .ok (.goto 18, 3) := by decide +kernel
theorem dX3_weigh_115 : decode cX3_weigh 115 = .ok (.iload 7, 2) := by decide +kernel
theorem dX3_weigh_117 : decode cX3_weigh 117 = .ok (.sipush 1003, 3) := by decide +kernel
theorem dX3_weigh_120 : decode cX3_weigh 120 = .ok (.if_icmp .ne 8, 3) := by decide +kernel
theorem dX3_weigh_123 : decode cX3_weigh 123 = .ok (.iload 4, 2) := by decide +kernel
theorem dX3_weigh_125 : decode cX3_weigh 125 = .ok (.goto 5, 3) := by decide +kernel
theorem dX3_weigh_128 : decode cX3_weigh 128 = .ok (.iload 7, 2) := by decide +kernel
theorem dX3_weigh_130 : decode cX3_weigh 130 = .ok (.istore 8, 2) := by decide +kernel
theorem dX3_weigh_132 : decode cX3_weigh 132 = .ok (.iload 5, 2) := by decide +kernel
theorem dX3_weigh_134 : decode cX3_weigh 134 = .ok (.aload_n 0, 1) := by decide +kernel
theorem dX3_weigh_135 : decode cX3_weigh 135 = .ok (.getfield 18, 3) := by decide +kernel
theorem dX3_weigh_138 : decode cX3_weigh 138 = .ok (.arraylength, 1) := by decide +kernel
theorem dX3_weigh_139 : decode cX3_weigh 139 = .ok (.if_icmp .lt 5, 3) := by decide +kernel
theorem dX3_weigh_142 : decode cX3_weigh 142 = .ok (.iconst 0, 1) := by decide +kernel
theorem dX3_weigh_143 : decode cX3_weigh 143 = .ok (.ireturn, 1) := by decide +kernel
theorem dX3_weigh_144 : decode cX3_weigh 144 = .ok (.aload_n 0, 1) := by decide +kernel
theorem dX3_weigh_145 : decode cX3_weigh 145 = .ok (.getfield 18, 3) := by decide +kernel
theorem dX3_weigh_148 : decode cX3_weigh 148 = .ok (.iload 5, 2) := by decide +kernel
theorem dX3_weigh_150 : decode cX3_weigh 150 = .ok (.iload 8, 2) := by decide +kernel
theorem dX3_weigh_152 : decode cX3_weigh 152 = .ok (.iastore, 1) := by decide +kernel
theorem dX3_weigh_153 : decode cX3_weigh 153 = .ok (.iinc 5 1, 3) := by decide +kernel
theorem dX3_weigh_156 : decode cX3_weigh 156 = .ok (.iinc 6 1, 3) := by decide +kernel
theorem dX3_weigh_159 : decode cX3_weigh 159 = .ok (.goto (-153), 3) := by decide +kernel
theorem dX3_weigh_162 : decode cX3_weigh 162 = .ok (.iconst 0, 1) := by decide +kernel
theorem dX3_weigh_163 : decode cX3_weigh 163 = .ok (.bipush 99, 2) := by decide +kernel
theorem dX3_weigh_165 : decode cX3_weigh 165 = .ok (.aload_n 0, 1) := by decide +kernel
theorem dX3_weigh_166 : decode cX3_weigh 166 = .ok (.getfield 18, 3) := by decide +kernel
theorem dX3_weigh_169 : decode cX3_weigh 169 = .ok (.iconst 0, 1) := by decide +kernel
theorem dX3_weigh_170 : decode cX3_weigh 170 = .ok (.iaload, 1) := by decide +kernel
theorem dX3_weigh_171 : decode cX3_weigh 171 = .ok (.invokestatic 113, 3) := by decide +kernel
theorem dX3_weigh_174 : decode cX3_weigh 174 = .ok (.invokestatic 119, 3) := by decide +kernel
theorem dX3_weigh_177 : decode cX3_weigh 177 = .ok (.ireturn, 1) := by decide +kernel
theorem dX3_reckon_0 : decode cX3_reckon 0 = .ok (.iload_n 0, 1) := by decide +kernel
theorem dX3_reckon_1 : decode cX3_reckon 1 = .ok (.tableswitch 75 1004 1009 #[39, 45, 51, 55, 59, 63], 39) := by decide +kernel
theorem dX3_reckon_40 : decode cX3_reckon 40 = .ok (.iload_n 1, 1) := by decide +kernel
theorem dX3_reckon_41 : decode cX3_reckon 41 = .ok (.iload_n 2, 1) := by decide +kernel
theorem dX3_reckon_42 : decode cX3_reckon 42 = .ok (.invokestatic 113, 3) := by decide +kernel
theorem dX3_reckon_45 : decode cX3_reckon 45 = .ok (.ireturn, 1) := by decide +kernel
theorem dX3_reckon_46 : decode cX3_reckon 46 = .ok (.iload_n 1, 1) := by decide +kernel
theorem dX3_reckon_47 : decode cX3_reckon 47 = .ok (.iload_n 2, 1) := by decide +kernel
theorem dX3_reckon_48 : decode cX3_reckon 48 = .ok (.invokestatic 119, 3) := by decide +kernel
theorem dX3_reckon_51 : decode cX3_reckon 51 = .ok (.ireturn, 1) := by decide +kernel
theorem dX3_reckon_52 : decode cX3_reckon 52 = .ok (.iload_n 1, 1) := by decide +kernel
theorem dX3_reckon_53 : decode cX3_reckon 53 = .ok (.iload_n 2, 1) := by decide +kernel
theorem dX3_reckon_54 : decode cX3_reckon 54 = .ok (.iadd, 1) := by decide +kernel
theorem dX3_reckon_55 : decode cX3_reckon 55 = .ok (.ireturn, 1) := by decide +kernel
theorem dX3_reckon_56 : decode cX3_reckon 56 = .ok (.iload_n 1, 1) := by decide +kernel
theorem dX3_reckon_57 : decode cX3_reckon 57 = .ok (.iload_n 2, 1) := by decide +kernel
theorem dX3_reckon_58 : decode cX3_reckon 58 = .ok (.isub, 1) := by decide +kernel
theorem dX3_reckon_59 : decode cX3_reckon 59 = .ok (.ireturn, 1) := by decide +kernel
theorem dX3_reckon_60 : decode cX3_reckon 60 = .ok (.iload_n 1, 1) := by decide +kernel
theorem dX3_reckon_61 : decode cX3_reckon 61 = .ok (.iload_n 2, 1) := by decide +kernel
theorem dX3_reckon_62 : decode cX3_reckon 62 = .ok (.imul, 1) := by decide +kernel
theorem dX3_reckon_63 : decode cX3_reckon 63 = .ok (.ireturn, 1) := by decide +kernel
theorem dX3_reckon_64 : decode cX3_reckon 64 = .ok (.iload_n 2, 1) := by decide +kernel
theorem dX3_reckon_65 : decode cX3_reckon 65 = .ok (.ifCond .ne 7, 3) := by decide +kernel
theorem dX3_reckon_68 : decode cX3_reckon 68 = .ok (.iconst 0, 1) := by decide +kernel
theorem dX3_reckon_69 : decode cX3_reckon 69 = .ok (.goto 6, 3) := by decide +kernel
theorem dX3_reckon_72 : decode cX3_reckon 72 = .ok (.iload_n 1, 1) := by decide +kernel
theorem dX3_reckon_73 : decode cX3_reckon 73 = .ok (.iload_n 2, 1) := by decide +kernel
theorem dX3_reckon_74 : decode cX3_reckon 74 = .ok (.idiv, 1) := by decide +kernel
theorem dX3_reckon_75 : decode cX3_reckon 75 = .ok (.ireturn, 1) := by decide +kernel
theorem dX3_reckon_76 : decode cX3_reckon 76 = .ok (.iload_n 2, 1) := by decide +kernel
theorem dX3_reckon_77 : decode cX3_reckon 77 = .ok (.ifCond .ne 7, 3) := by decide +kernel
theorem dX3_reckon_80 : decode cX3_reckon 80 = .ok (.iconst 0, 1) := by decide +kernel
theorem dX3_reckon_81 : decode cX3_reckon 81 = .ok (.goto 6, 3) := by decide +kernel
theorem dX3_reckon_84 : decode cX3_reckon 84 = .ok (.iload_n 1, 1) := by decide +kernel
theorem dX3_reckon_85 : decode cX3_reckon 85 = .ok (.iload_n 2, 1) := by decide +kernel
theorem dX3_reckon_86 : decode cX3_reckon 86 = .ok (.irem, 1) := by decide +kernel
theorem dX3_reckon_87 : decode cX3_reckon 87 = .ok (.ireturn, 1) := by decide +kernel
theorem dX4_init_0 : decode cX4_init 0 = .ok (.aload_n 0, 1) := by decide +kernel
theorem dX4_init_1 : decode cX4_init 1 = .ok (.invokespecial 3, 3) := by decide +kernel
theorem dX4_init_4 : decode cX4_init 4 = .ok (.aload_n 0, 1) := by decide +kernel
theorem dX4_init_5 : decode cX4_init 5 = .ok (.bipush 64, 2) := by decide +kernel
theorem dX4_init_7 : decode cX4_init 7 = .ok (.newarray .char, 2) := by decide +kernel
theorem dX4_init_9 : decode cX4_init 9 = .ok (.putfield 9, 3) := by decide +kernel
theorem dX4_init_12 : decode cX4_init 12 = .ok (.return_, 1) := by decide +kernel
theorem dX4_write_0 : decode cX4_write 0 = .ok (.aload_n 0, 1) := by decide +kernel
theorem dX4_write_1 : decode cX4_write 1 = .ok (.iconst 0, 1) := by decide +kernel
theorem dX4_write_2 : decode cX4_write 2 = .ok (.putfield 15, 3) := by decide +kernel
theorem dX4_write_5 : decode cX4_write 5 = .ok (.aload_n 0, 1) := by decide +kernel
theorem dX4_write_6 : decode cX4_write 6 = .ok (.bipush 118, 2) := by decide +kernel
theorem dX4_write_8 : decode cX4_write 8 = .ok (.invokevirtual 19, 3) := by decide +kernel
theorem dX4_write_11 : decode cX4_write 11 = .ok (.aload_n 0, 1) := by decide +kernel
theorem dX4_write_12 : decode cX4_write 12 = .ok (.aload_n 1, 1) := by decide +kernel
theorem dX4_write_13 : decode cX4_write 13 = .ok (.getfield 23, 3) := by decide +kernel
theorem dX4_write_16 : decode cX4_write 16 = .ok (.invokevirtual 28, 3) := by decide +kernel
theorem dX4_write_19 : decode cX4_write 19 = .ok (.aload_n 0, 1) := by decide +kernel
theorem dX4_write_20 : decode cX4_write 20 = .ok (.bipush 58, 2) := by decide +kernel
theorem dX4_write_22 : decode cX4_write 22 = .ok (.invokevirtual 19, 3) := by decide +kernel
theorem dX4_write_25 : decode cX4_write 25 = .ok (.iconst 1, 1) := by decide +kernel
theorem dX4_write_26 : decode cX4_write 26 = .ok (.istore_n 2, 1) := by decide +kernel
theorem dX4_write_27 : decode cX4_write 27 = .ok (.iconst 0, 1) := by decide +kernel
theorem dX4_write_28 : decode cX4_write 28 = .ok (.istore_n 3, 1) := by decide +kernel
theorem dX4_write_29 : decode cX4_write 29 = .ok (.iload_n 3, 1) := by decide +kernel
theorem dX4_write_30 : decode cX4_write 30 = .ok (.bipush 6, 2) := by decide +kernel
theorem dX4_write_32 : decode cX4_write 32 = .ok (.if_icmp .ge 38, 3) := by decide +kernel
theorem dX4_write_35 : decode cX4_write 35 = .ok (.aload_n 1, 1) := by decide +kernel
theorem dX4_write_36 : decode cX4_write 36 = .ok (.getfield 32, 3) := by decide +kernel
theorem dX4_write_39 : decode cX4_write 39 = .ok (.iload_n 3, 1) := by decide +kernel
theorem dX4_write_40 : decode cX4_write 40 = .ok (.invokestatic 35, 3) := by decide +kernel
theorem dX4_write_43 : decode cX4_write 43 = .ok (.ifCond .eq 21, 3) := by decide +kernel
theorem dX4_write_46 : decode cX4_write 46 = .ok (.iload_n 2, 1) := by decide +kernel
theorem dX4_write_47 : decode cX4_write 47 = .ok (.ifCond .ne 9, 3) := by decide +kernel
theorem dX4_write_50 : decode cX4_write 50 = .ok (.aload_n 0, 1) := by decide +kernel
theorem dX4_write_51 : decode cX4_write 51 = .ok (.bipush 44, 2) := by decide +kernel
theorem dX4_write_53 : decode cX4_write 53 = .ok (.invokevirtual 19, 3) := by decide +kernel
theorem dX4_write_56 : decode cX4_write 56 = .ok (.iconst 0, 1) := by decide +kernel
theorem dX4_write_57 : decode cX4_write 57 = .ok (.istore_n 2, 1) := by decide +kernel
theorem dX4_write_58 : decode cX4_write 58 = .ok (.aload_n 0, 1) := by decide +kernel
theorem dX4_write_59 : decode cX4_write 59 = .ok (.aload_n 1, 1) := by decide +kernel
theorem dX4_write_60 : decode cX4_write 60 = .ok (.iload_n 3, 1) := by decide +kernel
theorem dX4_write_61 : decode cX4_write 61 = .ok (.invokevirtual 39, 3) := by decide +kernel
theorem dX4_write_64 : decode cX4_write 64 = .ok (.iinc 3 1, 3) := by decide +kernel
theorem dX4_write_67 : decode cX4_write 67 = .ok (.goto (-38), 3) := by decide +kernel
theorem dX4_write_70 : decode cX4_write 70 = .ok (.aload_n 0, 1) := by decide +kernel
theorem dX4_write_71 : decode cX4_write 71 = .ok (.bipush 59, 2) := by decide +kernel
theorem dX4_write_73 : decode cX4_write 73 = .ok (.invokevirtual 19, 3) := by decide +kernel
theorem dX4_write_76 : decode cX4_write 76 = .ok (.aload_n 0, 1) := by decide +kernel
theorem dX4_write_77 : decode cX4_write 77 = .ok (.aload_n 1, 1) := by decide +kernel
theorem dX4_write_78 : decode cX4_write 78 = .ok (.getfield 43, 3) := by decide +kernel
theorem dX4_write_81 : decode cX4_write 81 = .ok (.invokevirtual 28, 3) := by decide +kernel
theorem dX4_write_84 : decode cX4_write 84 = .ok (.return_, 1) := by decide +kernel
theorem dX4_putMember_0 : decode cX4_putMember 0 = .ok (.aload_n 0, 1) := by decide +kernel
theorem dX4_putMember_1 : decode cX4_putMember 1 = .ok (.iload_n 2, 1) := by decide +kernel
theorem dX4_putMember_2 : decode cX4_putMember 2 = .ok (.invokevirtual 28, 3) := by decide +kernel
theorem dX4_putMember_5 : decode cX4_putMember 5 = .ok (.aload_n 1, 1) := by decide +kernel
theorem dX4_putMember_6 : decode cX4_putMember 6 = .ok (.getfield 46, 3) := by decide +kernel
theorem dX4_putMember_9 : decode cX4_putMember 9 = .ok (.iload_n 2, 1) := by decide +kernel
theorem dX4_putMember_10 : decode cX4_putMember 10 = .ok (.invokestatic 35, 3) := by decide +kernel
theorem dX4_putMember_13 : decode cX4_putMember 13 = .ok (.ifCond .eq 9, 3) := by decide +kernel
theorem dX4_putMember_16 : decode cX4_putMember 16 = .ok (.aload_n 0, 1) := by decide +kernel
theorem dX4_putMember_17 : decode cX4_putMember 17 = .ok (.bipush 33, 2) := by decide +kernel
theorem dX4_putMember_19 : decode cX4_putMember 19 = .ok (.invokevirtual 19, 3) := by decide +kernel
theorem dX4_putMember_22 : decode cX4_putMember 22 = .ok (.aload_n 1, 1) := by decide +kernel
theorem dX4_putMember_23 : decode cX4_putMember 23 = .ok (.getfield 49, 3) := by decide +kernel
theorem dX4_putMember_26 : decode cX4_putMember 26 = .ok (.iload_n 2, 1) := by decide +kernel
theorem dX4_putMember_27 : decode cX4_putMember 27 = .ok (.invokestatic 35, 3) := by decide +kernel
theorem dX4_putMember_30 : decode cX4_putMember 30 = .ok (.ifCond .ne 9, 3) := by decide +kernel
theorem dX4_putMember_33 : decode cX4_putMember 33 = .ok (.aload_n 0, 1) := by decide +kernel
theorem dX4_putMember_34 : decode cX4_putMember 34 = .ok (.bipush 63, 2) := by decide +kernel
theorem dX4_putMember_36 : decode cX4_putMember 36 = .ok (.invokevirtual 19, 3) := by decide +kernel
theorem dX4_putMember_39 : decode cX4_putMember 39 = .ok (.return_, 1) := by decide +kernel
theorem dX4_putNumber_0 : decode cX4_putNumber 0 = .ok (.iconst 1, 1) := by decide +kernel
theorem dX4_putNumber_1 : decode cX4_putNumber 1 = .ok (.istore_n 2, 1) := by decide +kernel
theorem dX4_putNumber_2 : decode cX4_putNumber 2 = .ok (.iload_n 1, 1) := by decide +kernel
theorem dX4_putNumber_3 : decode cX4_putNumber 3 = .ok (.bipush 10, 2) := by decide +kernel
theorem dX4_putNumber_5 : decode cX4_putNumber 5 = .ok (.idiv, 1) := by decide +kernel
theorem dX4_putNumber_6 : decode cX4_putNumber 6 = .ok (.istore_n 3, 1) := by decide +kernel
theorem dX4_putNumber_7 : decode cX4_putNumber 7 = .ok (.iload_n 3, 1) := by decide +kernel
theorem dX4_putNumber_8 : decode cX4_putNumber 8 = .ok (.ifCond .le 16, 3) := by decide +kernel
theorem dX4_putNumber_11 : decode cX4_putNumber 11 = .ok (.iload_n 2, 1) := by decide +kernel
theorem dX4_putNumber_12 : decode cX4_putNumber 12 = .ok (.bipush 10, 2) := by decide +kernel
theorem dX4_putNumber_14 : decode cX4_putNumber 14 = .ok (.imul, 1) := by decide +kernel
theorem dX4_putNumber_15 : decode cX4_putNumber 15 = .ok (.istore_n 2, 1) := by decide +kernel
theorem dX4_putNumber_16 : decode cX4_putNumber 16 = .ok (.iload_n 3, 1) := by decide +kernel
theorem dX4_putNumber_17 : decode cX4_putNumber 17 = .ok (.bipush 10, 2) := by decide +kernel
theorem dX4_putNumber_19 : decode cX4_putNumber 19 = .ok (.idiv, 1) := by decide +kernel
theorem dX4_putNumber_20 : decode cX4_putNumber 20 = .ok (.istore_n 3, 1) := by decide +kernel
theorem dX4_putNumber_21 : decode cX4_putNumber 21 = .ok (.goto (-14), 3) := by decide +kernel
theorem dX4_putNumber_24 : decode cX4_putNumber 24 = .ok (.iconst 0, 1) := by decide +kernel
theorem dX4_putNumber_25 : decode cX4_putNumber 25 = .ok (.istore_n 3, 1) := by decide +kernel
theorem dX4_putNumber_26 : decode cX4_putNumber 26 = .ok (.iload_n 3, 1) := by decide +kernel
theorem dX4_putNumber_27 : decode cX4_putNumber 27 = .ok (.bipush 10, 2) := by decide +kernel
theorem dX4_putNumber_29 : decode cX4_putNumber 29 = .ok (.if_icmp .ge 32, 3) := by decide +kernel
theorem dX4_putNumber_32 : decode cX4_putNumber 32 = .ok (.iload_n 2, 1) := by decide +kernel
theorem dX4_putNumber_33 : decode cX4_putNumber 33 = .ok (.ifCond .le 28, 3) := by decide +kernel
theorem dX4_putNumber_36 : decode cX4_putNumber 36 = .ok (.aload_n 0, 1) := by decide +kernel
theorem dX4_putNumber_37 : decode cX4_putNumber 37 = .ok (.bipush 48, 2) := by decide +kernel
theorem dX4_putNumber_39 : decode cX4_putNumber 39 = .ok (.iload_n 1, 1) := by decide +kernel
theorem dX4_putNumber_40 : decode cX4_putNumber 40 = .ok (.iload_n 2, 1) := by decide +kernel
theorem dX4_putNumber_41 : decode cX4_putNumber 41 = .ok (.idiv, 1) := by decide +kernel
theorem dX4_putNumber_42 : decode cX4_putNumber 42 = .ok (.bipush 10, 2) := by decide +kernel
theorem dX4_putNumber_44 : decode cX4_putNumber 44 = .ok (.irem, 1) := by decide +kernel
theorem dX4_putNumber_45 : decode cX4_putNumber 45 = .ok (.iadd, 1) := by decide +kernel
theorem dX4_putNumber_46 : decode cX4_putNumber 46 = .ok (.i2c, 1) := by decide +kernel
theorem dX4_putNumber_47 : decode cX4_putNumber 47 = .ok (.invokevirtual 19, 3) := by decide +kernel
theorem dX4_putNumber_50 : decode cX4_putNumber 50 = .ok (.iload_n 2, 1) := by decide +kernel
theorem dX4_putNumber_51 : decode cX4_putNumber 51 = .ok (.bipush 10, 2) := by decide +kernel
theorem dX4_putNumber_53 : decode cX4_putNumber 53 = .ok (.idiv, 1) := by decide +kernel
theorem dX4_putNumber_54 : decode cX4_putNumber 54 = .ok (.istore_n 2, 1) := by decide +kernel
theorem dX4_putNumber_55 : decode cX4_putNumber 55 = .ok (.iinc 3 1, 3) := by decide +kernel
theorem dX4_putNumber_58 : decode cX4_putNumber 58 = .ok (.goto (-32), 3) := by decide +kernel
theorem dX4_putNumber_61 : decode cX4_putNumber 61 = .ok (.return_, 1) := by decide +kernel
theorem dX4_put_0 : decode cX4_put 0 = .ok (.aload_n 0, 1) := by decide +kernel
theorem dX4_put_1 : decode cX4_put 1 = .ok (.getfield 15, 3) := by decide +kernel
theorem dX4_put_4 : decode cX4_put 4 = .ok (.aload_n 0, 1) := by decide +kernel
theorem dX4_put_5 : decode cX4_put 5 = .ok (.getfield 9, 3) := by decide +kernel
theorem dX4_put_8 : decode cX4_put 8 = .ok (.arraylength, 1) := by decide +kernel
theorem dX4_put_9 : decode cX4_put 9 = .ok (.if_icmp .ge 23, 3) := by decide +kernel
theorem dX4_put_12 : decode cX4_put 12 = .ok (.aload_n 0, 1) := by decide +kernel
theorem dX4_put_13 : decode cX4_put 13 = .ok (.getfield 9, 3) := by decide +kernel
theorem dX4_put_16 : decode cX4_put 16 = .ok (.aload_n 0, 1) := by decide +kernel
theorem dX4_put_17 : decode cX4_put 17 = .ok (.getfield 15, 3) := by decide +kernel
theorem dX4_put_20 : decode cX4_put 20 = .ok (.iload_n 1, 1) := by decide +kernel
theorem dX4_put_21 : decode cX4_put 21 = .ok (.castore, 1) := by decide +kernel
theorem dX4_put_22 : decode cX4_put 22 = .ok (.aload_n 0, 1) := by decide +kernel
theorem dX4_put_23 : decode cX4_put 23 = .ok (.dup, 1) := by decide +kernel
theorem dX4_put_24 : decode cX4_put 24 = .ok (.getfield 15, 3) := by decide +kernel
theorem dX4_put_27 : decode cX4_put 27 = .ok (.iconst 1, 1) := by decide +kernel
theorem dX4_put_28 : decode cX4_put 28 = .ok (.iadd, 1) := by decide +kernel
theorem dX4_put_29 : decode cX4_put 29 = .ok (.putfield 15, 3) := by decide +kernel
theorem dX4_put_32 : decode cX4_put 32 = .ok (.return_, 1) := by decide +kernel
theorem dX4_signAt_0 : decode cX4_signAt 0 = .ok (.iload_n 1, 1) := by decide +kernel
theorem dX4_signAt_1 : decode cX4_signAt 1 = .ok (.ifCond .lt 29, 3) := by decide +kernel
theorem dX4_signAt_4 : decode cX4_signAt 4 = .ok (.iload_n 1, 1) := by decide +kernel
theorem dX4_signAt_5 : decode cX4_signAt 5 = .ok (.aload_n 0, 1) := by decide +kernel
theorem dX4_signAt_6 : decode cX4_signAt 6 = .ok (.getfield 15, 3) := by decide +kernel
theorem dX4_signAt_9 : decode cX4_signAt 9 = .ok (.if_icmp .ge 21, 3) := by decide +kernel
theorem dX4_signAt_12 : decode cX4_signAt 12 = .ok (.iload_n 1, 1) := by decide +kernel
theorem dX4_signAt_13 : decode cX4_signAt 13 = .ok (.aload_n 0, 1) := by decide +kernel
theorem dX4_signAt_14 : decode cX4_signAt 14 = .ok (.getfield 9, 3) := by decide +kernel
theorem dX4_signAt_17 : decode cX4_signAt 17 = .ok (.arraylength, 1) := by decide +kernel
theorem dX4_signAt_18 : decode cX4_signAt 18 = .ok (.if_icmp .ge 12, 3) := by decide +kernel
theorem dX4_signAt_21 : decode cX4_signAt 21 = .ok (.aload_n 0, 1) := by decide +kernel
theorem dX4_signAt_22 : decode cX4_signAt 22 = .ok (.getfield 9, 3) := by decide +kernel
theorem dX4_signAt_25 : decode cX4_signAt 25 = .ok (.iload_n 1, 1) := by decide +kernel
theorem dX4_signAt_26 : decode cX4_signAt 26 = .ok (.caload, 1) := by decide +kernel
theorem dX4_signAt_27 : decode cX4_signAt 27 = .ok (.goto 4, 3) := by decide +kernel
theorem dX4_signAt_30 : decode cX4_signAt 30 = .ok (.iconst (-1), 1) := by decide +kernel
theorem dX4_signAt_31 : decode cX4_signAt 31 = .ok (.ireturn, 1) := by decide +kernel
theorem dX5_init_0 : decode cX5_init 0 = .ok (.aload_n 0, 1) := by decide +kernel
theorem dX5_init_1 : decode cX5_init 1 = .ok (.invokespecial 3, 3) := by decide +kernel
theorem dX5_init_4 : decode cX5_init 4 = .ok (.aload_n 0, 1) := by decide +kernel
theorem dX5_init_5 : decode cX5_init 5 = .ok (.bipush 16, 2) := by decide +kernel
theorem dX5_init_7 : decode cX5_init 7 = .ok (.anewarray 9, 3) := by decide +kernel
theorem dX5_init_10 : decode cX5_init 10 = .ok (.putfield 11, 3) := by decide +kernel
theorem dX5_init_13 : decode cX5_init 13 = .ok (.return_, 1) := by decide +kernel
theorem dX5_isFull_0 : decode cX5_isFull 0 = .ok (.aload_n 0, 1) := by decide +kernel
theorem dX5_isFull_1 : decode cX5_isFull 1 = .ok (.getfield 17, 3) := by decide +kernel
theorem dX5_isFull_4 : decode cX5_isFull 4 = .ok (.bipush 16, 2) := by decide +kernel
theorem dX5_isFull_6 : decode cX5_isFull 6 = .ok (.if_icmp .lt 7, 3) := by decide +kernel
theorem dX5_isFull_9 : decode cX5_isFull 9 = .ok (.iconst 1, 1) := by decide +kernel
theorem dX5_isFull_10 : decode cX5_isFull 10 = .ok (.goto 4, 3) := by decide +kernel
theorem dX5_isFull_13 : decode cX5_isFull 13 = .ok (.iconst 0, 1) := by decide +kernel
theorem dX5_isFull_14 : decode cX5_isFull 14 = .ok (.ireturn, 1) := by decide +kernel
theorem dX5_forget_0 : decode cX5_forget 0 = .ok (.aload_n 0, 1) := by decide +kernel
theorem dX5_forget_1 : decode cX5_forget 1 = .ok (.iconst 0, 1) := by decide +kernel
theorem dX5_forget_2 : decode cX5_forget 2 = .ok (.putfield 17, 3) := by decide +kernel
theorem dX5_forget_5 : decode cX5_forget 5 = .ok (.return_, 1) := by decide +kernel
theorem dX5_keep_0 : decode cX5_keep 0 = .ok (.aload_n 0, 1) := by decide +kernel
theorem dX5_keep_1 : decode cX5_keep 1 = .ok (.aload_n 0, 1) := by decide +kernel
theorem dX5_keep_2 : decode cX5_keep 2 = .ok (.getfield 17, 3) := by decide +kernel
theorem dX5_keep_5 : decode cX5_keep 5 = .ok (.aload_n 1, 1) := by decide +kernel
theorem dX5_keep_6 : decode cX5_keep 6 = .ok (.invokevirtual 21, 3) := by decide +kernel
theorem dX5_keep_9 : decode cX5_keep 9 = .ok (.ifCond .eq 13, 3) := by decide +kernel
theorem dX5_keep_12 : decode cX5_keep 12 = .ok (.aload_n 0, 1) := by decide +kernel
theorem dX5_keep_13 : decode cX5_keep 13 = .ok (.dup, 1) := by decide +kernel
theorem dX5_keep_14 : decode cX5_keep 14 = .ok (.getfield 17, 3) := by decide +kernel
theorem dX5_keep_17 : decode cX5_keep 17 = .ok (.iconst 1, 1) := by decide +kernel
theorem dX5_keep_18 : decode cX5_keep 18 = .ok (.iadd, 1) := by decide +kernel
theorem dX5_keep_19 : decode cX5_keep 19 = .ok (.putfield 17, 3) := by decide +kernel
theorem dX5_keep_22 : decode cX5_keep 22 = .ok (.return_, 1) := by decide +kernel
theorem dX5_giveBack_0 : decode cX5_giveBack 0 = .ok (.aload_n 0, 1) := by decide +kernel
theorem dX5_giveBack_1 : decode cX5_giveBack 1 = .ok (.getfield 17, 3) := by decide +kernel
theorem dX5_giveBack_4 : decode cX5_giveBack 4 = .ok (.ifCond .le 15, 3) := by decide +kernel
theorem dX5_giveBack_7 : decode cX5_giveBack 7 = .ok (.aload_n 0, 1) := by decide +kernel
theorem dX5_giveBack_8 : decode cX5_giveBack 8 = .ok (.getfield 17, 3) := by decide +kernel
theorem dX5_giveBack_11 : decode cX5_giveBack 11 = .ok (.aload_n 0, 1) := by decide +kernel
theorem dX5_giveBack_12 : decode cX5_giveBack 12 = .ok (.getfield 11, 3) := by decide +kernel
theorem dX5_giveBack_15 : decode cX5_giveBack 15 = .ok (.arraylength, 1) := by decide +kernel
theorem dX5_giveBack_16 : decode cX5_giveBack 16 = .ok (.if_icmp .le 5, 3) := by decide +kernel
theorem dX5_giveBack_19 : decode cX5_giveBack 19 = .ok (.iconst 0, 1) := by decide +kernel
theorem dX5_giveBack_20 : decode cX5_giveBack 20 = .ok (.ireturn, 1) := by decide +kernel
theorem dX5_giveBack_21 : decode cX5_giveBack 21 = .ok (.aload_n 0, 1) := by decide +kernel
theorem dX5_giveBack_22 : decode cX5_giveBack 22 = .ok (.dup, 1) := by decide +kernel
theorem dX5_giveBack_23 : decode cX5_giveBack 23 = .ok (.getfield 17, 3) := by decide +kernel
theorem dX5_giveBack_26 : decode cX5_giveBack 26 = .ok (.iconst 1, 1) := by decide +kernel
theorem dX5_giveBack_27 : decode cX5_giveBack 27 = .ok (.isub, 1) := by decide +kernel
theorem dX5_giveBack_28 : decode cX5_giveBack 28 = .ok (.putfield 17, 3) := by decide +kernel
theorem dX5_giveBack_31 : decode cX5_giveBack 31 = .ok (.aload_n 0, 1) := by decide +kernel
theorem dX5_giveBack_32 : decode cX5_giveBack 32 = .ok (.getfield 11, 3) := by decide +kernel
theorem dX5_giveBack_35 : decode cX5_giveBack 35 = .ok (.aload_n 0, 1) := by decide +kernel
theorem dX5_giveBack_36 : decode cX5_giveBack 36 = .ok (.getfield 17, 3) := by decide +kernel
theorem dX5_giveBack_39 : decode cX5_giveBack 39 = .ok (.aaload, 1) := by decide +kernel
theorem dX5_giveBack_40 : decode cX5_giveBack 40 = .ok (.astore_n 2, 1) := by decide +kernel
theorem dX5_giveBack_41 : decode cX5_giveBack 41 = .ok (.aload_n 2, 1) := by decide +kernel
theorem dX5_giveBack_42 : decode cX5_giveBack 42 = .ok (.ifnull 8, 3) := by decide +kernel
theorem dX5_giveBack_45 : decode cX5_giveBack 45 = .ok (.aload_n 1, 1) := by decide +kernel
theorem dX5_giveBack_46 : decode cX5_giveBack 46 = .ok (.aload_n 2, 1) := by decide +kernel
theorem dX5_giveBack_47 : decode cX5_giveBack 47 = .ok (.invokevirtual 25, 3) := by decide +kernel
theorem dX5_giveBack_50 : decode cX5_giveBack 50 = .ok (.iconst 1, 1) := by decide +kernel
theorem dX5_giveBack_51 : decode cX5_giveBack 51 = .ok (.ireturn, 1) := by decide +kernel
theorem dX5_copy_0 : decode cX5_copy 0 = .ok (.iconst 0, 1) := by decide +kernel
theorem dX5_copy_1 : decode cX5_copy 1 = .ok (.istore_n 2, 1) := by decide +kernel
theorem dX5_copy_2 : decode cX5_copy 2 = .ok (.iload_n 2, 1) := by decide +kernel
theorem dX5_copy_3 : decode cX5_copy 3 = .ok (.aload_n 1, 1) := by decide +kernel
theorem dX5_copy_4 : decode cX5_copy 4 = .ok (.getfield 17, 3) := by decide +kernel
theorem dX5_copy_7 : decode cX5_copy 7 = .ok (.if_icmp .ge 36, 3) := by decide +kernel
theorem dX5_copy_10 : decode cX5_copy 10 = .ok (.iload_n 2, 1) := by decide +kernel
theorem dX5_copy_11 : decode cX5_copy 11 = .ok (.aload_n 1, 1) := by decide +kernel
theorem dX5_copy_12 : decode cX5_copy 12 = .ok (.getfield 11, 3) := by decide +kernel
theorem dX5_copy_15 : decode cX5_copy 15 = .ok (.arraylength, 1) := by decide +kernel
theorem dX5_copy_16 : decode cX5_copy 16 = .ok (.if_icmp .ge 27, 3) := by decide +kernel
theorem dX5_copy_19 : decode cX5_copy 19 = .ok (.aload_n 1, 1) := by decide +kernel
theorem dX5_copy_20 : decode cX5_copy 20 = .ok (.getfield 11, 3) := by decide +kernel
theorem dX5_copy_23 : decode cX5_copy 23 = .ok (.iload_n 2, 1) := by decide +kernel
theorem dX5_copy_24 : decode cX5_copy 24 = .ok (.aaload, 1) := by decide +kernel
theorem dX5_copy_25 : decode cX5_copy 25 = .ok (.astore_n 3, 1) := by decide +kernel
theorem dX5_copy_26 : decode cX5_copy 26 = .ok (.aload_n 3, 1) := by decide +kernel
theorem dX5_copy_27 : decode cX5_copy 27 = .ok (.ifnull 10, 3) := by decide +kernel
theorem dX5_copy_30 : decode cX5_copy 30 = .ok (.aload_n 0, 1) := by decide +kernel
theorem dX5_copy_31 : decode cX5_copy 31 = .ok (.iload_n 2, 1) := by decide +kernel
theorem dX5_copy_32 : decode cX5_copy 32 = .ok (.aload_n 3, 1) := by decide +kernel
theorem dX5_copy_33 : decode cX5_copy 33 = .ok (.invokevirtual 21, 3) := by decide +kernel
theorem dX5_copy_36 : decode cX5_copy 36 = .ok (.pop, 1) := by decide +kernel
theorem dX5_copy_37 : decode cX5_copy 37 = .ok (.iinc 2 1, 3) := by decide +kernel
theorem dX5_copy_40 : decode cX5_copy 40 = .ok (.goto (-38), 3) := by decide +kernel
theorem dX5_copy_43 : decode cX5_copy 43 = .ok (.aload_n 0, 1) := by decide +kernel
theorem dX5_copy_44 : decode cX5_copy 44 = .ok (.aload_n 1, 1) := by decide +kernel
theorem dX5_copy_45 : decode cX5_copy 45 = .ok (.getfield 17, 3) := by decide +kernel
theorem dX5_copy_48 : decode cX5_copy 48 = .ok (.putfield 17, 3) := by decide +kernel
theorem dX5_copy_51 : decode cX5_copy 51 = .ok (.return_, 1) := by decide +kernel
theorem dX5_put_0 : decode cX5_put 0 = .ok (.iload_n 1, 1) := by decide +kernel
theorem dX5_put_1 : decode cX5_put 1 = .ok (.ifCond .lt 12, 3) := by decide +kernel
theorem dX5_put_4 : decode cX5_put 4 = .ok (.iload_n 1, 1) := by decide +kernel
theorem dX5_put_5 : decode cX5_put 5 = .ok (.aload_n 0, 1) := by decide +kernel
theorem dX5_put_6 : decode cX5_put 6 = .ok (.getfield 11, 3) := by decide +kernel
theorem dX5_put_9 : decode cX5_put 9 = .ok (.arraylength, 1) := by decide +kernel
theorem dX5_put_10 : decode cX5_put 10 = .ok (.if_icmp .lt 5, 3) := by decide +kernel
theorem dX5_put_13 : decode cX5_put 13 = .ok (.iconst 0, 1) := by decide +kernel
theorem dX5_put_14 : decode cX5_put 14 = .ok (.ireturn, 1) := by decide +kernel
theorem dX5_put_15 : decode cX5_put 15 = .ok (.aload_n 0, 1) := by decide +kernel
theorem dX5_put_16 : decode cX5_put 16 = .ok (.getfield 11, 3) := by decide +kernel
theorem dX5_put_19 : decode cX5_put 19 = .ok (.iload_n 1, 1) := by decide +kernel
theorem dX5_put_20 : decode cX5_put 20 = .ok (.aaload, 1) := by decide +kernel
theorem dX5_put_21 : decode cX5_put 21 = .ok (.astore_n 3, 1) := by decide +kernel
theorem dX5_put_22 : decode cX5_put 22 = .ok (.aload_n 3, 1) := by decide +kernel
theorem dX5_put_23 : decode cX5_put 23 = .ok (.ifnonnull 18, 3) := by decide +kernel
theorem dX5_put_26 : decode cX5_put 26 = .ok (.new 9, 3) := by decide +kernel
theorem dX5_put_29 : decode cX5_put 29 = .ok (.dup, 1) := by decide +kernel
theorem dX5_put_30 : decode cX5_put 30 = .ok (.invokespecial 29, 3) := by decide +kernel
theorem dX5_put_33 : decode cX5_put 33 = .ok (.astore_n 3, 1) := by decide +kernel
theorem dX5_put_34 : decode cX5_put 34 = .ok (.aload_n 0, 1) := by decide +kernel
theorem dX5_put_35 : decode cX5_put 35 = .ok (.getfield 11, 3) := by decide +kernel
theorem dX5_put_38 : decode cX5_put 38 = .ok (.iload_n 1, 1) := by decide +kernel
theorem dX5_put_39 : decode cX5_put 39 = .ok (.aload_n 3, 1) := by decide +kernel
theorem dX5_put_40 : decode cX5_put 40 = .ok (.aastore, 1) := by decide +kernel
theorem dX5_put_41 : decode cX5_put 41 = .ok (.aload_n 3, 1) := by decide +kernel
theorem dX5_put_42 : decode cX5_put 42 = .ok (.aload_n 2, 1) := by decide +kernel
theorem dX5_put_43 : decode cX5_put 43 = .ok (.invokevirtual 25, 3) := by decide +kernel
theorem dX5_put_46 : decode cX5_put 46 = .ok (.iconst 1, 1) := by decide +kernel
theorem dX5_put_47 : decode cX5_put 47 = .ok (.ireturn, 1) := by decide +kernel
theorem dX6_init_0 : decode cX6_init 0 = .ok (.aload_n 0, 1) := by decide +kernel
theorem dX6_init_1 : decode cX6_init 1 = .ok (.invokespecial 3, 3) := by decide +kernel
theorem dX6_init_4 : decode cX6_init 4 = .ok (.aload_n 0, 1) := by decide +kernel
theorem dX6_init_5 : decode cX6_init 5 = .ok (.bipush 6, 2) := by decide +kernel
theorem dX6_init_7 : decode cX6_init 7 = .ok (.newarray .int, 2) := by decide +kernel
theorem dX6_init_9 : decode cX6_init 9 = .ok (.putfield 9, 3) := by decide +kernel
theorem dX6_init_12 : decode cX6_init 12 = .ok (.aload_n 0, 1) := by decide +kernel
theorem dX6_init_13 : decode cX6_init 13 = .ok (.aload_n 1, 1) := by decide +kernel
theorem dX6_init_14 : decode cX6_init 14 = .ok (.putfield 15, 3) := by decide +kernel
theorem dX6_init_17 : decode cX6_init 17 = .ok (.aload_n 0, 1) := by decide +kernel
theorem dX6_init_18 : decode cX6_init 18 = .ok (.aload_n 2, 1) := by decide +kernel
theorem dX6_init_19 : decode cX6_init 19 = .ok (.putfield 19, 3) := by decide +kernel
theorem dX6_init_22 : decode cX6_init 22 = .ok (.return_, 1) := by decide +kernel
theorem dX6_limit_0 : decode cX6_limit 0 = .ok (.aload_n 0, 1) := by decide +kernel
theorem dX6_limit_1 : decode cX6_limit 1 = .ok (.getfield 15, 3) := by decide +kernel
theorem dX6_limit_4 : decode cX6_limit 4 = .ok (.getfield 23, 3) := by decide +kernel
theorem dX6_limit_7 : decode cX6_limit 7 = .ok (.ireturn, 1) := by decide +kernel
theorem dX6_members_0 : decode cX6_members 0 = .ok (.aload_n 0, 1) := by decide +kernel
theorem dX6_members_1 : decode cX6_members 1 = .ok (.getfield 15, 3) := by decide +kernel
theorem dX6_members_4 : decode cX6_members 4 = .ok (.getfield 29, 3) := by decide +kernel
theorem dX6_members_7 : decode cX6_members 7 = .ok (.ireturn, 1) := by decide +kernel
theorem dX6_partings_0 : decode cX6_partings 0 = .ok (.iconst 1, 1) := by decide +kernel
theorem dX6_partings_1 : decode cX6_partings 1 = .ok (.aload_n 0, 1) := by decide +kernel
theorem dX6_partings_2 : decode cX6_partings 2 = .ok (.getfield 15, 3) := by decide +kernel
theorem dX6_partings_5 : decode cX6_partings 5 = .ok (.getfield 29, 3) := by decide +kernel
theorem dX6_partings_8 : decode cX6_partings 8 = .ok (.ishl, 1) := by decide +kernel
theorem dX6_partings_9 : decode cX6_partings 9 = .ok (.ireturn, 1) := by decide +kernel
theorem dX6_weigh_0 : decode cX6_weigh 0 = .ok (.aload_n 1, 1) := by decide +kernel
theorem dX6_weigh_1 : decode cX6_weigh 1 = .ok (.getfield 32, 3) := by decide +kernel
theorem dX6_weigh_4 : decode cX6_weigh 4 = .ok (.invokestatic 37, 3) := by decide +kernel
theorem dX6_weigh_7 : decode cX6_weigh 7 = .ok (.istore_n 2, 1) := by decide +kernel
theorem dX6_weigh_8 : decode cX6_weigh 8 = .ok (.aload_n 0, 1) := by decide +kernel
theorem dX6_weigh_9 : decode cX6_weigh 9 = .ok (.iconst 0, 1) := by decide +kernel
theorem dX6_weigh_10 : decode cX6_weigh 10 = .ok (.putfield 43, 3) := by decide +kernel
theorem dX6_weigh_13 : decode cX6_weigh 13 = .ok (.iconst 0, 1) := by decide +kernel
theorem dX6_weigh_14 : decode cX6_weigh 14 = .ok (.istore_n 3, 1) := by decide +kernel
theorem dX6_weigh_15 : decode cX6_weigh 15 = .ok (.iload_n 3, 1) := by decide +kernel
theorem dX6_weigh_16 : decode cX6_weigh 16 = .ok (.aload_n 0, 1) := by decide +kernel
theorem dX6_weigh_17 : decode cX6_weigh 17 = .ok (.getfield 15, 3) := by decide +kernel
theorem dX6_weigh_20 : decode cX6_weigh 20 = .ok (.getfield 29, 3) := by decide +kernel
theorem dX6_weigh_23 : decode cX6_weigh 23 = .ok (.if_icmp .ge 70, 3) := by decide +kernel
theorem dX6_weigh_26 : decode cX6_weigh 26 = .ok (.iload_n 3, 1) := by decide +kernel
theorem dX6_weigh_27 : decode cX6_weigh 27 = .ok (.bipush 6, 2) := by decide +kernel
theorem dX6_weigh_29 : decode cX6_weigh 29 = .ok (.if_icmp .ge 64, 3) := by decide +kernel
theorem dX6_weigh_32 : decode cX6_weigh 32 = .ok (.aload_n 0, 1) := by decide +kernel
theorem dX6_weigh_33 : decode cX6_weigh 33 = .ok (.getfield 9, 3) := by decide +kernel
theorem dX6_weigh_36 : decode cX6_weigh 36 = .ok (.iload_n 3, 1) := by decide +kernel
theorem dX6_weigh_37 : decode cX6_weigh 37 = .ok (.aload_n 0, 1) := by decide +kernel
theorem dX6_weigh_38 : decode cX6_weigh 38 = .ok (.getfield 19, 3) := by decide +kernel
theorem dX6_weigh_41 : decode cX6_weigh 41 = .ok (.iload_n 3, 1) := by decide +kernel
theorem dX6_weigh_42 : decode cX6_weigh 42 = .ok (.aload_n 1, 1) := by decide +kernel
theorem dX6_weigh_43 : decode cX6_weigh 43 = .ok (.getfield 46, 3) := by decide +kernel
theorem dX6_weigh_46 : decode cX6_weigh 46 = .ok (.iload_n 3, 1) := by decide +kernel
theorem dX6_weigh_47 : decode cX6_weigh 47 = .ok (.iaload, 1) := by decide +kernel
theorem dX6_weigh_48 : decode cX6_weigh 48 = .ok (.aload_n 1, 1) := by decide +kernel
theorem dX6_weigh_49 : decode cX6_weigh 49 = .ok (.getfield 49, 3) := by decide +kernel
theorem dX6_weigh_52 : decode cX6_weigh 52 = .ok (.iload_n 2, 1) := by decide +kernel
theorem dX6_weigh_53 : decode cX6_weigh 53 = .ok (.invokevirtual 52, 3) := by decide +kernel
theorem dX6_weigh_56 : decode cX6_weigh 56 = .ok (.iastore, 1) := by decide +kernel
theorem dX6_weigh_57 : decode cX6_weigh 57 = .ok (.aload_n 0, 1) := by decide +kernel
theorem dX6_weigh_58 : decode cX6_weigh 58 = .ok (.dup, 1) := by decide +kernel
theorem dX6_weigh_59 : decode cX6_weigh 59 = .ok (.getfield 43, 3) := by decide +kernel
theorem dX6_weigh_62 : decode cX6_weigh 62 = .ok (.aload_n 1, 1) := by decide +kernel
theorem dX6_weigh_63 : decode cX6_weigh 63 = .ok (.getfield 32, 3) := by decide +kernel
theorem dX6_weigh_66 : decode cX6_weigh 66 = .ok (.iload_n 3, 1) := by decide +kernel
theorem dX6_weigh_67 : decode cX6_weigh 67 = .ok (.invokestatic 58, 3) := by decide +kernel
theorem dX6_weigh_70 : decode cX6_weigh 70 = .ok (.ifCond .eq 12, 3) := by decide +kernel
theorem dX6_weigh_73 : decode cX6_weigh 73 = .ok (.aload_n 0, 1) := by decide +kernel
theorem dX6_weigh_74 : decode cX6_weigh 74 = .ok (.getfield 9, 3) := by decide +kernel
theorem dX6_weigh_77 : decode cX6_weigh 77 = .ok (.iload_n 3, 1) := by decide +kernel
theorem dX6_weigh_78 : decode cX6_weigh 78 = .ok (.iaload, 1) := by decide +kernel
theorem dX6_weigh_79 : decode cX6_weigh 79 = .ok (.goto 4, 3) := by decide +kernel
theorem dX6_weigh_82 : decode cX6_weigh 82 = .ok (.iconst 0, 1) := by decide +kernel
theorem dX6_weigh_83 : decode cX6_weigh 83 = .ok (.iadd, 1) := by decide +kernel
theorem dX6_weigh_84 : decode cX6_weigh 84 = .ok (.putfield 43, 3) := by decide +kernel
theorem dX6_weigh_87 : decode cX6_weigh 87 = .ok (.iinc 3 1, 3) := by decide +kernel
theorem dX6_weigh_90 : decode cX6_weigh 90 = .ok (.goto (-75), 3) := by decide +kernel
theorem dX6_weigh_93 : decode cX6_weigh 93 = .ok (.return_, 1) := by decide +kernel
theorem dX6_hasMoreThanHalf_0 : decode cX6_hasMoreThanHalf 0 = .ok (.iconst 0, 1) := by decide +kernel
theorem dX6_hasMoreThanHalf_1 : decode cX6_hasMoreThanHalf 1 = .ok (.istore_n 2, 1) := by decide +kernel
theorem dX6_hasMoreThanHalf_2 : decode cX6_hasMoreThanHalf 2 = .ok (.iconst 0, 1) := by decide +kernel
theorem dX6_hasMoreThanHalf_3 : decode cX6_hasMoreThanHalf 3 = .ok (.istore_n 3, 1) := by decide +kernel
theorem dX6_hasMoreThanHalf_4 : decode cX6_hasMoreThanHalf 4 = .ok (.iload_n 3, 1) := by decide +kernel
theorem dX6_hasMoreThanHalf_5 : decode cX6_hasMoreThanHalf 5 = .ok (.bipush 6, 2) := by decide +kernel
theorem dX6_hasMoreThanHalf_7 : decode cX6_hasMoreThanHalf 7 = .ok (.if_icmp .ge 30, 3) := by decide +kernel
theorem dX6_hasMoreThanHalf_10 : decode cX6_hasMoreThanHalf 10 = .ok (.iload_n 2, 1) := by decide +kernel
theorem dX6_hasMoreThanHalf_11 : decode cX6_hasMoreThanHalf 11 = .ok (.iload_n 1, 1) := by decide +kernel
theorem dX6_hasMoreThanHalf_12 : decode cX6_hasMoreThanHalf 12 = .ok (.iload_n 3, 1) := by decide +kernel
theorem dX6_hasMoreThanHalf_13 : decode cX6_hasMoreThanHalf 13 = .ok (.invokestatic 58, 3) := by decide +kernel
theorem dX6_hasMoreThanHalf_16 : decode cX6_hasMoreThanHalf 16 = .ok (.ifCond .eq 12, 3) := by decide +kernel
theorem dX6_hasMoreThanHalf_19 : decode cX6_hasMoreThanHalf 19 = .ok (.aload_n 0, 1) := by decide +kernel
theorem dX6_hasMoreThanHalf_20 : decode cX6_hasMoreThanHalf 20 = .ok (.getfield 9, 3) := by decide +kernel
theorem dX6_hasMoreThanHalf_23 : decode cX6_hasMoreThanHalf 23 = .ok (.iload_n 3, 1) := by decide +kernel
theorem dX6_hasMoreThanHalf_24 : decode cX6_hasMoreThanHalf 24 = .ok (.iaload, 1) := by decide +kernel
theorem dX6_hasMoreThanHalf_25 : decode cX6_hasMoreThanHalf 25 = .ok (.goto 4, 3) := by decide +kernel
theorem dX6_hasMoreThanHalf_28 : decode cX6_hasMoreThanHalf 28 = .ok (.iconst 0, 1) := by decide +kernel
theorem dX6_hasMoreThanHalf_29 : decode cX6_hasMoreThanHalf 29 = .ok (.iadd, 1) := by decide +kernel
theorem dX6_hasMoreThanHalf_30 : decode cX6_hasMoreThanHalf 30 = .ok (.istore_n 2, 1) := by decide +kernel
theorem dX6_hasMoreThanHalf_31 : decode cX6_hasMoreThanHalf 31 = .ok (.iinc 3 1, 3) := by decide +kernel
theorem dX6_hasMoreThanHalf_34 : decode cX6_hasMoreThanHalf 34 = .ok (.goto (-30), 3) := by decide +kernel
theorem dX6_hasMoreThanHalf_37 : decode cX6_hasMoreThanHalf 37 = .ok (.iconst 2, 1) := by decide +kernel
theorem dX6_hasMoreThanHalf_38 : decode cX6_hasMoreThanHalf 38 = .ok (.iload_n 2, 1) := by decide +kernel
theorem dX6_hasMoreThanHalf_39 : decode cX6_hasMoreThanHalf 39 = .ok (.imul, 1) := by decide +kernel
theorem dX6_hasMoreThanHalf_40 : decode cX6_hasMoreThanHalf 40 = .ok (.aload_n 0, 1) := by decide +kernel
theorem dX6_hasMoreThanHalf_41 : decode cX6_hasMoreThanHalf 41 = .ok (.getfield 43, 3) := by decide +kernel
theorem dX6_hasMoreThanHalf_44 : decode cX6_hasMoreThanHalf 44 = .ok (.if_icmp .le 7, 3) := by decide +kernel
theorem dX6_hasMoreThanHalf_47 : decode cX6_hasMoreThanHalf 47 = .ok (.iconst 1, 1) := by decide +kernel
theorem dX6_hasMoreThanHalf_48 : decode cX6_hasMoreThanHalf 48 = .ok (.goto 4, 3) := by decide +kernel
theorem dX6_hasMoreThanHalf_51 : decode cX6_hasMoreThanHalf 51 = .ok (.iconst 0, 1) := by decide +kernel
theorem dX6_hasMoreThanHalf_52 : decode cX6_hasMoreThanHalf 52 = .ok (.ireturn, 1) := by decide +kernel
theorem dX6_partBy_0 : decode cX6_partBy 0 = .ok (.iload_n 2, 1) := by decide +kernel
theorem dX6_partBy_1 : decode cX6_partBy 1 = .ok (.istore 4, 2) := by decide +kernel
theorem dX6_partBy_3 : decode cX6_partBy 3 = .ok (.aload_n 0, 1) := by decide +kernel
theorem dX6_partBy_4 : decode cX6_partBy 4 = .ok (.iload_n 3, 1) := by decide +kernel
theorem dX6_partBy_5 : decode cX6_partBy 5 = .ok (.iload 4, 2) := by decide +kernel
theorem dX6_partBy_7 : decode cX6_partBy 7 = .ok (.iand, 1) := by decide +kernel
theorem dX6_partBy_8 : decode cX6_partBy 8 = .ok (.invokevirtual 62, 3) := by decide +kernel
theorem dX6_partBy_11 : decode cX6_partBy 11 = .ok (.ifCond .ne 21, 3) := by decide +kernel
theorem dX6_partBy_14 : decode cX6_partBy 14 = .ok (.iload_n 2, 1) := by decide +kernel
theorem dX6_partBy_15 : decode cX6_partBy 15 = .ok (.iconst (-1), 1) := by decide +kernel
theorem dX6_partBy_16 : decode cX6_partBy 16 = .ok (.ixor, 1) := by decide +kernel
theorem dX6_partBy_17 : decode cX6_partBy 17 = .ok (.istore 4, 2) := by decide +kernel
theorem dX6_partBy_19 : decode cX6_partBy 19 = .ok (.aload_n 0, 1) := by decide +kernel
theorem dX6_partBy_20 : decode cX6_partBy 20 = .ok (.iload_n 3, 1) := by decide +kernel
theorem dX6_partBy_21 : decode cX6_partBy 21 = .ok (.iload 4, 2) := by decide +kernel
theorem dX6_partBy_23 : decode cX6_partBy 23 = .ok (.iand, 1) := by decide +kernel
theorem dX6_partBy_24 : decode cX6_partBy 24 = .ok (.invokevirtual 62, 3) := by decide +kernel
theorem dX6_partBy_27 : decode cX6_partBy 27 = .ok (.ifCond .ne 5, 3) := by decide +kernel
theorem dX6_partBy_30 : decode cX6_partBy 30 = .ok (.iconst (-1), 1) := by decide +kernel
theorem dX6_partBy_31 : decode cX6_partBy 31 = .ok (.ireturn, 1) := by decide +kernel
theorem dX6_partBy_32 : decode cX6_partBy 32 = .ok (.iload 4, 2) := by decide +kernel
theorem dX6_partBy_34 : decode cX6_partBy 34 = .ok (.iload_n 3, 1) := by decide +kernel
theorem dX6_partBy_35 : decode cX6_partBy 35 = .ok (.aload_n 1, 1) := by decide +kernel
theorem dX6_partBy_36 : decode cX6_partBy 36 = .ok (.getfield 66, 3) := by decide +kernel
theorem dX6_partBy_39 : decode cX6_partBy 39 = .ok (.aload_n 1, 1) := by decide +kernel
theorem dX6_partBy_40 : decode cX6_partBy 40 = .ok (.getfield 69, 3) := by decide +kernel
theorem dX6_partBy_43 : decode cX6_partBy 43 = .ok (.iand, 1) := by decide +kernel
theorem dX6_partBy_44 : decode cX6_partBy 44 = .ok (.ior, 1) := by decide +kernel
theorem dX6_partBy_45 : decode cX6_partBy 45 = .ok (.iand, 1) := by decide +kernel
theorem dX6_partBy_46 : decode cX6_partBy 46 = .ok (.ireturn, 1) := by decide +kernel
theorem dX6_partNow_0 : decode cX6_partNow 0 = .ok (.aload_n 0, 1) := by decide +kernel
theorem dX6_partNow_1 : decode cX6_partNow 1 = .ok (.aload_n 1, 1) := by decide +kernel
theorem dX6_partNow_2 : decode cX6_partNow 2 = .ok (.invokevirtual 72, 3) := by decide +kernel
theorem dX6_partNow_5 : decode cX6_partNow 5 = .ok (.aload_n 0, 1) := by decide +kernel
theorem dX6_partNow_6 : decode cX6_partNow 6 = .ok (.aload_n 1, 1) := by decide +kernel
theorem dX6_partNow_7 : decode cX6_partNow 7 = .ok (.aload_n 1, 1) := by decide +kernel
theorem dX6_partNow_8 : decode cX6_partNow 8 = .ok (.getfield 75, 3) := by decide +kernel
theorem dX6_partNow_11 : decode cX6_partNow 11 = .ok (.aload_n 1, 1) := by decide +kernel
theorem dX6_partNow_12 : decode cX6_partNow 12 = .ok (.invokevirtual 78, 3) := by decide +kernel
theorem dX6_partNow_15 : decode cX6_partNow 15 = .ok (.invokevirtual 82, 3) := by decide +kernel
theorem dX6_partNow_18 : decode cX6_partNow 18 = .ok (.ireturn, 1) := by decide +kernel
theorem dX6_survivorsNow_0 : decode cX6_survivorsNow 0 = .ok (.aload_n 0, 1) := by decide +kernel
theorem dX6_survivorsNow_1 : decode cX6_survivorsNow 1 = .ok (.aload_n 1, 1) := by decide +kernel
theorem dX6_survivorsNow_2 : decode cX6_survivorsNow 2 = .ok (.invokevirtual 86, 3) := by decide +kernel
theorem dX6_survivorsNow_5 : decode cX6_survivorsNow 5 = .ok (.istore_n 2, 1) := by decide +kernel
theorem dX6_survivorsNow_6 : decode cX6_survivorsNow 6 = .ok (.iload_n 2, 1) := by decide +kernel
theorem dX6_survivorsNow_7 : decode cX6_survivorsNow 7 = .ok (.iconst (-1), 1) := by decide +kernel
theorem dX6_survivorsNow_8 : decode cX6_survivorsNow 8 = .ok (.if_icmp .ne 7, 3) := by decide +kernel
theorem dX6_survivorsNow_11 : decode cX6_survivorsNow 11 = .ok (.iconst 0, 1) := by decide +kernel
theorem dX6_survivorsNow_12 : decode cX6_survivorsNow 12 = .ok (.goto 9, 3) := by decide +kernel
theorem dX6_survivorsNow_15 : decode cX6_survivorsNow 15 = .ok (.iload_n 2, 1) := by decide +kernel
theorem dX6_survivorsNow_16 : decode cX6_survivorsNow 16 = .ok (.aload_n 1, 1) := by decide +kernel
theorem dX6_survivorsNow_17 : decode cX6_survivorsNow 17 = .ok (.invokevirtual 78, 3) := by decide +kernel
theorem dX6_survivorsNow_20 : decode cX6_survivorsNow 20 = .ok (.iand, 1) := by decide +kernel
theorem dX6_survivorsNow_21 : decode cX6_survivorsNow 21 = .ok (.ireturn, 1) := by decide +kernel
theorem dX6_hold_0 : decode cX6_hold 0 = .ok (.aload_n 0, 1) := by decide +kernel
theorem dX6_hold_1 : decode cX6_hold 1 = .ok (.aload_n 1, 1) := by decide +kernel
theorem dX6_hold_2 : decode cX6_hold 2 = .ok (.invokevirtual 72, 3) := by decide +kernel
theorem dX6_hold_5 : decode cX6_hold 5 = .ok (.aload_n 0, 1) := by decide +kernel
theorem dX6_hold_6 : decode cX6_hold 6 = .ok (.aload_n 1, 1) := by decide +kernel
theorem dX6_hold_7 : decode cX6_hold 7 = .ok (.aload_n 1, 1) := by decide +kernel
theorem dX6_hold_8 : decode cX6_hold 8 = .ok (.getfield 75, 3) := by decide +kernel
theorem dX6_hold_11 : decode cX6_hold 11 = .ok (.aload_n 1, 1) := by decide +kernel
theorem dX6_hold_12 : decode cX6_hold 12 = .ok (.invokevirtual 78, 3) := by decide +kernel
theorem dX6_hold_15 : decode cX6_hold 15 = .ok (.invokevirtual 82, 3) := by decide +kernel
theorem dX6_hold_18 : decode cX6_hold 18 = .ok (.istore_n 2, 1) := by decide +kernel
theorem dX6_hold_19 : decode cX6_hold 19 = .ok (.iload_n 2, 1) := by decide +kernel
theorem dX6_hold_20 : decode cX6_hold 20 = .ok (.aload_n 1, 1) := by decide +kernel
theorem dX6_hold_21 : decode cX6_hold 21 = .ok (.invokevirtual 78, 3) := by decide +kernel
theorem dX6_hold_24 : decode cX6_hold 24 = .ok (.iand, 1) := by decide +kernel
theorem dX6_hold_25 : decode cX6_hold 25 = .ok (.istore_n 3, 1) := by decide +kernel
theorem dX6_hold_26 : decode cX6_hold 26 = .ok (.iload_n 2, 1) := by decide +kernel
theorem dX6_hold_27 : decode cX6_hold 27 = .ok (.iconst (-1), 1) := by decide +kernel
theorem dX6_hold_28 : decode cX6_hold 28 = .ok (.if_icmp .eq 14, 3) := by decide +kernel
theorem dX6_hold_31 : decode cX6_hold 31 = .ok (.iload_n 3, 1) := by decide +kernel
theorem dX6_hold_32 : decode cX6_hold 32 = .ok (.aload_n 1, 1) := by decide +kernel
theorem dX6_hold_33 : decode cX6_hold 33 = .ok (.getfield 90, 3) := by decide +kernel
theorem dX6_hold_36 : decode cX6_hold 36 = .ok (.iconst (-1), 1) := by decide +kernel
theorem dX6_hold_37 : decode cX6_hold 37 = .ok (.ixor, 1) := by decide +kernel
theorem dX6_hold_38 : decode cX6_hold 38 = .ok (.iand, 1) := by decide +kernel
theorem dX6_hold_39 : decode cX6_hold 39 = .ok (.ifCond .ne 5, 3) := by decide +kernel
theorem dX6_hold_42 : decode cX6_hold 42 = .ok (.iconst 0, 1) := by decide +kernel
theorem dX6_hold_43 : decode cX6_hold 43 = .ok (.ireturn, 1) := by decide +kernel
theorem dX6_hold_44 : decode cX6_hold 44 = .ok (.aload_n 1, 1) := by decide +kernel
theorem dX6_hold_45 : decode cX6_hold 45 = .ok (.dup, 1) := by decide +kernel
theorem dX6_hold_46 : decode cX6_hold 46 = .ok (.getfield 90, 3) := by decide +kernel
theorem dX6_hold_49 : decode cX6_hold 49 = .ok (.iload_n 3, 1) := by decide +kernel
theorem dX6_hold_50 : decode cX6_hold 50 = .ok (.ior, 1) := by decide +kernel
theorem dX6_hold_51 : decode cX6_hold 51 = .ok (.putfield 90, 3) := by decide +kernel
theorem dX6_hold_54 : decode cX6_hold 54 = .ok (.iconst 1, 1) := by decide +kernel
theorem dX6_hold_55 : decode cX6_hold 55 = .ok (.ireturn, 1) := by decide +kernel
theorem dX6_view_0 : decode cX6_view 0 = .ok (.aload_n 0, 1) := by decide +kernel
theorem dX6_view_1 : decode cX6_view 1 = .ok (.aload_n 1, 1) := by decide +kernel
theorem dX6_view_2 : decode cX6_view 2 = .ok (.invokevirtual 72, 3) := by decide +kernel
theorem dX6_view_5 : decode cX6_view 5 = .ok (.aload_n 0, 1) := by decide +kernel
theorem dX6_view_6 : decode cX6_view 6 = .ok (.aload_n 1, 1) := by decide +kernel
theorem dX6_view_7 : decode cX6_view 7 = .ok (.aload_n 1, 1) := by decide +kernel
theorem dX6_view_8 : decode cX6_view 8 = .ok (.getfield 75, 3) := by decide +kernel
theorem dX6_view_11 : decode cX6_view 11 = .ok (.aload_n 1, 1) := by decide +kernel
theorem dX6_view_12 : decode cX6_view 12 = .ok (.invokevirtual 78, 3) := by decide +kernel
theorem dX6_view_15 : decode cX6_view 15 = .ok (.invokevirtual 82, 3) := by decide +kernel
theorem dX6_view_18 : decode cX6_view 18 = .ok (.istore_n 2, 1) := by decide +kernel
theorem dX6_view_19 : decode cX6_view 19 = .ok (.iload_n 2, 1) := by decide +kernel
theorem dX6_view_20 : decode cX6_view 20 = .ok (.aload_n 1, 1) := by decide +kernel
theorem dX6_view_21 : decode cX6_view 21 = .ok (.invokevirtual 78, 3) := by decide +kernel
theorem dX6_view_24 : decode cX6_view 24 = .ok (.iand, 1) := by decide +kernel
theorem dX6_view_25 : decode cX6_view 25 = .ok (.istore_n 3, 1) := by decide +kernel
theorem dX6_view_26 : decode cX6_view 26 = .ok (.iload_n 2, 1) := by decide +kernel
theorem dX6_view_27 : decode cX6_view 27 = .ok (.aload_n 1, 1) := by decide +kernel
theorem dX6_view_28 : decode cX6_view 28 = .ok (.getfield 69, 3) := by decide +kernel
theorem dX6_view_31 : decode cX6_view 31 = .ok (.iand, 1) := by decide +kernel
theorem dX6_view_32 : decode cX6_view 32 = .ok (.istore 4, 2) := by decide +kernel
theorem dX6_view_34 : decode cX6_view 34 = .ok (.iload_n 2, 1) := by decide +kernel
theorem dX6_view_35 : decode cX6_view 35 = .ok (.iconst (-1), 1) := by decide +kernel
theorem dX6_view_36 : decode cX6_view 36 = .ok (.if_icmp .eq 27, 3) := by decide +kernel
theorem dX6_view_39 : decode cX6_view 39 = .ok (.iload_n 3, 1) := by decide +kernel
theorem dX6_view_40 : decode cX6_view 40 = .ok (.aload_n 1, 1) := by decide +kernel
theorem dX6_view_41 : decode cX6_view 41 = .ok (.getfield 90, 3) := by decide +kernel
theorem dX6_view_44 : decode cX6_view 44 = .ok (.iconst (-1), 1) := by decide +kernel
theorem dX6_view_45 : decode cX6_view 45 = .ok (.ixor, 1) := by decide +kernel
theorem dX6_view_46 : decode cX6_view 46 = .ok (.iand, 1) := by decide +kernel
theorem dX6_view_47 : decode cX6_view 47 = .ok (.ifCond .ne 16, 3) := by decide +kernel
theorem dX6_view_50 : decode cX6_view 50 = .ok (.iload_n 2, 1) := by decide +kernel
theorem dX6_view_51 : decode cX6_view 51 = .ok (.aload_n 1, 1) := by decide +kernel
theorem dX6_view_52 : decode cX6_view 52 = .ok (.getfield 32, 3) := by decide +kernel
theorem dX6_view_55 : decode cX6_view 55 = .ok (.if_icmp .ne 10, 3) := by decide +kernel
theorem dX6_view_58 : decode cX6_view 58 = .ok (.iload 4, 2) := by decide +kernel
theorem dX6_view_60 : decode cX6_view 60 = .ok (.ifCond .ne 5, 3) := by decide +kernel
theorem dX6_view_63 : decode cX6_view 63 = .ok (.iconst 0, 1) := by decide +kernel
theorem dX6_view_64 : decode cX6_view 64 = .ok (.ireturn, 1) := by decide +kernel
theorem dX6_view_65 : decode cX6_view 65 = .ok (.aload_n 1, 1) := by decide +kernel
theorem dX6_view_66 : decode cX6_view 66 = .ok (.iload_n 3, 1) := by decide +kernel
theorem dX6_view_67 : decode cX6_view 67 = .ok (.iload 4, 2) := by decide +kernel
theorem dX6_view_69 : decode cX6_view 69 = .ok (.invokevirtual 93, 3) := by decide +kernel
theorem dX6_view_72 : decode cX6_view 72 = .ok (.aload_n 1, 1) := by decide +kernel
theorem dX6_view_73 : decode cX6_view 73 = .ok (.aload_n 0, 1) := by decide +kernel
theorem dX6_view_74 : decode cX6_view 74 = .ok (.getfield 15, 3) := by decide +kernel
theorem dX6_view_77 : decode cX6_view 77 = .ok (.getfield 23, 3) := by decide +kernel
theorem dX6_view_80 : decode cX6_view 80 = .ok (.invokevirtual 97, 3) := by decide +kernel
theorem dX6_view_83 : decode cX6_view 83 = .ok (.iconst 1, 1) := by decide +kernel
theorem dX6_view_84 : decode cX6_view 84 = .ok (.ireturn, 1) := by decide +kernel
theorem dX6_fewestToFall_0 : decode cX6_fewestToFall 0 = .ok (.aload_n 0, 1) := by decide +kernel
theorem dX6_fewestToFall_1 : decode cX6_fewestToFall 1 = .ok (.aload_n 1, 1) := by decide +kernel
theorem dX6_fewestToFall_2 : decode cX6_fewestToFall 2 = .ok (.invokevirtual 86, 3) := by decide +kernel
theorem dX6_fewestToFall_5 : decode cX6_fewestToFall 5 = .ok (.iconst (-1), 1) := by decide +kernel
theorem dX6_fewestToFall_6 : decode cX6_fewestToFall 6 = .ok (.if_icmp .ne 5, 3) := by decide +kernel
theorem dX6_fewestToFall_9 : decode cX6_fewestToFall 9 = .ok (.iconst 0, 1) := by decide +kernel
theorem dX6_fewestToFall_10 : decode cX6_fewestToFall 10 = .ok (.ireturn, 1) := by decide +kernel
theorem dX6_fewestToFall_11 : decode cX6_fewestToFall 11 = .ok (.aload_n 1, 1) := by decide +kernel
theorem dX6_fewestToFall_12 : decode cX6_fewestToFall 12 = .ok (.invokevirtual 78, 3) := by decide +kernel
theorem dX6_fewestToFall_15 : decode cX6_fewestToFall 15 = .ok (.istore_n 2, 1) := by decide +kernel
theorem dX6_fewestToFall_16 : decode cX6_fewestToFall 16 = .ok (.bipush 6, 2) := by decide +kernel
theorem dX6_fewestToFall_18 : decode cX6_fewestToFall 18 = .ok (.istore_n 3, 1) := by decide +kernel
theorem dX6_fewestToFall_19 : decode cX6_fewestToFall 19 = .ok (.iconst 0, 1) := by decide +kernel
theorem dX6_fewestToFall_20 : decode cX6_fewestToFall 20 = .ok (.istore 4, 2) := by decide +kernel
theorem dX6_fewestToFall_22 : decode cX6_fewestToFall 22 = .ok (.iload 4, 2) := by decide +kernel
theorem dX6_fewestToFall_24 : decode cX6_fewestToFall 24 = .ok (.aload_n 0, 1) := by decide +kernel
theorem dX6_fewestToFall_25 : decode cX6_fewestToFall 25 = .ok (.invokevirtual 101, 3) := by decide +kernel
theorem dX6_fewestToFall_28 : decode cX6_fewestToFall 28 = .ok (.if_icmp .ge 59, 3) := by decide +kernel
theorem dX6_fewestToFall_31 : decode cX6_fewestToFall 31 = .ok (.iload 4, 2) := by decide +kernel
theorem dX6_fewestToFall_33 : decode cX6_fewestToFall 33 = .ok (.iload_n 2, 1) := by decide +kernel
theorem dX6_fewestToFall_34 : decode cX6_fewestToFall 34 = .ok (.iconst (-1), 1) := by decide +kernel
theorem dX6_fewestToFall_35 : decode cX6_fewestToFall 35 = .ok (.ixor, 1) := by decide +kernel
theorem dX6_fewestToFall_36 : decode cX6_fewestToFall 36 = .ok (.iand, 1) := by decide +kernel
theorem dX6_fewestToFall_37 : decode cX6_fewestToFall 37 = .ok (.ifCond .ne 7, 3) := by decide +kernel
theorem dX6_fewestToFall_40 : decode cX6_fewestToFall 40 = .ok (.iconst 1, 1) := by decide +kernel
theorem dX6_fewestToFall_41 : decode cX6_fewestToFall 41 = .ok (.goto 4, 3) := by decide +kernel
theorem dX6_fewestToFall_44 : decode cX6_fewestToFall 44 = .ok (.iconst 0, 1) := by decide +kernel
theorem dX6_fewestToFall_45 : decode cX6_fewestToFall 45 = .ok (.istore 5, 2) := by decide +kernel
theorem dX6_fewestToFall_47 : decode cX6_fewestToFall 47 = .ok (.iload 5, 2) := by decide +kernel
theorem dX6_fewestToFall_49 : decode cX6_fewestToFall 49 = .ok (.ifCond .eq 32, 3) := by decide +kernel
theorem dX6_fewestToFall_52 : decode cX6_fewestToFall 52 = .ok (.aload_n 0, 1) := by decide +kernel
theorem dX6_fewestToFall_53 : decode cX6_fewestToFall 53 = .ok (.aload_n 1, 1) := by decide +kernel
theorem dX6_fewestToFall_54 : decode cX6_fewestToFall 54 = .ok (.aload_n 1, 1) := by decide +kernel
theorem dX6_fewestToFall_55 : decode cX6_fewestToFall 55 = .ok (.getfield 75, 3) := by decide +kernel
theorem dX6_fewestToFall_58 : decode cX6_fewestToFall 58 = .ok (.iload_n 2, 1) := by decide +kernel
theorem dX6_fewestToFall_59 : decode cX6_fewestToFall 59 = .ok (.iload 4, 2) := by decide +kernel
theorem dX6_fewestToFall_61 : decode cX6_fewestToFall 61 = .ok (.iconst (-1), 1) := by decide +kernel
theorem dX6_fewestToFall_62 : decode cX6_fewestToFall 62 = .ok (.ixor, 1) := by decide +kernel
theorem dX6_fewestToFall_63 : decode cX6_fewestToFall 63 = .ok (.iand, 1) := by decide +kernel
theorem dX6_fewestToFall_64 : decode cX6_fewestToFall 64 = .ok (.invokevirtual 82, 3) := by decide +kernel
theorem dX6_fewestToFall_67 : decode cX6_fewestToFall 67 = .ok (.iconst (-1), 1) := by decide +kernel
theorem dX6_fewestToFall_68 : decode cX6_fewestToFall 68 = .ok (.if_icmp .ne 13, 3) := by decide +kernel
theorem dX6_fewestToFall_71 : decode cX6_fewestToFall 71 = .ok (.iload_n 3, 1) := by decide +kernel
theorem dX6_fewestToFall_72 : decode cX6_fewestToFall 72 = .ok (.iload 4, 2) := by decide +kernel
theorem dX6_fewestToFall_74 : decode cX6_fewestToFall 74 = .ok (.invokestatic 37, 3) := by decide +kernel
theorem dX6_fewestToFall_77 : decode cX6_fewestToFall 77 = .ok (.invokestatic 104, 3) := by decide +kernel
theorem dX6_fewestToFall_80 : decode cX6_fewestToFall 80 = .ok (.istore_n 3, 1) := by decide +kernel
theorem dX6_fewestToFall_81 : decode cX6_fewestToFall 81 = .ok (.iinc 4 1, 3) := by decide +kernel
theorem dX6_fewestToFall_84 : decode cX6_fewestToFall 84 = .ok (.goto (-62), 3) := by decide +kernel
theorem dX6_fewestToFall_87 : decode cX6_fewestToFall 87 = .ok (.iload_n 3, 1) := by decide +kernel
theorem dX6_fewestToFall_88 : decode cX6_fewestToFall 88 = .ok (.ireturn, 1) := by decide +kernel
theorem dX6_countLameSplits_0 : decode cX6_countLameSplits 0 = .ok (.aload_n 0, 1) := by decide +kernel
theorem dX6_countLameSplits_1 : decode cX6_countLameSplits 1 = .ok (.aload_n 1, 1) := by decide +kernel
theorem dX6_countLameSplits_2 : decode cX6_countLameSplits 2 = .ok (.invokevirtual 72, 3) := by decide +kernel
theorem dX6_countLameSplits_5 : decode cX6_countLameSplits 5 = .ok (.iconst 0, 1) := by decide +kernel
theorem dX6_countLameSplits_6 : decode cX6_countLameSplits 6 = .ok (.istore_n 2, 1) := by decide +kernel
theorem dX6_countLameSplits_7 : decode cX6_countLameSplits 7 = .ok (.iconst 0, 1) := by decide +kernel
theorem dX6_countLameSplits_8 : decode cX6_countLameSplits 8 = .ok (.istore_n 3, 1) := by decide +kernel
theorem dX6_countLameSplits_9 : decode cX6_countLameSplits 9 = .ok (.iload_n 3, 1) := by decide +kernel
theorem dX6_countLameSplits_10 : decode cX6_countLameSplits 10 = .ok (.aload_n 0, 1) := by decide +kernel
theorem dX6_countLameSplits_11 : decode cX6_countLameSplits 11 = .ok (.invokevirtual 101, 3) := by decide +kernel
theorem dX6_countLameSplits_14 : decode cX6_countLameSplits 14 = .ok (.if_icmp .ge 31, 3) := by decide +kernel
theorem dX6_countLameSplits_17 : decode cX6_countLameSplits 17 = .ok (.iload_n 2, 1) := by decide +kernel
theorem dX6_countLameSplits_18 : decode cX6_countLameSplits 18 = .ok (.aload_n 0, 1) := by decide +kernel
theorem dX6_countLameSplits_19 : decode cX6_countLameSplits 19 = .ok (.aload_n 1, 1) := by decide +kernel
theorem dX6_countLameSplits_20 : decode cX6_countLameSplits 20 = .ok (.iload_n 3, 1) := by decide +kernel
theorem dX6_countLameSplits_21 : decode cX6_countLameSplits 21 = .ok (.aload_n 1, 1) := by decide +kernel
theorem dX6_countLameSplits_22 : decode cX6_countLameSplits 22 = .ok (.invokevirtual 78, 3) := by decide +kernel
theorem dX6_countLameSplits_25 : decode cX6_countLameSplits 25 = .ok (.invokevirtual 82, 3) := by decide +kernel
theorem dX6_countLameSplits_28 : decode cX6_countLameSplits 28 = .ok (.iconst (-1), 1) := by decide +kernel
theorem dX6_countLameSplits_29 : decode cX6_countLameSplits 29 = .ok (.if_icmp .ne 7, 3) := by decide +kernel
theorem dX6_countLameSplits_32 : decode cX6_countLameSplits 32 = .ok (.iconst 1, 1) := by decide +kernel
theorem dX6_countLameSplits_33 : decode cX6_countLameSplits 33 = .ok (.goto 4, 3) := by decide +kernel
theorem dX6_countLameSplits_36 : decode cX6_countLameSplits 36 = .ok (.iconst 0, 1) := by decide +kernel
theorem dX6_countLameSplits_37 : decode cX6_countLameSplits 37 = .ok (.iadd, 1) := by decide +kernel
theorem dX6_countLameSplits_38 : decode cX6_countLameSplits 38 = .ok (.istore_n 2, 1) := by decide +kernel
theorem dX6_countLameSplits_39 : decode cX6_countLameSplits 39 = .ok (.iinc 3 1, 3) := by decide +kernel
theorem dX6_countLameSplits_42 : decode cX6_countLameSplits 42 = .ok (.goto (-33), 3) := by decide +kernel
theorem dX6_countLameSplits_45 : decode cX6_countLameSplits 45 = .ok (.iload_n 2, 1) := by decide +kernel
theorem dX6_countLameSplits_46 : decode cX6_countLameSplits 46 = .ok (.ireturn, 1) := by decide +kernel
theorem dX7_init_0 : decode cX7_init 0 = .ok (.aload_n 0, 1) := by decide +kernel
theorem dX7_init_1 : decode cX7_init 1 = .ok (.invokespecial 3, 3) := by decide +kernel
theorem dX7_init_4 : decode cX7_init 4 = .ok (.aload_n 0, 1) := by decide +kernel
theorem dX7_init_5 : decode cX7_init 5 = .ok (.bipush 6, 2) := by decide +kernel
theorem dX7_init_7 : decode cX7_init 7 = .ok (.newarray .int, 2) := by decide +kernel
theorem dX7_init_9 : decode cX7_init 9 = .ok (.putfield 9, 3) := by decide +kernel
theorem dX7_init_12 : decode cX7_init 12 = .ok (.aload_n 0, 1) := by decide +kernel
theorem dX7_init_13 : decode cX7_init 13 = .ok (.bipush 6, 2) := by decide +kernel
theorem dX7_init_15 : decode cX7_init 15 = .ok (.newarray .int, 2) := by decide +kernel
theorem dX7_init_17 : decode cX7_init 17 = .ok (.putfield 15, 3) := by decide +kernel
theorem dX7_init_20 : decode cX7_init 20 = .ok (.aload_n 0, 1) := by decide +kernel
theorem dX7_init_21 : decode cX7_init 21 = .ok (.bipush 6, 2) := by decide +kernel
theorem dX7_init_23 : decode cX7_init 23 = .ok (.newarray .int, 2) := by decide +kernel
theorem dX7_init_25 : decode cX7_init 25 = .ok (.putfield 18, 3) := by decide +kernel
theorem dX7_init_28 : decode cX7_init 28 = .ok (.aload_n 0, 1) := by decide +kernel
theorem dX7_init_29 : decode cX7_init 29 = .ok (.bipush 36, 2) := by decide +kernel
theorem dX7_init_31 : decode cX7_init 31 = .ok (.newarray .int, 2) := by decide +kernel
theorem dX7_init_33 : decode cX7_init 33 = .ok (.putfield 21, 3) := by decide +kernel
theorem dX7_init_36 : decode cX7_init 36 = .ok (.aload_n 0, 1) := by decide +kernel
theorem dX7_init_37 : decode cX7_init 37 = .ok (.bipush 6, 2) := by decide +kernel
theorem dX7_init_39 : decode cX7_init 39 = .ok (.newarray .int, 2) := by decide +kernel
theorem dX7_init_41 : decode cX7_init 41 = .ok (.putfield 24, 3) := by decide +kernel
theorem dX7_init_44 : decode cX7_init 44 = .ok (.aload_n 0, 1) := by decide +kernel
theorem dX7_init_45 : decode cX7_init 45 = .ok (.bipush 48, 2) := by decide +kernel
theorem dX7_init_47 : decode cX7_init 47 = .ok (.newarray .int, 2) := by decide +kernel
theorem dX7_init_49 : decode cX7_init 49 = .ok (.putfield 27, 3) := by decide +kernel
theorem dX7_init_52 : decode cX7_init 52 = .ok (.aload_n 0, 1) := by decide +kernel
theorem dX7_init_53 : decode cX7_init 53 = .ok (.bipush 6, 2) := by decide +kernel
theorem dX7_init_55 : decode cX7_init 55 = .ok (.newarray .int, 2) := by decide +kernel
theorem dX7_init_57 : decode cX7_init 57 = .ok (.putfield 30, 3) := by decide +kernel
theorem dX7_init_60 : decode cX7_init 60 = .ok (.aload_n 0, 1) := by decide +kernel
theorem dX7_init_61 : decode cX7_init 61 = .ok (.bipush 30, 2) := by decide +kernel
theorem dX7_init_63 : decode cX7_init 63 = .ok (.newarray .int, 2) := by decide +kernel
theorem dX7_init_65 : decode cX7_init 65 = .ok (.putfield 33, 3) := by decide +kernel
theorem dX7_init_68 : decode cX7_init 68 = .ok (.aload_n 0, 1) := by decide +kernel
theorem dX7_init_69 : decode cX7_init 69 = .ok (.bipush 30, 2) := by decide +kernel
theorem dX7_init_71 : decode cX7_init 71 = .ok (.newarray .int, 2) := by decide +kernel
theorem dX7_init_73 : decode cX7_init 73 = .ok (.putfield 36, 3) := by decide +kernel
theorem dX7_init_76 : decode cX7_init 76 = .ok (.aload_n 0, 1) := by decide +kernel
theorem dX7_init_77 : decode cX7_init 77 = .ok (.bipush 30, 2) := by decide +kernel
theorem dX7_init_79 : decode cX7_init 79 = .ok (.newarray .int, 2) := by decide +kernel
theorem dX7_init_81 : decode cX7_init 81 = .ok (.putfield 39, 3) := by decide +kernel
theorem dX7_init_84 : decode cX7_init 84 = .ok (.aload_n 0, 1) := by decide +kernel
theorem dX7_init_85 : decode cX7_init 85 = .ok (.bipush 6, 2) := by decide +kernel
theorem dX7_init_87 : decode cX7_init 87 = .ok (.newarray .long, 2) := by decide +kernel
theorem dX7_init_89 : decode cX7_init 89 = .ok (.putfield 42, 3) := by decide +kernel
theorem dX7_init_92 : decode cX7_init 92 = .ok (.aload_n 0, 1) := by decide +kernel
theorem dX7_init_93 : decode cX7_init 93 = .ok (.sipush 384, 3) := by decide +kernel
theorem dX7_init_96 : decode cX7_init 96 = .ok (.newarray .long, 2) := by decide +kernel
theorem dX7_init_98 : decode cX7_init 98 = .ok (.putfield 46, 3) := by decide +kernel
theorem dX7_init_101 : decode cX7_init 101 = .ok (.return_, 1) := by decide +kernel
theorem dX7_begin_0 : decode cX7_begin 0 = .ok (.aload_n 0, 1) := by decide +kernel
theorem dX7_begin_1 : decode cX7_begin 1 = .ok (.iconst 1, 1) := by decide +kernel
theorem dX7_begin_2 : decode cX7_begin 2 = .ok (.putfield 49, 3) := by decide +kernel
theorem dX7_begin_5 : decode cX7_begin 5 = .ok (.aload_n 0, 1) := by decide +kernel
theorem dX7_begin_6 : decode cX7_begin 6 = .ok (.iload_n 2, 1) := by decide +kernel
theorem dX7_begin_7 : decode cX7_begin 7 = .ok (.putfield 53, 3) := by decide +kernel
theorem dX7_begin_10 : decode cX7_begin 10 = .ok (.aload_n 0, 1) := by decide +kernel
theorem dX7_begin_11 : decode cX7_begin 11 = .ok (.iload_n 2, 1) := by decide +kernel
theorem dX7_begin_12 : decode cX7_begin 12 = .ok (.putfield 56, 3) := by decide +kernel
theorem dX7_begin_15 : decode cX7_begin 15 = .ok (.aload_n 0, 1) := by decide +kernel
theorem dX7_begin_16 : decode cX7_begin 16 = .ok (.iload_n 1, 1) := by decide +kernel
theorem dX7_begin_17 : decode cX7_begin 17 = .ok (.invokestatic 59, 3) := by decide +kernel
theorem dX7_begin_20 : decode cX7_begin 20 = .ok (.putfield 63, 3) := by decide +kernel
theorem dX7_begin_23 : decode cX7_begin 23 = .ok (.aload_n 0, 1) := by decide +kernel
theorem dX7_begin_24 : decode cX7_begin 24 = .ok (.iconst 0, 1) := by decide +kernel
theorem dX7_begin_25 : decode cX7_begin 25 = .ok (.putfield 66, 3) := by decide +kernel
theorem dX7_begin_28 : decode cX7_begin 28 = .ok (.aload_n 0, 1) := by decide +kernel
theorem dX7_begin_29 : decode cX7_begin 29 = .ok (.iconst 0, 1) := by decide +kernel
theorem dX7_begin_30 : decode cX7_begin 30 = .ok (.putfield 69, 3) := by decide +kernel
theorem dX7_begin_33 : decode cX7_begin 33 = .ok (.aload_n 0, 1) := by decide +kernel
theorem dX7_begin_34 : decode cX7_begin 34 = .ok (.iconst 0, 1) := by decide +kernel
theorem dX7_begin_35 : decode cX7_begin 35 = .ok (.putfield 72, 3) := by decide +kernel
theorem dX7_begin_38 : decode cX7_begin 38 = .ok (.iconst 0, 1) := by decide +kernel
theorem dX7_begin_39 : decode cX7_begin 39 = .ok (.istore_n 3, 1) := by decide +kernel
theorem dX7_begin_40 : decode cX7_begin 40 = .ok (.iload_n 3, 1) := by decide +kernel
theorem dX7_begin_41 : decode cX7_begin 41 = .ok (.bipush 6, 2) := by decide +kernel
theorem dX7_begin_43 : decode cX7_begin 43 = .ok (.if_icmp .ge 49, 3) := by decide +kernel
theorem dX7_begin_46 : decode cX7_begin 46 = .ok (.aload_n 0, 1) := by decide +kernel
theorem dX7_begin_47 : decode cX7_begin 47 = .ok (.getfield 9, 3) := by decide +kernel
theorem dX7_begin_50 : decode cX7_begin 50 = .ok (.iload_n 3, 1) := by decide +kernel
theorem dX7_begin_51 : decode cX7_begin 51 = .ok (.iload_n 2, 1) := by decide +kernel
theorem dX7_begin_52 : decode cX7_begin 52 = .ok (.iload_n 3, 1) := by decide +kernel
theorem dX7_begin_53 : decode cX7_begin 53 = .ok (.invokestatic 75, 3) := by decide +kernel
theorem dX7_begin_56 : decode cX7_begin 56 = .ok (.ifCond .eq 7, 3) := by decide +kernel
theorem dX7_begin_59 : decode cX7_begin 59 = .ok (.iconst 1, 1) := by decide +kernel
theorem dX7_begin_60 : decode cX7_begin 60 = .ok (.goto 4, 3) := by decide +kernel
theorem dX7_begin_63 : decode cX7_begin 63 = .ok (.iconst 0, 1) := by decide +kernel
theorem dX7_begin_64 : decode cX7_begin 64 = .ok (.iastore, 1) := by decide +kernel
theorem dX7_begin_65 : decode cX7_begin 65 = .ok (.aload_n 0, 1) := by decide +kernel
theorem dX7_begin_66 : decode cX7_begin 66 = .ok (.getfield 24, 3) := by decide +kernel
theorem dX7_begin_69 : decode cX7_begin 69 = .ok (.iload_n 3, 1) := by decide +kernel
theorem dX7_begin_70 : decode cX7_begin 70 = .ok (.iconst 0, 1) := by decide +kernel
theorem dX7_begin_71 : decode cX7_begin 71 = .ok (.iastore, 1) := by decide +kernel
theorem dX7_begin_72 : decode cX7_begin 72 = .ok (.aload_n 0, 1) := by decide +kernel
theorem dX7_begin_73 : decode cX7_begin 73 = .ok (.getfield 30, 3) := by decide +kernel
theorem dX7_begin_76 : decode cX7_begin 76 = .ok (.iload_n 3, 1) := by decide +kernel
theorem dX7_begin_77 : decode cX7_begin 77 = .ok (.iconst 0, 1) := by decide +kernel
theorem dX7_begin_78 : decode cX7_begin 78 = .ok (.iastore, 1) := by decide +kernel
theorem dX7_begin_79 : decode cX7_begin 79 = .ok (.aload_n 0, 1) := by decide +kernel
theorem dX7_begin_80 : decode cX7_begin 80 = .ok (.getfield 42, 3) := by decide +kernel
theorem dX7_begin_83 : decode cX7_begin 83 = .ok (.iload_n 3, 1) := by decide +kernel
theorem dX7_begin_84 : decode cX7_begin 84 = .ok (.lconst 0, 1) := by decide +kernel
theorem dX7_begin_85 : decode cX7_begin 85 = .ok (.lastore, 1) := by decide +kernel
theorem dX7_begin_86 : decode cX7_begin 86 = .ok (.iinc 3 1, 3) := by decide +kernel
theorem dX7_begin_89 : decode cX7_begin 89 = .ok (.goto (-49), 3) := by decide +kernel
theorem dX7_begin_92 : decode cX7_begin 92 = .ok (.aload_n 0, 1) := by decide +kernel
theorem dX7_begin_93 : decode cX7_begin 93 = .ok (.invokevirtual 79, 3) := by decide +kernel
theorem dX7_begin_96 : decode cX7_begin 96 = .ok (.return_, 1) := by decide +kernel
theorem dX7_copy_0 : decode cX7_copy 0 = .ok (.aload_n 0, 1) := by decide +kernel
theorem dX7_copy_1 : decode cX7_copy 1 = .ok (.aload_n 1, 1) := by decide +kernel
theorem dX7_copy_2 : decode cX7_copy 2 = .ok (.getfield 49, 3) := by decide +kernel
theorem dX7_copy_5 : decode cX7_copy 5 = .ok (.putfield 49, 3) := by decide +kernel
theorem dX7_copy_8 : decode cX7_copy 8 = .ok (.aload_n 0, 1) := by decide +kernel
theorem dX7_copy_9 : decode cX7_copy 9 = .ok (.aload_n 1, 1) := by decide +kernel
theorem dX7_copy_10 : decode cX7_copy 10 = .ok (.getfield 53, 3) := by decide +kernel
theorem dX7_copy_13 : decode cX7_copy 13 = .ok (.putfield 53, 3) := by decide +kernel
theorem dX7_copy_16 : decode cX7_copy 16 = .ok (.aload_n 0, 1) := by decide +kernel
theorem dX7_copy_17 : decode cX7_copy 17 = .ok (.aload_n 1, 1) := by decide +kernel
theorem dX7_copy_18 : decode cX7_copy 18 = .ok (.getfield 56, 3) := by decide +kernel
theorem dX7_copy_21 : decode cX7_copy 21 = .ok (.putfield 56, 3) := by decide +kernel
theorem dX7_copy_24 : decode cX7_copy 24 = .ok (.aload_n 0, 1) := by decide +kernel
theorem dX7_copy_25 : decode cX7_copy 25 = .ok (.aload_n 1, 1) := by decide +kernel
theorem dX7_copy_26 : decode cX7_copy 26 = .ok (.getfield 63, 3) := by decide +kernel
theorem dX7_copy_29 : decode cX7_copy 29 = .ok (.putfield 63, 3) := by decide +kernel
theorem dX7_copy_32 : decode cX7_copy 32 = .ok (.aload_n 0, 1) := by decide +kernel
theorem dX7_copy_33 : decode cX7_copy 33 = .ok (.aload_n 1, 1) := by decide +kernel
theorem dX7_copy_34 : decode cX7_copy 34 = .ok (.getfield 66, 3) := by decide +kernel
theorem dX7_copy_37 : decode cX7_copy 37 = .ok (.putfield 66, 3) := by decide +kernel
theorem dX7_copy_40 : decode cX7_copy 40 = .ok (.aload_n 0, 1) := by decide +kernel
theorem dX7_copy_41 : decode cX7_copy 41 = .ok (.aload_n 1, 1) := by decide +kernel
theorem dX7_copy_42 : decode cX7_copy 42 = .ok (.getfield 69, 3) := by decide +kernel
theorem dX7_copy_45 : decode cX7_copy 45 = .ok (.putfield 69, 3) := by decide +kernel
theorem dX7_copy_48 : decode cX7_copy 48 = .ok (.aload_n 0, 1) := by decide +kernel
theorem dX7_copy_49 : decode cX7_copy 49 = .ok (.aload_n 1, 1) := by decide +kernel
theorem dX7_copy_50 : decode cX7_copy 50 = .ok (.getfield 72, 3) := by decide +kernel
theorem dX7_copy_53 : decode cX7_copy 53 = .ok (.putfield 72, 3) := by decide +kernel
theorem dX7_copy_56 : decode cX7_copy 56 = .ok (.aload_n 0, 1) := by decide +kernel
theorem dX7_copy_57 : decode cX7_copy 57 = .ok (.aload_n 1, 1) := by decide +kernel
theorem dX7_copy_58 : decode cX7_copy 58 = .ok (.getfield 82, 3) := by decide +kernel
theorem dX7_copy_61 : decode cX7_copy 61 = .ok (.putfield 82, 3) := by decide +kernel
theorem dX7_copy_64 : decode cX7_copy 64 = .ok (.aload_n 1, 1) := by decide +kernel
theorem dX7_copy_65 : decode cX7_copy 65 = .ok (.getfield 9, 3) := by decide +kernel
theorem dX7_copy_68 : decode cX7_copy 68 = .ok (.iconst 0, 1) := by decide +kernel
theorem dX7_copy_69 : decode cX7_copy 69 = .ok (.aload_n 0, 1) := by decide +kernel
theorem dX7_copy_70 : decode cX7_copy 70 = .ok (.getfield 9, 3) := by decide +kernel
theorem dX7_copy_73 : decode cX7_copy 73 = .ok (.iconst 0, 1) := by decide +kernel
theorem dX7_copy_74 : decode cX7_copy 74 = .ok (.aload_n 0, 1) := by decide +kernel
theorem dX7_copy_75 : decode cX7_copy 75 = .ok (.getfield 9, 3) := by decide +kernel
theorem dX7_copy_78 : decode cX7_copy 78 = .ok (.arraylength, 1) := by decide +kernel
theorem dX7_copy_79 : decode cX7_copy 79 = .ok (.invokestatic 85, 3) := by decide +kernel
theorem dX7_copy_82 : decode cX7_copy 82 = .ok (.aload_n 1, 1) := by decide +kernel
theorem dX7_copy_83 : decode cX7_copy 83 = .ok (.getfield 15, 3) := by decide +kernel
theorem dX7_copy_86 : decode cX7_copy 86 = .ok (.iconst 0, 1) := by decide +kernel
theorem dX7_copy_87 : decode cX7_copy 87 = .ok (.aload_n 0, 1) := by decide +kernel
theorem dX7_copy_88 : decode cX7_copy 88 = .ok (.getfield 15, 3) := by decide +kernel
theorem dX7_copy_91 : decode cX7_copy 91 = .ok (.iconst 0, 1) := by decide +kernel
theorem dX7_copy_92 : decode cX7_copy 92 = .ok (.aload_n 0, 1) := by decide +kernel
theorem dX7_copy_93 : decode cX7_copy 93 = .ok (.getfield 15, 3) := by decide +kernel
theorem dX7_copy_96 : decode cX7_copy 96 = .ok (.arraylength, 1) := by decide +kernel
theorem dX7_copy_97 : decode cX7_copy 97 = .ok (.invokestatic 85, 3) := by decide +kernel
theorem dX7_copy_100 : decode cX7_copy 100 = .ok (.aload_n 1, 1) := by decide +kernel
theorem dX7_copy_101 : decode cX7_copy 101 = .ok (.getfield 18, 3) := by decide +kernel
theorem dX7_copy_104 : decode cX7_copy 104 = .ok (.iconst 0, 1) := by decide +kernel
theorem dX7_copy_105 : decode cX7_copy 105 = .ok (.aload_n 0, 1) := by decide +kernel
theorem dX7_copy_106 : decode cX7_copy 106 = .ok (.getfield 18, 3) := by decide +kernel
theorem dX7_copy_109 : decode cX7_copy 109 = .ok (.iconst 0, 1) := by decide +kernel
theorem dX7_copy_110 : decode cX7_copy 110 = .ok (.aload_n 0, 1) := by decide +kernel
theorem dX7_copy_111 : decode cX7_copy 111 = .ok (.getfield 18, 3) := by decide +kernel
theorem dX7_copy_114 : decode cX7_copy 114 = .ok (.arraylength, 1) := by decide +kernel
theorem dX7_copy_115 : decode cX7_copy 115 = .ok (.invokestatic 85, 3) := by decide +kernel
theorem dX7_copy_118 : decode cX7_copy 118 = .ok (.aload_n 1, 1) := by decide +kernel
theorem dX7_copy_119 : decode cX7_copy 119 = .ok (.getfield 21, 3) := by decide +kernel
theorem dX7_copy_122 : decode cX7_copy 122 = .ok (.iconst 0, 1) := by decide +kernel
theorem dX7_copy_123 : decode cX7_copy 123 = .ok (.aload_n 0, 1) := by decide +kernel
theorem dX7_copy_124 : decode cX7_copy 124 = .ok (.getfield 21, 3) := by decide +kernel
theorem dX7_copy_127 : decode cX7_copy 127 = .ok (.iconst 0, 1) := by decide +kernel
theorem dX7_copy_128 : decode cX7_copy 128 = .ok (.aload_n 0, 1) := by decide +kernel
theorem dX7_copy_129 : decode cX7_copy 129 = .ok (.getfield 21, 3) := by decide +kernel
theorem dX7_copy_132 : decode cX7_copy 132 = .ok (.arraylength, 1) := by decide +kernel
theorem dX7_copy_133 : decode cX7_copy 133 = .ok (.invokestatic 85, 3) := by decide +kernel
theorem dX7_copy_136 : decode cX7_copy 136 = .ok (.aload_n 1, 1) := by decide +kernel
theorem dX7_copy_137 : decode cX7_copy 137 = .ok (.getfield 24, 3) := by decide +kernel
theorem dX7_copy_140 : decode cX7_copy 140 = .ok (.iconst 0, 1) := by decide +kernel
theorem dX7_copy_141 : decode cX7_copy 141 = .ok (.aload_n 0, 1) := by decide +kernel
theorem dX7_copy_142 : decode cX7_copy 142 = .ok (.getfield 24, 3) := by decide +kernel
theorem dX7_copy_145 : decode cX7_copy 145 = .ok (.iconst 0, 1) := by decide +kernel
theorem dX7_copy_146 : decode cX7_copy 146 = .ok (.aload_n 0, 1) := by decide +kernel
theorem dX7_copy_147 : decode cX7_copy 147 = .ok (.getfield 24, 3) := by decide +kernel
theorem dX7_copy_150 : decode cX7_copy 150 = .ok (.arraylength, 1) := by decide +kernel
theorem dX7_copy_151 : decode cX7_copy 151 = .ok (.invokestatic 85, 3) := by decide +kernel
theorem dX7_copy_154 : decode cX7_copy 154 = .ok (.aload_n 1, 1) := by decide +kernel
theorem dX7_copy_155 : decode cX7_copy 155 = .ok (.getfield 27, 3) := by decide +kernel
theorem dX7_copy_158 : decode cX7_copy 158 = .ok (.iconst 0, 1) := by decide +kernel
theorem dX7_copy_159 : decode cX7_copy 159 = .ok (.aload_n 0, 1) := by decide +kernel
theorem dX7_copy_160 : decode cX7_copy 160 = .ok (.getfield 27, 3) := by decide +kernel
theorem dX7_copy_163 : decode cX7_copy 163 = .ok (.iconst 0, 1) := by decide +kernel
theorem dX7_copy_164 : decode cX7_copy 164 = .ok (.aload_n 0, 1) := by decide +kernel
theorem dX7_copy_165 : decode cX7_copy 165 = .ok (.getfield 27, 3) := by decide +kernel
theorem dX7_copy_168 : decode cX7_copy 168 = .ok (.arraylength, 1) := by decide +kernel
theorem dX7_copy_169 : decode cX7_copy 169 = .ok (.invokestatic 85, 3) := by decide +kernel
theorem dX7_copy_172 : decode cX7_copy 172 = .ok (.aload_n 1, 1) := by decide +kernel
theorem dX7_copy_173 : decode cX7_copy 173 = .ok (.getfield 30, 3) := by decide +kernel
theorem dX7_copy_176 : decode cX7_copy 176 = .ok (.iconst 0, 1) := by decide +kernel
theorem dX7_copy_177 : decode cX7_copy 177 = .ok (.aload_n 0, 1) := by decide +kernel
theorem dX7_copy_178 : decode cX7_copy 178 = .ok (.getfield 30, 3) := by decide +kernel
theorem dX7_copy_181 : decode cX7_copy 181 = .ok (.iconst 0, 1) := by decide +kernel
theorem dX7_copy_182 : decode cX7_copy 182 = .ok (.aload_n 0, 1) := by decide +kernel
theorem dX7_copy_183 : decode cX7_copy 183 = .ok (.getfield 30, 3) := by decide +kernel
theorem dX7_copy_186 : decode cX7_copy 186 = .ok (.arraylength, 1) := by decide +kernel
theorem dX7_copy_187 : decode cX7_copy 187 = .ok (.invokestatic 85, 3) := by decide +kernel
theorem dX7_copy_190 : decode cX7_copy 190 = .ok (.aload_n 1, 1) := by decide +kernel
theorem dX7_copy_191 : decode cX7_copy 191 = .ok (.getfield 33, 3) := by decide +kernel
theorem dX7_copy_194 : decode cX7_copy 194 = .ok (.iconst 0, 1) := by decide +kernel
theorem dX7_copy_195 : decode cX7_copy 195 = .ok (.aload_n 0, 1) := by decide +kernel
theorem dX7_copy_196 : decode cX7_copy 196 = .ok (.getfield 33, 3) := by decide +kernel
theorem dX7_copy_199 : decode cX7_copy 199 = .ok (.iconst 0, 1) := by decide +kernel
theorem dX7_copy_200 : decode cX7_copy 200 = .ok (.aload_n 0, 1) := by decide +kernel
theorem dX7_copy_201 : decode cX7_copy 201 = .ok (.getfield 33, 3) := by decide +kernel
theorem dX7_copy_204 : decode cX7_copy 204 = .ok (.arraylength, 1) := by decide +kernel
theorem dX7_copy_205 : decode cX7_copy 205 = .ok (.invokestatic 85, 3) := by decide +kernel
theorem dX7_copy_208 : decode cX7_copy 208 = .ok (.aload_n 1, 1) := by decide +kernel
theorem dX7_copy_209 : decode cX7_copy 209 = .ok (.getfield 36, 3) := by decide +kernel
theorem dX7_copy_212 : decode cX7_copy 212 = .ok (.iconst 0, 1) := by decide +kernel
theorem dX7_copy_213 : decode cX7_copy 213 = .ok (.aload_n 0, 1) := by decide +kernel
theorem dX7_copy_214 : decode cX7_copy 214 = .ok (.getfield 36, 3) := by decide +kernel
theorem dX7_copy_217 : decode cX7_copy 217 = .ok (.iconst 0, 1) := by decide +kernel
theorem dX7_copy_218 : decode cX7_copy 218 = .ok (.aload_n 0, 1) := by decide +kernel
theorem dX7_copy_219 : decode cX7_copy 219 = .ok (.getfield 36, 3) := by decide +kernel
theorem dX7_copy_222 : decode cX7_copy 222 = .ok (.arraylength, 1) := by decide +kernel
theorem dX7_copy_223 : decode cX7_copy 223 = .ok (.invokestatic 85, 3) := by decide +kernel
theorem dX7_copy_226 : decode cX7_copy 226 = .ok (.aload_n 1, 1) := by decide +kernel
theorem dX7_copy_227 : decode cX7_copy 227 = .ok (.getfield 39, 3) := by decide +kernel
theorem dX7_copy_230 : decode cX7_copy 230 = .ok (.iconst 0, 1) := by decide +kernel
theorem dX7_copy_231 : decode cX7_copy 231 = .ok (.aload_n 0, 1) := by decide +kernel
theorem dX7_copy_232 : decode cX7_copy 232 = .ok (.getfield 39, 3) := by decide +kernel
theorem dX7_copy_235 : decode cX7_copy 235 = .ok (.iconst 0, 1) := by decide +kernel
theorem dX7_copy_236 : decode cX7_copy 236 = .ok (.aload_n 0, 1) := by decide +kernel
theorem dX7_copy_237 : decode cX7_copy 237 = .ok (.getfield 39, 3) := by decide +kernel
theorem dX7_copy_240 : decode cX7_copy 240 = .ok (.arraylength, 1) := by decide +kernel
theorem dX7_copy_241 : decode cX7_copy 241 = .ok (.invokestatic 85, 3) := by decide +kernel
theorem dX7_copy_244 : decode cX7_copy 244 = .ok (.aload_n 1, 1) := by decide +kernel
theorem dX7_copy_245 : decode cX7_copy 245 = .ok (.getfield 42, 3) := by decide +kernel
theorem dX7_copy_248 : decode cX7_copy 248 = .ok (.iconst 0, 1) := by decide +kernel
theorem dX7_copy_249 : decode cX7_copy 249 = .ok (.aload_n 0, 1) := by decide +kernel
theorem dX7_copy_250 : decode cX7_copy 250 = .ok (.getfield 42, 3) := by decide +kernel
theorem dX7_copy_253 : decode cX7_copy 253 = .ok (.iconst 0, 1) := by decide +kernel
theorem dX7_copy_254 : decode cX7_copy 254 = .ok (.aload_n 0, 1) := by decide +kernel
theorem dX7_copy_255 : decode cX7_copy 255 = .ok (.getfield 42, 3) := by decide +kernel
theorem dX7_copy_258 : decode cX7_copy 258 = .ok (.arraylength, 1) := by decide +kernel
theorem dX7_copy_259 : decode cX7_copy 259 = .ok (.invokestatic 85, 3) := by decide +kernel
theorem dX7_copy_262 : decode cX7_copy 262 = .ok (.aload_n 1, 1) := by decide +kernel
theorem dX7_copy_263 : decode cX7_copy 263 = .ok (.getfield 46, 3) := by decide +kernel
theorem dX7_copy_266 : decode cX7_copy 266 = .ok (.iconst 0, 1) := by decide +kernel
theorem dX7_copy_267 : decode cX7_copy 267 = .ok (.aload_n 0, 1) := by decide +kernel
theorem dX7_copy_268 : decode cX7_copy 268 = .ok (.getfield 46, 3) := by decide +kernel
theorem dX7_copy_271 : decode cX7_copy 271 = .ok (.iconst 0, 1) := by decide +kernel
theorem dX7_copy_272 : decode cX7_copy 272 = .ok (.aload_n 0, 1) := by decide +kernel
theorem dX7_copy_273 : decode cX7_copy 273 = .ok (.getfield 46, 3) := by decide +kernel
theorem dX7_copy_276 : decode cX7_copy 276 = .ok (.arraylength, 1) := by decide +kernel
theorem dX7_copy_277 : decode cX7_copy 277 = .ok (.invokestatic 85, 3) := by decide +kernel
theorem dX7_copy_280 : decode cX7_copy 280 = .ok (.return_, 1) := by decide +kernel
theorem dX7_standing_0 : decode cX7_standing 0 = .ok (.aload_n 0, 1) := by decide +kernel
theorem dX7_standing_1 : decode cX7_standing 1 = .ok (.getfield 63, 3) := by decide +kernel
theorem dX7_standing_4 : decode cX7_standing 4 = .ok (.aload_n 0, 1) := by decide +kernel
theorem dX7_standing_5 : decode cX7_standing 5 = .ok (.getfield 56, 3) := by decide +kernel
theorem dX7_standing_8 : decode cX7_standing 8 = .ok (.iand, 1) := by decide +kernel
theorem dX7_standing_9 : decode cX7_standing 9 = .ok (.ireturn, 1) := by decide +kernel
theorem dX7_stands_0 : decode cX7_stands 0 = .ok (.aload_n 0, 1) := by decide +kernel
theorem dX7_stands_1 : decode cX7_stands 1 = .ok (.invokevirtual 91, 3) := by decide +kernel
theorem dX7_stands_4 : decode cX7_stands 4 = .ok (.iload_n 1, 1) := by decide +kernel
theorem dX7_stands_5 : decode cX7_stands 5 = .ok (.invokestatic 75, 3) := by decide +kernel
theorem dX7_stands_8 : decode cX7_stands 8 = .ok (.ireturn, 1) := by decide +kernel
theorem dX7_reaches_0 : decode cX7_reaches 0 = .ok (.aload_n 0, 1) := by decide +kernel
theorem dX7_reaches_1 : decode cX7_reaches 1 = .ok (.getfield 72, 3) := by decide +kernel
theorem dX7_reaches_4 : decode cX7_reaches 4 = .ok (.iload_n 1, 1) := by decide +kernel
theorem dX7_reaches_5 : decode cX7_reaches 5 = .ok (.invokestatic 75, 3) := by decide +kernel
theorem dX7_reaches_8 : decode cX7_reaches 8 = .ok (.aload_n 0, 1) := by decide +kernel
theorem dX7_reaches_9 : decode cX7_reaches 9 = .ok (.getfield 72, 3) := by decide +kernel
theorem dX7_reaches_12 : decode cX7_reaches 12 = .ok (.iload_n 2, 1) := by decide +kernel
theorem dX7_reaches_13 : decode cX7_reaches 13 = .ok (.invokestatic 75, 3) := by decide +kernel
theorem dX7_reaches_16 : decode cX7_reaches 16 = .ok (.if_icmp .ne 7, 3) := by decide +kernel
theorem dX7_reaches_19 : decode cX7_reaches 19 = .ok (.iconst 1, 1) := by decide +kernel
theorem dX7_reaches_20 : decode cX7_reaches 20 = .ok (.goto 4, 3) := by decide +kernel
theorem dX7_reaches_23 : decode cX7_reaches 23 = .ok (.iconst 0, 1) := by decide +kernel
theorem dX7_reaches_24 : decode cX7_reaches 24 = .ok (.ireturn, 1) := by decide +kernel
theorem dX7_send_0 : decode cX7_send 0 = .ok (.aload_n 0, 1) := by decide +kernel
theorem dX7_send_1 : decode cX7_send 1 = .ok (.iload_n 1, 1) := by decide +kernel
theorem dX7_send_2 : decode cX7_send 2 = .ok (.invokevirtual 95, 3) := by decide +kernel
theorem dX7_send_5 : decode cX7_send 5 = .ok (.ifCond .ne 5, 3) := by decide +kernel
theorem dX7_send_8 : decode cX7_send 8 = .ok (.iconst 0, 1) := by decide +kernel
theorem dX7_send_9 : decode cX7_send 9 = .ok (.ireturn, 1) := by decide +kernel
theorem dX7_send_10 : decode cX7_send 10 = .ok (.aload_n 0, 1) := by decide +kernel
theorem dX7_send_11 : decode cX7_send 11 = .ok (.getfield 66, 3) := by decide +kernel
theorem dX7_send_14 : decode cX7_send 14 = .ok (.iload_n 1, 1) := by decide +kernel
theorem dX7_send_15 : decode cX7_send 15 = .ok (.invokestatic 75, 3) := by decide +kernel
theorem dX7_send_18 : decode cX7_send 18 = .ok (.ifCond .eq 12, 3) := by decide +kernel
theorem dX7_send_21 : decode cX7_send 21 = .ok (.aload_n 0, 1) := by decide +kernel
theorem dX7_send_22 : decode cX7_send 22 = .ok (.iload_n 1, 1) := by decide +kernel
theorem dX7_send_23 : decode cX7_send 23 = .ok (.iload_n 2, 1) := by decide +kernel
theorem dX7_send_24 : decode cX7_send 24 = .ok (.invokevirtual 99, 3) := by decide +kernel
theorem dX7_send_27 : decode cX7_send 27 = .ok (.goto 10, 3) := by decide +kernel
theorem dX7_send_30 : decode cX7_send 30 = .ok (.aload_n 0, 1) := by decide +kernel
theorem dX7_send_31 : decode cX7_send 31 = .ok (.iload_n 1, 1) := by decide +kernel
theorem dX7_send_32 : decode cX7_send 32 = .ok (.iload_n 2, 1) := by decide +kernel
theorem dX7_send_33 : decode cX7_send 33 = .ok (.iload_n 3, 1) := by decide +kernel
theorem dX7_send_34 : decode cX7_send 34 = .ok (.invokevirtual 102, 3) := by decide +kernel
theorem dX7_send_37 : decode cX7_send 37 = .ok (.ireturn, 1) := by decide +kernel
theorem dX7_keepBack_0 : decode cX7_keepBack 0 = .ok (.aload_n 0, 1) := by decide +kernel
theorem dX7_keepBack_1 : decode cX7_keepBack 1 = .ok (.getfield 24, 3) := by decide +kernel
theorem dX7_keepBack_4 : decode cX7_keepBack 4 = .ok (.iload_n 1, 1) := by decide +kernel
theorem dX7_keepBack_5 : decode cX7_keepBack 5 = .ok (.iaload, 1) := by decide +kernel
theorem dX7_keepBack_6 : decode cX7_keepBack 6 = .ok (.istore_n 3, 1) := by decide +kernel
theorem dX7_keepBack_7 : decode cX7_keepBack 7 = .ok (.iload_n 3, 1) := by decide +kernel
theorem dX7_keepBack_8 : decode cX7_keepBack 8 = .ok (.ifCond .lt 9, 3) := by decide +kernel
theorem dX7_keepBack_11 : decode cX7_keepBack 11 = .ok (.iload_n 3, 1) := by decide +kernel
theorem dX7_keepBack_12 : decode cX7_keepBack 12 = .ok (.bipush 8, 2) := by decide +kernel
theorem dX7_keepBack_14 : decode cX7_keepBack 14 = .ok (.if_icmp .lt 5, 3) := by decide +kernel
theorem dX7_keepBack_17 : decode cX7_keepBack 17 = .ok (.iconst 0, 1) := by decide +kernel
theorem dX7_keepBack_18 : decode cX7_keepBack 18 = .ok (.ireturn, 1) := by decide +kernel
theorem dX7_keepBack_19 : decode cX7_keepBack 19 = .ok (.aload_n 0, 1) := by decide +kernel
theorem dX7_keepBack_20 : decode cX7_keepBack 20 = .ok (.getfield 27, 3) := by decide +kernel
theorem dX7_keepBack_23 : decode cX7_keepBack 23 = .ok (.iload_n 1, 1) := by decide +kernel
theorem dX7_keepBack_24 : decode cX7_keepBack 24 = .ok (.bipush 8, 2) := by decide +kernel
theorem dX7_keepBack_26 : decode cX7_keepBack 26 = .ok (.imul, 1) := by decide +kernel
theorem dX7_keepBack_27 : decode cX7_keepBack 27 = .ok (.iload_n 3, 1) := by decide +kernel
theorem dX7_keepBack_28 : decode cX7_keepBack 28 = .ok (.iadd, 1) := by decide +kernel
theorem dX7_keepBack_29 : decode cX7_keepBack 29 = .ok (.iload_n 2, 1) := by decide +kernel
theorem dX7_keepBack_30 : decode cX7_keepBack 30 = .ok (.iastore, 1) := by decide +kernel
theorem dX7_keepBack_31 : decode cX7_keepBack 31 = .ok (.aload_n 0, 1) := by decide +kernel
theorem dX7_keepBack_32 : decode cX7_keepBack 32 = .ok (.getfield 24, 3) := by decide +kernel
theorem dX7_keepBack_35 : decode cX7_keepBack 35 = .ok (.iload_n 1, 1) := by decide +kernel
theorem dX7_keepBack_36 : decode cX7_keepBack 36 = .ok (.iload_n 3, 1) := by decide +kernel
theorem dX7_keepBack_37 : decode cX7_keepBack 37 = .ok (.iconst 1, 1) := by decide +kernel
theorem dX7_keepBack_38 : decode cX7_keepBack 38 = .ok (.iadd, 1) := by decide +kernel
theorem dX7_keepBack_39 : decode cX7_keepBack 39 = .ok (.iastore, 1) := by decide +kernel
theorem dX7_keepBack_40 : decode cX7_keepBack 40 = .ok (.iconst 1, 1) := by decide +kernel
theorem dX7_keepBack_41 : decode cX7_keepBack 41 = .ok (.ireturn, 1) := by decide +kernel
theorem dX7_post_0 : decode cX7_post 0 = .ok (.aload_n 0, 1) := by decide +kernel
theorem dX7_post_1 : decode cX7_post 1 = .ok (.getfield 82, 3) := by decide +kernel
theorem dX7_post_4 : decode cX7_post 4 = .ok (.istore 4, 2) := by decide +kernel
theorem dX7_post_6 : decode cX7_post 6 = .ok (.iload 4, 2) := by decide +kernel
theorem dX7_post_8 : decode cX7_post 8 = .ok (.iload_n 3, 1) := by decide +kernel
theorem dX7_post_9 : decode cX7_post 9 = .ok (.if_icmp .ge 15, 3) := by decide +kernel
theorem dX7_post_12 : decode cX7_post 12 = .ok (.iload 4, 2) := by decide +kernel
theorem dX7_post_14 : decode cX7_post 14 = .ok (.ifCond .lt 10, 3) := by decide +kernel
theorem dX7_post_17 : decode cX7_post 17 = .ok (.iload 4, 2) := by decide +kernel
theorem dX7_post_19 : decode cX7_post 19 = .ok (.bipush 30, 2) := by decide +kernel
theorem dX7_post_21 : decode cX7_post 21 = .ok (.if_icmp .lt 5, 3) := by decide +kernel
theorem dX7_post_24 : decode cX7_post 24 = .ok (.iconst 0, 1) := by decide +kernel
theorem dX7_post_25 : decode cX7_post 25 = .ok (.ireturn, 1) := by decide +kernel
theorem dX7_post_26 : decode cX7_post 26 = .ok (.aload_n 0, 1) := by decide +kernel
theorem dX7_post_27 : decode cX7_post 27 = .ok (.iload 4, 2) := by decide +kernel
theorem dX7_post_29 : decode cX7_post 29 = .ok (.iconst 1, 1) := by decide +kernel
theorem dX7_post_30 : decode cX7_post 30 = .ok (.iadd, 1) := by decide +kernel
theorem dX7_post_31 : decode cX7_post 31 = .ok (.putfield 82, 3) := by decide +kernel
theorem dX7_post_34 : decode cX7_post 34 = .ok (.aload_n 0, 1) := by decide +kernel
theorem dX7_post_35 : decode cX7_post 35 = .ok (.getfield 33, 3) := by decide +kernel
theorem dX7_post_38 : decode cX7_post 38 = .ok (.iload 4, 2) := by decide +kernel
theorem dX7_post_40 : decode cX7_post 40 = .ok (.iload_n 1, 1) := by decide +kernel
theorem dX7_post_41 : decode cX7_post 41 = .ok (.iastore, 1) := by decide +kernel
theorem dX7_post_42 : decode cX7_post 42 = .ok (.aload_n 0, 1) := by decide +kernel
theorem dX7_post_43 : decode cX7_post 43 = .ok (.getfield 36, 3) := by decide +kernel
theorem dX7_post_46 : decode cX7_post 46 = .ok (.iload 4, 2) := by decide +kernel
theorem dX7_post_48 : decode cX7_post 48 = .ok (.iload_n 2, 1) := by decide +kernel
theorem dX7_post_49 : decode cX7_post 49 = .ok (.iastore, 1) := by decide +kernel
theorem dX7_post_50 : decode cX7_post 50 = .ok (.aload_n 0, 1) := by decide +kernel
theorem dX7_post_51 : decode cX7_post 51 = .ok (.getfield 39, 3) := by decide +kernel
theorem dX7_post_54 : decode cX7_post 54 = .ok (.iload 4, 2) := by decide +kernel
theorem dX7_post_56 : decode cX7_post 56 = .ok (.aload_n 0, 1) := by decide +kernel
theorem dX7_post_57 : decode cX7_post 57 = .ok (.invokevirtual 91, 3) := by decide +kernel
theorem dX7_post_60 : decode cX7_post 60 = .ok (.iconst 1, 1) := by decide +kernel
theorem dX7_post_61 : decode cX7_post 61 = .ok (.iload_n 1, 1) := by decide +kernel
theorem dX7_post_62 : decode cX7_post 62 = .ok (.ishl, 1) := by decide +kernel
theorem dX7_post_63 : decode cX7_post 63 = .ok (.iconst (-1), 1) := by decide +kernel
theorem dX7_post_64 : decode cX7_post 64 = .ok (.ixor, 1) := by decide +kernel
theorem dX7_post_65 : decode cX7_post 65 = .ok (.iand, 1) := by decide +kernel
theorem dX7_post_66 : decode cX7_post 66 = .ok (.iastore, 1) := by decide +kernel
theorem dX7_post_67 : decode cX7_post 67 = .ok (.aload_n 0, 1) := by decide +kernel
theorem dX7_post_68 : decode cX7_post 68 = .ok (.iload_n 1, 1) := by decide +kernel
theorem dX7_post_69 : decode cX7_post 69 = .ok (.iload 4, 2) := by decide +kernel
theorem dX7_post_71 : decode cX7_post 71 = .ok (.invokevirtual 106, 3) := by decide +kernel
theorem dX7_post_74 : decode cX7_post 74 = .ok (.iconst 1, 1) := by decide +kernel
theorem dX7_post_75 : decode cX7_post 75 = .ok (.ireturn, 1) := by decide +kernel
theorem dX7_deliver_0 : decode cX7_deliver 0 = .ok (.iconst 1, 1) := by decide +kernel
theorem dX7_deliver_1 : decode cX7_deliver 1 = .ok (.iload_n 2, 1) := by decide +kernel
theorem dX7_deliver_2 : decode cX7_deliver 2 = .ok (.ishl, 1) := by decide +kernel
theorem dX7_deliver_3 : decode cX7_deliver 3 = .ok (.istore_n 3, 1) := by decide +kernel
theorem dX7_deliver_4 : decode cX7_deliver 4 = .ok (.aload_n 0, 1) := by decide +kernel
theorem dX7_deliver_5 : decode cX7_deliver 5 = .ok (.getfield 15, 3) := by decide +kernel
theorem dX7_deliver_8 : decode cX7_deliver 8 = .ok (.iload_n 1, 1) := by decide +kernel
theorem dX7_deliver_9 : decode cX7_deliver 9 = .ok (.dup2, 1) := by decide +kernel
theorem dX7_deliver_10 : decode cX7_deliver 10 = .ok (.iaload, 1) := by decide +kernel
theorem dX7_deliver_11 : decode cX7_deliver 11 = .ok (.iload_n 3, 1) := by decide +kernel
theorem dX7_deliver_12 : decode cX7_deliver 12 = .ok (.ior, 1) := by decide +kernel
theorem dX7_deliver_13 : decode cX7_deliver 13 = .ok (.iastore, 1) := by decide +kernel
theorem dX7_deliver_14 : decode cX7_deliver 14 = .ok (.aload_n 0, 1) := by decide +kernel
theorem dX7_deliver_15 : decode cX7_deliver 15 = .ok (.getfield 18, 3) := by decide +kernel
theorem dX7_deliver_18 : decode cX7_deliver 18 = .ok (.iload_n 1, 1) := by decide +kernel
theorem dX7_deliver_19 : decode cX7_deliver 19 = .ok (.dup2, 1) := by decide +kernel
theorem dX7_deliver_20 : decode cX7_deliver 20 = .ok (.iaload, 1) := by decide +kernel
theorem dX7_deliver_21 : decode cX7_deliver 21 = .ok (.iload_n 3, 1) := by decide +kernel
theorem dX7_deliver_22 : decode cX7_deliver 22 = .ok (.ior, 1) := by decide +kernel
theorem dX7_deliver_23 : decode cX7_deliver 23 = .ok (.iastore, 1) := by decide +kernel
theorem dX7_deliver_24 : decode cX7_deliver 24 = .ok (.aload_n 0, 1) := by decide +kernel
theorem dX7_deliver_25 : decode cX7_deliver 25 = .ok (.getfield 21, 3) := by decide +kernel
theorem dX7_deliver_28 : decode cX7_deliver 28 = .ok (.iload_n 1, 1) := by decide +kernel
theorem dX7_deliver_29 : decode cX7_deliver 29 = .ok (.bipush 6, 2) := by decide +kernel
theorem dX7_deliver_31 : decode cX7_deliver 31 = .ok (.imul, 1) := by decide +kernel
theorem dX7_deliver_32 : decode cX7_deliver 32 = .ok (.iload_n 1, 1) := by decide +kernel
theorem dX7_deliver_33 : decode cX7_deliver 33 = .ok (.iadd, 1) := by decide +kernel
theorem dX7_deliver_34 : decode cX7_deliver 34 = .ok (.dup2, 1) := by decide +kernel
theorem dX7_deliver_35 : decode cX7_deliver 35 = .ok (.iaload, 1) := by decide +kernel
theorem dX7_deliver_36 : decode cX7_deliver 36 = .ok (.iload_n 3, 1) := by decide +kernel
theorem dX7_deliver_37 : decode cX7_deliver 37 = .ok (.ior, 1) := by decide +kernel
theorem dX7_deliver_38 : decode cX7_deliver 38 = .ok (.iastore, 1) := by decide +kernel
theorem dX7_deliver_39 : decode cX7_deliver 39 = .ok (.aload_n 0, 1) := by decide +kernel
theorem dX7_deliver_40 : decode cX7_deliver 40 = .ok (.getfield 42, 3) := by decide +kernel
theorem dX7_deliver_43 : decode cX7_deliver 43 = .ok (.iload_n 1, 1) := by decide +kernel
theorem dX7_deliver_44 : decode cX7_deliver 44 = .ok (.dup2, 1) := by decide +kernel
theorem dX7_deliver_45 : decode cX7_deliver 45 = .ok (.laload, 1) := by decide +kernel
theorem dX7_deliver_46 : decode cX7_deliver 46 = .ok (.aload_n 0, 1) := by decide +kernel
theorem dX7_deliver_47 : decode cX7_deliver 47 = .ok (.iload_n 2, 1) := by decide +kernel
theorem dX7_deliver_48 : decode cX7_deliver 48 = .ok (.invokevirtual 110, 3) := by decide +kernel
theorem dX7_deliver_51 : decode cX7_deliver 51 = .ok (.ladd, 1) := by decide +kernel
theorem dX7_deliver_52 : decode cX7_deliver 52 = .ok (.lastore, 1) := by decide +kernel
theorem dX7_deliver_53 : decode cX7_deliver 53 = .ok (.aload_n 0, 1) := by decide +kernel
theorem dX7_deliver_54 : decode cX7_deliver 54 = .ok (.getfield 30, 3) := by decide +kernel
theorem dX7_deliver_57 : decode cX7_deliver 57 = .ok (.iload_n 1, 1) := by decide +kernel
theorem dX7_deliver_58 : decode cX7_deliver 58 = .ok (.iaload, 1) := by decide +kernel
theorem dX7_deliver_59 : decode cX7_deliver 59 = .ok (.istore 4, 2) := by decide +kernel
theorem dX7_deliver_61 : decode cX7_deliver 61 = .ok (.iload 4, 2) := by decide +kernel
theorem dX7_deliver_63 : decode cX7_deliver 63 = .ok (.ifCond .lt 38, 3) := by decide +kernel
theorem dX7_deliver_66 : decode cX7_deliver 66 = .ok (.iload 4, 2) := by decide +kernel
theorem dX7_deliver_68 : decode cX7_deliver 68 = .ok (.bipush 64, 2) := by decide +kernel
theorem dX7_deliver_70 : decode cX7_deliver 70 = .ok (.if_icmp .ge 31, 3) := by decide +kernel
theorem dX7_deliver_73 : decode cX7_deliver 73 = .ok (.aload_n 0, 1) := by decide +kernel
theorem dX7_deliver_74 : decode cX7_deliver 74 = .ok (.getfield 46, 3) := by decide +kernel
theorem dX7_deliver_77 : decode cX7_deliver 77 = .ok (.iload_n 1, 1) := by decide +kernel
theorem dX7_deliver_78 : decode cX7_deliver 78 = .ok (.bipush 64, 2) := by decide +kernel
theorem dX7_deliver_80 : decode cX7_deliver 80 = .ok (.imul, 1) := by decide +kernel
theorem dX7_deliver_81 : decode cX7_deliver 81 = .ok (.iload 4, 2) := by decide +kernel
theorem dX7_deliver_83 : decode cX7_deliver 83 = .ok (.iadd, 1) := by decide +kernel
theorem dX7_deliver_84 : decode cX7_deliver 84 = .ok (.aload_n 0, 1) := by decide +kernel
theorem dX7_deliver_85 : decode cX7_deliver 85 = .ok (.getfield 42, 3) := by decide +kernel
theorem dX7_deliver_88 : decode cX7_deliver 88 = .ok (.iload_n 1, 1) := by decide +kernel
theorem dX7_deliver_89 : decode cX7_deliver 89 = .ok (.laload, 1) := by decide +kernel
theorem dX7_deliver_90 : decode cX7_deliver 90 = .ok (.lastore, 1) := by decide +kernel
theorem dX7_deliver_91 : decode cX7_deliver 91 = .ok (.aload_n 0, 1) := by decide +kernel
theorem dX7_deliver_92 : decode cX7_deliver 92 = .ok (.getfield 30, 3) := by decide +kernel
theorem dX7_deliver_95 : decode cX7_deliver 95 = .ok (.iload_n 1, 1) := by decide +kernel
theorem dX7_deliver_96 : decode cX7_deliver 96 = .ok (.iload 4, 2) := by decide +kernel
theorem dX7_deliver_98 : decode cX7_deliver 98 = .ok (.iconst 1, 1) := by decide +kernel
theorem dX7_deliver_99 : decode cX7_deliver 99 = .ok (.iadd, 1) := by decide +kernel
theorem dX7_deliver_100 : decode cX7_deliver 100 = .ok (.iastore, 1) := by decide +kernel
theorem dX7_deliver_101 : decode cX7_deliver 101 = .ok (.return_, 1) := by decide +kernel
theorem dX7_worthOf_0 : decode cX7_worthOf 0 = .ok (.aload_n 0, 1) := by decide +kernel
theorem dX7_worthOf_1 : decode cX7_worthOf 1 = .ok (.getfield 36, 3) := by decide +kernel
theorem dX7_worthOf_4 : decode cX7_worthOf 4 = .ok (.iload_n 1, 1) := by decide +kernel
theorem dX7_worthOf_5 : decode cX7_worthOf 5 = .ok (.iaload, 1) := by decide +kernel
theorem dX7_worthOf_6 : decode cX7_worthOf 6 = .ok (.i2l, 1) := by decide +kernel
theorem dX7_worthOf_7 : decode cX7_worthOf 7 = .ok (.lconst 1, 1) := by decide +kernel
theorem dX7_worthOf_8 : decode cX7_worthOf 8 = .ok (.ladd, 1) := by decide +kernel
theorem dX7_worthOf_9 : decode cX7_worthOf 9 = .ok (.aload_n 0, 1) := by decide +kernel
theorem dX7_worthOf_10 : decode cX7_worthOf 10 = .ok (.getfield 33, 3) := by decide +kernel
theorem dX7_worthOf_13 : decode cX7_worthOf 13 = .ok (.iload_n 1, 1) := by decide +kernel
theorem dX7_worthOf_14 : decode cX7_worthOf 14 = .ok (.iaload, 1) := by decide +kernel
theorem dX7_worthOf_15 : decode cX7_worthOf 15 = .ok (.i2l, 1) := by decide +kernel
theorem dX7_worthOf_16 : decode cX7_worthOf 16 = .ok (.lconst 1, 1) := by decide +kernel
theorem dX7_worthOf_17 : decode cX7_worthOf 17 = .ok (.ladd, 1) := by decide +kernel
theorem dX7_worthOf_18 : decode cX7_worthOf 18 = .ok (.lmul, 1) := by decide +kernel
theorem dX7_worthOf_19 : decode cX7_worthOf 19 = .ok (.lreturn, 1) := by decide +kernel
theorem dX7_firstOnTheWay_0 : decode cX7_firstOnTheWay 0 = .ok (.aload_n 0, 1) := by decide +kernel
theorem dX7_firstOnTheWay_1 : decode cX7_firstOnTheWay 1 = .ok (.iload_n 1, 1) := by decide +kernel
theorem dX7_firstOnTheWay_2 : decode cX7_firstOnTheWay 2 = .ok (.invokevirtual 95, 3) := by decide +kernel
theorem dX7_firstOnTheWay_5 : decode cX7_firstOnTheWay 5 = .ok (.ifCond .ne 5, 3) := by decide +kernel
theorem dX7_firstOnTheWay_8 : decode cX7_firstOnTheWay 8 = .ok (.iconst (-1), 1) := by decide +kernel
theorem dX7_firstOnTheWay_9 : decode cX7_firstOnTheWay 9 = .ok (.ireturn, 1) := by decide +kernel
theorem dX7_firstOnTheWay_10 : decode cX7_firstOnTheWay 10 = .ok (.iconst 0, 1) := by decide +kernel
theorem dX7_firstOnTheWay_11 : decode cX7_firstOnTheWay 11 = .ok (.istore_n 3, 1) := by decide +kernel
theorem dX7_firstOnTheWay_12 : decode cX7_firstOnTheWay 12 = .ok (.iload_n 3, 1) := by decide +kernel
theorem dX7_firstOnTheWay_13 : decode cX7_firstOnTheWay 13 = .ok (.aload_n 0, 1) := by decide +kernel
theorem dX7_firstOnTheWay_14 : decode cX7_firstOnTheWay 14 = .ok (.getfield 82, 3) := by decide +kernel
theorem dX7_firstOnTheWay_17 : decode cX7_firstOnTheWay 17 = .ok (.if_icmp .ge 48, 3) := by decide +kernel
theorem dX7_firstOnTheWay_20 : decode cX7_firstOnTheWay 20 = .ok (.iload_n 3, 1) := by decide +kernel
theorem dX7_firstOnTheWay_21 : decode cX7_firstOnTheWay 21 = .ok (.bipush 30, 2) := by decide +kernel
theorem dX7_firstOnTheWay_23 : decode cX7_firstOnTheWay 23 = .ok (.if_icmp .ge 42, 3) := by decide +kernel
theorem dX7_firstOnTheWay_26 : decode cX7_firstOnTheWay 26 = .ok (.aload_n 0, 1) := by decide +kernel
theorem dX7_firstOnTheWay_27 : decode cX7_firstOnTheWay 27 = .ok (.getfield 39, 3) := by decide +kernel
theorem dX7_firstOnTheWay_30 : decode cX7_firstOnTheWay 30 = .ok (.iload_n 3, 1) := by decide +kernel
theorem dX7_firstOnTheWay_31 : decode cX7_firstOnTheWay 31 = .ok (.iaload, 1) := by decide +kernel
theorem dX7_firstOnTheWay_32 : decode cX7_firstOnTheWay 32 = .ok (.iload_n 1, 1) := by decide +kernel
theorem dX7_firstOnTheWay_33 : decode cX7_firstOnTheWay 33 = .ok (.invokestatic 75, 3) := by decide +kernel
theorem dX7_firstOnTheWay_36 : decode cX7_firstOnTheWay 36 = .ok (.ifCond .eq 23, 3) := by decide +kernel
theorem dX7_firstOnTheWay_39 : decode cX7_firstOnTheWay 39 = .ok (.iload_n 2, 1) := by decide +kernel
theorem dX7_firstOnTheWay_40 : decode cX7_firstOnTheWay 40 = .ok (.ifCond .eq 17, 3) := by decide +kernel
theorem dX7_firstOnTheWay_43 : decode cX7_firstOnTheWay 43 = .ok (.aload_n 0, 1) := by decide +kernel
theorem dX7_firstOnTheWay_44 : decode cX7_firstOnTheWay 44 = .ok (.iload_n 1, 1) := by decide +kernel
theorem dX7_firstOnTheWay_45 : decode cX7_firstOnTheWay 45 = .ok (.aload_n 0, 1) := by decide +kernel
theorem dX7_firstOnTheWay_46 : decode cX7_firstOnTheWay 46 = .ok (.getfield 33, 3) := by decide +kernel
theorem dX7_firstOnTheWay_49 : decode cX7_firstOnTheWay 49 = .ok (.iload_n 3, 1) := by decide +kernel
theorem dX7_firstOnTheWay_50 : decode cX7_firstOnTheWay 50 = .ok (.iaload, 1) := by decide +kernel
theorem dX7_firstOnTheWay_51 : decode cX7_firstOnTheWay 51 = .ok (.invokevirtual 114, 3) := by decide +kernel
theorem dX7_firstOnTheWay_54 : decode cX7_firstOnTheWay 54 = .ok (.ifCond .eq 5, 3) := by decide +kernel
theorem dX7_firstOnTheWay_57 : decode cX7_firstOnTheWay 57 = .ok (.iload_n 3, 1) := by decide +kernel
theorem dX7_firstOnTheWay_58 : decode cX7_firstOnTheWay 58 = .ok (.ireturn, 1) := by decide +kernel
theorem dX7_firstOnTheWay_59 : decode cX7_firstOnTheWay 59 = .ok (.iinc 3 1, 3) := by decide +kernel
theorem dX7_firstOnTheWay_62 : decode cX7_firstOnTheWay 62 = .ok (.goto (-50), 3) := by decide +kernel
theorem dX7_firstOnTheWay_65 : decode cX7_firstOnTheWay 65 = .ok (.iconst (-1), 1) := by decide +kernel
theorem dX7_firstOnTheWay_66 : decode cX7_firstOnTheWay 66 = .ok (.ireturn, 1) := by decide +kernel
theorem dX7_take_0 : decode cX7_take 0 = .ok (.aload_n 0, 1) := by decide +kernel
theorem dX7_take_1 : decode cX7_take 1 = .ok (.iload_n 1, 1) := by decide +kernel
theorem dX7_take_2 : decode cX7_take 2 = .ok (.iconst 1, 1) := by decide +kernel
theorem dX7_take_3 : decode cX7_take 3 = .ok (.invokevirtual 117, 3) := by decide +kernel
theorem dX7_take_6 : decode cX7_take 6 = .ok (.istore_n 2, 1) := by decide +kernel
theorem dX7_take_7 : decode cX7_take 7 = .ok (.iload_n 2, 1) := by decide +kernel
theorem dX7_take_8 : decode cX7_take 8 = .ok (.ifCond .ge 5, 3) := by decide +kernel
theorem dX7_take_11 : decode cX7_take 11 = .ok (.iconst 0, 1) := by decide +kernel
theorem dX7_take_12 : decode cX7_take 12 = .ok (.ireturn, 1) := by decide +kernel
theorem dX7_take_13 : decode cX7_take 13 = .ok (.aload_n 0, 1) := by decide +kernel
theorem dX7_take_14 : decode cX7_take 14 = .ok (.getfield 39, 3) := by decide +kernel
theorem dX7_take_17 : decode cX7_take 17 = .ok (.iload_n 2, 1) := by decide +kernel
theorem dX7_take_18 : decode cX7_take 18 = .ok (.dup2, 1) := by decide +kernel
theorem dX7_take_19 : decode cX7_take 19 = .ok (.iaload, 1) := by decide +kernel
theorem dX7_take_20 : decode cX7_take 20 = .ok (.iconst 1, 1) := by decide +kernel
theorem dX7_take_21 : decode cX7_take 21 = .ok (.iload_n 1, 1) := by decide +kernel
theorem dX7_take_22 : decode cX7_take 22 = .ok (.ishl, 1) := by decide +kernel
theorem dX7_take_23 : decode cX7_take 23 = .ok (.iconst (-1), 1) := by decide +kernel
theorem dX7_take_24 : decode cX7_take 24 = .ok (.ixor, 1) := by decide +kernel
theorem dX7_take_25 : decode cX7_take 25 = .ok (.iand, 1) := by decide +kernel
theorem dX7_take_26 : decode cX7_take 26 = .ok (.iastore, 1) := by decide +kernel
theorem dX7_take_27 : decode cX7_take 27 = .ok (.aload_n 0, 1) := by decide +kernel
theorem dX7_take_28 : decode cX7_take 28 = .ok (.iload_n 1, 1) := by decide +kernel
theorem dX7_take_29 : decode cX7_take 29 = .ok (.iload_n 2, 1) := by decide +kernel
theorem dX7_take_30 : decode cX7_take 30 = .ok (.invokevirtual 106, 3) := by decide +kernel
theorem dX7_take_33 : decode cX7_take 33 = .ok (.iconst 1, 1) := by decide +kernel
theorem dX7_take_34 : decode cX7_take 34 = .ok (.ireturn, 1) := by decide +kernel
theorem dX7_lose_0 : decode cX7_lose 0 = .ok (.aload_n 0, 1) := by decide +kernel
theorem dX7_lose_1 : decode cX7_lose 1 = .ok (.iload_n 1, 1) := by decide +kernel
theorem dX7_lose_2 : decode cX7_lose 2 = .ok (.iconst 0, 1) := by decide +kernel
theorem dX7_lose_3 : decode cX7_lose 3 = .ok (.invokevirtual 117, 3) := by decide +kernel
theorem dX7_lose_6 : decode cX7_lose 6 = .ok (.istore_n 2, 1) := by decide +kernel
theorem dX7_lose_7 : decode cX7_lose 7 = .ok (.iload_n 2, 1) := by decide +kernel
theorem dX7_lose_8 : decode cX7_lose 8 = .ok (.ifCond .ge 5, 3) := by decide +kernel
theorem dX7_lose_11 : decode cX7_lose 11 = .ok (.iconst 0, 1) := by decide +kernel
theorem dX7_lose_12 : decode cX7_lose 12 = .ok (.ireturn, 1) := by decide +kernel
theorem dX7_lose_13 : decode cX7_lose 13 = .ok (.aload_n 0, 1) := by decide +kernel
theorem dX7_lose_14 : decode cX7_lose 14 = .ok (.getfield 39, 3) := by decide +kernel
theorem dX7_lose_17 : decode cX7_lose 17 = .ok (.iload_n 2, 1) := by decide +kernel
theorem dX7_lose_18 : decode cX7_lose 18 = .ok (.dup2, 1) := by decide +kernel
theorem dX7_lose_19 : decode cX7_lose 19 = .ok (.iaload, 1) := by decide +kernel
theorem dX7_lose_20 : decode cX7_lose 20 = .ok (.iconst 1, 1) := by decide +kernel
theorem dX7_lose_21 : decode cX7_lose 21 = .ok (.iload_n 1, 1) := by decide +kernel
theorem dX7_lose_22 : decode cX7_lose 22 = .ok (.ishl, 1) := by decide +kernel
theorem dX7_lose_23 : decode cX7_lose 23 = .ok (.iconst (-1), 1) := by decide +kernel
theorem dX7_lose_24 : decode cX7_lose 24 = .ok (.ixor, 1) := by decide +kernel
theorem dX7_lose_25 : decode cX7_lose 25 = .ok (.iand, 1) := by decide +kernel
theorem dX7_lose_26 : decode cX7_lose 26 = .ok (.iastore, 1) := by decide +kernel
theorem dX7_lose_27 : decode cX7_lose 27 = .ok (.iconst 1, 1) := by decide +kernel
theorem dX7_lose_28 : decode cX7_lose 28 = .ok (.ireturn, 1) := by decide +kernel
theorem dX7_tell_0 : decode cX7_tell 0 = .ok (.aload_n 0, 1) := by decide +kernel
theorem dX7_tell_1 : decode cX7_tell 1 = .ok (.iload_n 1, 1) := by decide +kernel
theorem dX7_tell_2 : decode cX7_tell 2 = .ok (.invokevirtual 95, 3) := by decide +kernel
theorem dX7_tell_5 : decode cX7_tell 5 = .ok (.ifCond .ne 5, 3) := by decide +kernel
theorem dX7_tell_8 : decode cX7_tell 8 = .ok (.iconst 0, 1) := by decide +kernel
theorem dX7_tell_9 : decode cX7_tell 9 = .ok (.ireturn, 1) := by decide +kernel
theorem dX7_tell_10 : decode cX7_tell 10 = .ok (.iconst 0, 1) := by decide +kernel
theorem dX7_tell_11 : decode cX7_tell 11 = .ok (.istore_n 2, 1) := by decide +kernel
theorem dX7_tell_12 : decode cX7_tell 12 = .ok (.iload_n 2, 1) := by decide +kernel
theorem dX7_tell_13 : decode cX7_tell 13 = .ok (.bipush 6, 2) := by decide +kernel
theorem dX7_tell_15 : decode cX7_tell 15 = .ok (.if_icmp .ge 46, 3) := by decide +kernel
theorem dX7_tell_18 : decode cX7_tell 18 = .ok (.aload_n 0, 1) := by decide +kernel
theorem dX7_tell_19 : decode cX7_tell 19 = .ok (.iload_n 2, 1) := by decide +kernel
theorem dX7_tell_20 : decode cX7_tell 20 = .ok (.invokevirtual 95, 3) := by decide +kernel
theorem dX7_tell_23 : decode cX7_tell 23 = .ok (.ifCond .eq 32, 3) := by decide +kernel
theorem dX7_tell_26 : decode cX7_tell 26 = .ok (.aload_n 0, 1) := by decide +kernel
theorem dX7_tell_27 : decode cX7_tell 27 = .ok (.iload_n 1, 1) := by decide +kernel
theorem dX7_tell_28 : decode cX7_tell 28 = .ok (.iload_n 2, 1) := by decide +kernel
theorem dX7_tell_29 : decode cX7_tell 29 = .ok (.invokevirtual 114, 3) := by decide +kernel
theorem dX7_tell_32 : decode cX7_tell 32 = .ok (.ifCond .eq 23, 3) := by decide +kernel
theorem dX7_tell_35 : decode cX7_tell 35 = .ok (.aload_n 0, 1) := by decide +kernel
theorem dX7_tell_36 : decode cX7_tell 36 = .ok (.getfield 21, 3) := by decide +kernel
theorem dX7_tell_39 : decode cX7_tell 39 = .ok (.iload_n 2, 1) := by decide +kernel
theorem dX7_tell_40 : decode cX7_tell 40 = .ok (.bipush 6, 2) := by decide +kernel
theorem dX7_tell_42 : decode cX7_tell 42 = .ok (.imul, 1) := by decide +kernel
theorem dX7_tell_43 : decode cX7_tell 43 = .ok (.iload_n 1, 1) := by decide +kernel
theorem dX7_tell_44 : decode cX7_tell 44 = .ok (.iadd, 1) := by decide +kernel
theorem dX7_tell_45 : decode cX7_tell 45 = .ok (.dup2, 1) := by decide +kernel
theorem dX7_tell_46 : decode cX7_tell 46 = .ok (.iaload, 1) := by decide +kernel
theorem dX7_tell_47 : decode cX7_tell 47 = .ok (.aload_n 0, 1) := by decide +kernel
theorem dX7_tell_48 : decode cX7_tell 48 = .ok (.getfield 15, 3) := by decide +kernel
theorem dX7_tell_51 : decode cX7_tell 51 = .ok (.iload_n 1, 1) := by decide +kernel
theorem dX7_tell_52 : decode cX7_tell 52 = .ok (.iaload, 1) := by decide +kernel
theorem dX7_tell_53 : decode cX7_tell 53 = .ok (.ior, 1) := by decide +kernel
theorem dX7_tell_54 : decode cX7_tell 54 = .ok (.iastore, 1) := by decide +kernel
theorem dX7_tell_55 : decode cX7_tell 55 = .ok (.iinc 2 1, 3) := by decide +kernel
