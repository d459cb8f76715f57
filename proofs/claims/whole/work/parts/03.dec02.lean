theorem dX7_tell_58 : decode cX7_tell 58 = .ok (.goto (-46), 3) := by decide +kernel
theorem dX7_tell_61 : decode cX7_tell 61 = .ok (.iconst 1, 1) := by decide +kernel
theorem dX7_tell_62 : decode cX7_tell 62 = .ok (.ireturn, 1) := by decide +kernel
theorem dX7_trim_0 : decode cX7_trim 0 = .ok (.aload_n 0, 1) := by decide +kernel
theorem dX7_trim_1 : decode cX7_trim 1 = .ok (.iload_n 1, 1) := by decide +kernel
theorem dX7_trim_2 : decode cX7_trim 2 = .ok (.invokevirtual 95, 3) := by decide +kernel
theorem dX7_trim_5 : decode cX7_trim 5 = .ok (.ifCond .ne 5, 3) := by decide +kernel
theorem dX7_trim_8 : decode cX7_trim 8 = .ok (.iconst 0, 1) := by decide +kernel
theorem dX7_trim_9 : decode cX7_trim 9 = .ok (.ireturn, 1) := by decide +kernel
theorem dX7_trim_10 : decode cX7_trim 10 = .ok (.aload_n 0, 1) := by decide +kernel
theorem dX7_trim_11 : decode cX7_trim 11 = .ok (.getfield 18, 3) := by decide +kernel
theorem dX7_trim_14 : decode cX7_trim 14 = .ok (.iload_n 1, 1) := by decide +kernel
theorem dX7_trim_15 : decode cX7_trim 15 = .ok (.iaload, 1) := by decide +kernel
theorem dX7_trim_16 : decode cX7_trim 16 = .ok (.aload_n 0, 1) := by decide +kernel
theorem dX7_trim_17 : decode cX7_trim 17 = .ok (.iload_n 1, 1) := by decide +kernel
theorem dX7_trim_18 : decode cX7_trim 18 = .ok (.invokevirtual 121, 3) := by decide +kernel
theorem dX7_trim_21 : decode cX7_trim 21 = .ok (.iand, 1) := by decide +kernel
theorem dX7_trim_22 : decode cX7_trim 22 = .ok (.istore_n 2, 1) := by decide +kernel
theorem dX7_trim_23 : decode cX7_trim 23 = .ok (.aload_n 0, 1) := by decide +kernel
theorem dX7_trim_24 : decode cX7_trim 24 = .ok (.getfield 18, 3) := by decide +kernel
theorem dX7_trim_27 : decode cX7_trim 27 = .ok (.iload_n 1, 1) := by decide +kernel
theorem dX7_trim_28 : decode cX7_trim 28 = .ok (.dup2, 1) := by decide +kernel
theorem dX7_trim_29 : decode cX7_trim 29 = .ok (.iaload, 1) := by decide +kernel
theorem dX7_trim_30 : decode cX7_trim 30 = .ok (.iload_n 2, 1) := by decide +kernel
theorem dX7_trim_31 : decode cX7_trim 31 = .ok (.iconst (-1), 1) := by decide +kernel
theorem dX7_trim_32 : decode cX7_trim 32 = .ok (.ixor, 1) := by decide +kernel
theorem dX7_trim_33 : decode cX7_trim 33 = .ok (.iand, 1) := by decide +kernel
theorem dX7_trim_34 : decode cX7_trim 34 = .ok (.iastore, 1) := by decide +kernel
theorem dX7_trim_35 : decode cX7_trim 35 = .ok (.iload_n 2, 1) := by decide +kernel
theorem dX7_trim_36 : decode cX7_trim 36 = .ok (.ifCond .eq 7, 3) := by decide +kernel
theorem dX7_trim_39 : decode cX7_trim 39 = .ok (.iconst 1, 1) := by decide +kernel
theorem dX7_trim_40 : decode cX7_trim 40 = .ok (.goto 4, 3) := by decide +kernel
theorem dX7_trim_43 : decode cX7_trim 43 = .ok (.iconst 0, 1) := by decide +kernel
theorem dX7_trim_44 : decode cX7_trim 44 = .ok (.ireturn, 1) := by decide +kernel
theorem dX7_stableBy_0 : decode cX7_stableBy 0 = .ok (.iload_n 1, 1) := by decide +kernel
theorem dX7_stableBy_1 : decode cX7_stableBy 1 = .ok (.ifCond .lt 9, 3) := by decide +kernel
theorem dX7_stableBy_4 : decode cX7_stableBy 4 = .ok (.iload_n 1, 1) := by decide +kernel
theorem dX7_stableBy_5 : decode cX7_stableBy 5 = .ok (.bipush 6, 2) := by decide +kernel
theorem dX7_stableBy_7 : decode cX7_stableBy 7 = .ok (.if_icmp .lt 5, 3) := by decide +kernel
theorem dX7_stableBy_10 : decode cX7_stableBy 10 = .ok (.iconst 0, 1) := by decide +kernel
theorem dX7_stableBy_11 : decode cX7_stableBy 11 = .ok (.ireturn, 1) := by decide +kernel
theorem dX7_stableBy_12 : decode cX7_stableBy 12 = .ok (.aload_n 0, 1) := by decide +kernel
theorem dX7_stableBy_13 : decode cX7_stableBy 13 = .ok (.getfield 82, 3) := by decide +kernel
theorem dX7_stableBy_16 : decode cX7_stableBy 16 = .ok (.invokestatic 59, 3) := by decide +kernel
theorem dX7_stableBy_19 : decode cX7_stableBy 19 = .ok (.istore_n 2, 1) := by decide +kernel
theorem dX7_stableBy_20 : decode cX7_stableBy 20 = .ok (.iconst 0, 1) := by decide +kernel
theorem dX7_stableBy_21 : decode cX7_stableBy 21 = .ok (.istore_n 3, 1) := by decide +kernel
theorem dX7_stableBy_22 : decode cX7_stableBy 22 = .ok (.iload_n 3, 1) := by decide +kernel
theorem dX7_stableBy_23 : decode cX7_stableBy 23 = .ok (.bipush 6, 2) := by decide +kernel
theorem dX7_stableBy_25 : decode cX7_stableBy 25 = .ok (.if_icmp .ge 34, 3) := by decide +kernel
theorem dX7_stableBy_28 : decode cX7_stableBy 28 = .ok (.aload_n 0, 1) := by decide +kernel
theorem dX7_stableBy_29 : decode cX7_stableBy 29 = .ok (.getfield 53, 3) := by decide +kernel
theorem dX7_stableBy_32 : decode cX7_stableBy 32 = .ok (.iload_n 3, 1) := by decide +kernel
theorem dX7_stableBy_33 : decode cX7_stableBy 33 = .ok (.invokestatic 75, 3) := by decide +kernel
theorem dX7_stableBy_36 : decode cX7_stableBy 36 = .ok (.ifCond .eq 17, 3) := by decide +kernel
theorem dX7_stableBy_39 : decode cX7_stableBy 39 = .ok (.iload_n 2, 1) := by decide +kernel
theorem dX7_stableBy_40 : decode cX7_stableBy 40 = .ok (.aload_n 0, 1) := by decide +kernel
theorem dX7_stableBy_41 : decode cX7_stableBy 41 = .ok (.getfield 21, 3) := by decide +kernel
theorem dX7_stableBy_44 : decode cX7_stableBy 44 = .ok (.iload_n 1, 1) := by decide +kernel
theorem dX7_stableBy_45 : decode cX7_stableBy 45 = .ok (.bipush 6, 2) := by decide +kernel
theorem dX7_stableBy_47 : decode cX7_stableBy 47 = .ok (.imul, 1) := by decide +kernel
theorem dX7_stableBy_48 : decode cX7_stableBy 48 = .ok (.iload_n 3, 1) := by decide +kernel
theorem dX7_stableBy_49 : decode cX7_stableBy 49 = .ok (.iadd, 1) := by decide +kernel
theorem dX7_stableBy_50 : decode cX7_stableBy 50 = .ok (.iaload, 1) := by decide +kernel
theorem dX7_stableBy_51 : decode cX7_stableBy 51 = .ok (.iand, 1) := by decide +kernel
theorem dX7_stableBy_52 : decode cX7_stableBy 52 = .ok (.istore_n 2, 1) := by decide +kernel
theorem dX7_stableBy_53 : decode cX7_stableBy 53 = .ok (.iinc 3 1, 3) := by decide +kernel
theorem dX7_stableBy_56 : decode cX7_stableBy 56 = .ok (.goto (-34), 3) := by decide +kernel
theorem dX7_stableBy_59 : decode cX7_stableBy 59 = .ok (.iload_n 2, 1) := by decide +kernel
theorem dX7_stableBy_60 : decode cX7_stableBy 60 = .ok (.ireturn, 1) := by decide +kernel
theorem dX7_crash_0 : decode cX7_crash 0 = .ok (.aload_n 0, 1) := by decide +kernel
theorem dX7_crash_1 : decode cX7_crash 1 = .ok (.getfield 63, 3) := by decide +kernel
theorem dX7_crash_4 : decode cX7_crash 4 = .ok (.iload_n 1, 1) := by decide +kernel
theorem dX7_crash_5 : decode cX7_crash 5 = .ok (.invokestatic 75, 3) := by decide +kernel
theorem dX7_crash_8 : decode cX7_crash 8 = .ok (.ifCond .ne 5, 3) := by decide +kernel
theorem dX7_crash_11 : decode cX7_crash 11 = .ok (.iconst 0, 1) := by decide +kernel
theorem dX7_crash_12 : decode cX7_crash 12 = .ok (.ireturn, 1) := by decide +kernel
theorem dX7_crash_13 : decode cX7_crash 13 = .ok (.iconst 1, 1) := by decide +kernel
theorem dX7_crash_14 : decode cX7_crash 14 = .ok (.iload_n 1, 1) := by decide +kernel
theorem dX7_crash_15 : decode cX7_crash 15 = .ok (.ishl, 1) := by decide +kernel
theorem dX7_crash_16 : decode cX7_crash 16 = .ok (.iconst (-1), 1) := by decide +kernel
theorem dX7_crash_17 : decode cX7_crash 17 = .ok (.ixor, 1) := by decide +kernel
theorem dX7_crash_18 : decode cX7_crash 18 = .ok (.istore_n 2, 1) := by decide +kernel
theorem dX7_crash_19 : decode cX7_crash 19 = .ok (.aload_n 0, 1) := by decide +kernel
theorem dX7_crash_20 : decode cX7_crash 20 = .ok (.dup, 1) := by decide +kernel
theorem dX7_crash_21 : decode cX7_crash 21 = .ok (.getfield 63, 3) := by decide +kernel
theorem dX7_crash_24 : decode cX7_crash 24 = .ok (.iload_n 2, 1) := by decide +kernel
theorem dX7_crash_25 : decode cX7_crash 25 = .ok (.iand, 1) := by decide +kernel
theorem dX7_crash_26 : decode cX7_crash 26 = .ok (.putfield 63, 3) := by decide +kernel
theorem dX7_crash_29 : decode cX7_crash 29 = .ok (.aload_n 0, 1) := by decide +kernel
theorem dX7_crash_30 : decode cX7_crash 30 = .ok (.dup, 1) := by decide +kernel
theorem dX7_crash_31 : decode cX7_crash 31 = .ok (.getfield 56, 3) := by decide +kernel
theorem dX7_crash_34 : decode cX7_crash 34 = .ok (.iload_n 2, 1) := by decide +kernel
theorem dX7_crash_35 : decode cX7_crash 35 = .ok (.iand, 1) := by decide +kernel
theorem dX7_crash_36 : decode cX7_crash 36 = .ok (.putfield 56, 3) := by decide +kernel
theorem dX7_crash_39 : decode cX7_crash 39 = .ok (.aload_n 0, 1) := by decide +kernel
theorem dX7_crash_40 : decode cX7_crash 40 = .ok (.dup, 1) := by decide +kernel
theorem dX7_crash_41 : decode cX7_crash 41 = .ok (.getfield 66, 3) := by decide +kernel
theorem dX7_crash_44 : decode cX7_crash 44 = .ok (.iload_n 2, 1) := by decide +kernel
theorem dX7_crash_45 : decode cX7_crash 45 = .ok (.iand, 1) := by decide +kernel
theorem dX7_crash_46 : decode cX7_crash 46 = .ok (.putfield 66, 3) := by decide +kernel
theorem dX7_crash_49 : decode cX7_crash 49 = .ok (.aload_n 0, 1) := by decide +kernel
theorem dX7_crash_50 : decode cX7_crash 50 = .ok (.dup, 1) := by decide +kernel
theorem dX7_crash_51 : decode cX7_crash 51 = .ok (.getfield 69, 3) := by decide +kernel
theorem dX7_crash_54 : decode cX7_crash 54 = .ok (.iload_n 2, 1) := by decide +kernel
theorem dX7_crash_55 : decode cX7_crash 55 = .ok (.iand, 1) := by decide +kernel
theorem dX7_crash_56 : decode cX7_crash 56 = .ok (.putfield 69, 3) := by decide +kernel
theorem dX7_crash_59 : decode cX7_crash 59 = .ok (.aload_n 0, 1) := by decide +kernel
theorem dX7_crash_60 : decode cX7_crash 60 = .ok (.getfield 24, 3) := by decide +kernel
theorem dX7_crash_63 : decode cX7_crash 63 = .ok (.iload_n 1, 1) := by decide +kernel
theorem dX7_crash_64 : decode cX7_crash 64 = .ok (.iconst 0, 1) := by decide +kernel
theorem dX7_crash_65 : decode cX7_crash 65 = .ok (.iastore, 1) := by decide +kernel
theorem dX7_crash_66 : decode cX7_crash 66 = .ok (.aload_n 0, 1) := by decide +kernel
theorem dX7_crash_67 : decode cX7_crash 67 = .ok (.getfield 15, 3) := by decide +kernel
theorem dX7_crash_70 : decode cX7_crash 70 = .ok (.iload_n 1, 1) := by decide +kernel
theorem dX7_crash_71 : decode cX7_crash 71 = .ok (.iconst 0, 1) := by decide +kernel
theorem dX7_crash_72 : decode cX7_crash 72 = .ok (.iastore, 1) := by decide +kernel
theorem dX7_crash_73 : decode cX7_crash 73 = .ok (.aload_n 0, 1) := by decide +kernel
theorem dX7_crash_74 : decode cX7_crash 74 = .ok (.getfield 18, 3) := by decide +kernel
theorem dX7_crash_77 : decode cX7_crash 77 = .ok (.iload_n 1, 1) := by decide +kernel
theorem dX7_crash_78 : decode cX7_crash 78 = .ok (.iconst 0, 1) := by decide +kernel
theorem dX7_crash_79 : decode cX7_crash 79 = .ok (.iastore, 1) := by decide +kernel
theorem dX7_crash_80 : decode cX7_crash 80 = .ok (.iconst 0, 1) := by decide +kernel
theorem dX7_crash_81 : decode cX7_crash 81 = .ok (.istore_n 3, 1) := by decide +kernel
theorem dX7_crash_82 : decode cX7_crash 82 = .ok (.iload_n 3, 1) := by decide +kernel
theorem dX7_crash_83 : decode cX7_crash 83 = .ok (.bipush 6, 2) := by decide +kernel
theorem dX7_crash_85 : decode cX7_crash 85 = .ok (.if_icmp .ge 21, 3) := by decide +kernel
theorem dX7_crash_88 : decode cX7_crash 88 = .ok (.aload_n 0, 1) := by decide +kernel
theorem dX7_crash_89 : decode cX7_crash 89 = .ok (.getfield 21, 3) := by decide +kernel
theorem dX7_crash_92 : decode cX7_crash 92 = .ok (.iload_n 1, 1) := by decide +kernel
theorem dX7_crash_93 : decode cX7_crash 93 = .ok (.bipush 6, 2) := by decide +kernel
theorem dX7_crash_95 : decode cX7_crash 95 = .ok (.imul, 1) := by decide +kernel
theorem dX7_crash_96 : decode cX7_crash 96 = .ok (.iload_n 3, 1) := by decide +kernel
theorem dX7_crash_97 : decode cX7_crash 97 = .ok (.iadd, 1) := by decide +kernel
theorem dX7_crash_98 : decode cX7_crash 98 = .ok (.iconst 0, 1) := by decide +kernel
theorem dX7_crash_99 : decode cX7_crash 99 = .ok (.iastore, 1) := by decide +kernel
theorem dX7_crash_100 : decode cX7_crash 100 = .ok (.iinc 3 1, 3) := by decide +kernel
theorem dX7_crash_103 : decode cX7_crash 103 = .ok (.goto (-21), 3) := by decide +kernel
theorem dX7_crash_106 : decode cX7_crash 106 = .ok (.iconst 0, 1) := by decide +kernel
theorem dX7_crash_107 : decode cX7_crash 107 = .ok (.istore_n 3, 1) := by decide +kernel
theorem dX7_crash_108 : decode cX7_crash 108 = .ok (.iload_n 3, 1) := by decide +kernel
theorem dX7_crash_109 : decode cX7_crash 109 = .ok (.bipush 30, 2) := by decide +kernel
theorem dX7_crash_111 : decode cX7_crash 111 = .ok (.if_icmp .ge 19, 3) := by decide +kernel
theorem dX7_crash_114 : decode cX7_crash 114 = .ok (.aload_n 0, 1) := by decide +kernel
theorem dX7_crash_115 : decode cX7_crash 115 = .ok (.getfield 39, 3) := by decide +kernel
theorem dX7_crash_118 : decode cX7_crash 118 = .ok (.iload_n 3, 1) := by decide +kernel
theorem dX7_crash_119 : decode cX7_crash 119 = .ok (.dup2, 1) := by decide +kernel
theorem dX7_crash_120 : decode cX7_crash 120 = .ok (.iaload, 1) := by decide +kernel
theorem dX7_crash_121 : decode cX7_crash 121 = .ok (.iload_n 2, 1) := by decide +kernel
theorem dX7_crash_122 : decode cX7_crash 122 = .ok (.iand, 1) := by decide +kernel
theorem dX7_crash_123 : decode cX7_crash 123 = .ok (.iastore, 1) := by decide +kernel
theorem dX7_crash_124 : decode cX7_crash 124 = .ok (.iinc 3 1, 3) := by decide +kernel
theorem dX7_crash_127 : decode cX7_crash 127 = .ok (.goto (-19), 3) := by decide +kernel
theorem dX7_crash_130 : decode cX7_crash 130 = .ok (.iconst 1, 1) := by decide +kernel
theorem dX7_crash_131 : decode cX7_crash 131 = .ok (.ireturn, 1) := by decide +kernel
theorem dX7_join_0 : decode cX7_join 0 = .ok (.aload_n 0, 1) := by decide +kernel
theorem dX7_join_1 : decode cX7_join 1 = .ok (.iload_n 1, 1) := by decide +kernel
theorem dX7_join_2 : decode cX7_join 2 = .ok (.invokevirtual 95, 3) := by decide +kernel
theorem dX7_join_5 : decode cX7_join 5 = .ok (.ifCond .ne 14, 3) := by decide +kernel
theorem dX7_join_8 : decode cX7_join 8 = .ok (.aload_n 0, 1) := by decide +kernel
theorem dX7_join_9 : decode cX7_join 9 = .ok (.getfield 69, 3) := by decide +kernel
theorem dX7_join_12 : decode cX7_join 12 = .ok (.iload_n 1, 1) := by decide +kernel
theorem dX7_join_13 : decode cX7_join 13 = .ok (.invokestatic 75, 3) := by decide +kernel
theorem dX7_join_16 : decode cX7_join 16 = .ok (.ifCond .eq 5, 3) := by decide +kernel
theorem dX7_join_19 : decode cX7_join 19 = .ok (.iconst 0, 1) := by decide +kernel
theorem dX7_join_20 : decode cX7_join 20 = .ok (.ireturn, 1) := by decide +kernel
theorem dX7_join_21 : decode cX7_join 21 = .ok (.aload_n 0, 1) := by decide +kernel
theorem dX7_join_22 : decode cX7_join 22 = .ok (.dup, 1) := by decide +kernel
theorem dX7_join_23 : decode cX7_join 23 = .ok (.getfield 63, 3) := by decide +kernel
theorem dX7_join_26 : decode cX7_join 26 = .ok (.iconst 1, 1) := by decide +kernel
theorem dX7_join_27 : decode cX7_join 27 = .ok (.iload_n 1, 1) := by decide +kernel
theorem dX7_join_28 : decode cX7_join 28 = .ok (.ishl, 1) := by decide +kernel
theorem dX7_join_29 : decode cX7_join 29 = .ok (.ior, 1) := by decide +kernel
theorem dX7_join_30 : decode cX7_join 30 = .ok (.putfield 63, 3) := by decide +kernel
theorem dX7_join_33 : decode cX7_join 33 = .ok (.aload_n 0, 1) := by decide +kernel
theorem dX7_join_34 : decode cX7_join 34 = .ok (.dup, 1) := by decide +kernel
theorem dX7_join_35 : decode cX7_join 35 = .ok (.getfield 69, 3) := by decide +kernel
theorem dX7_join_38 : decode cX7_join 38 = .ok (.iconst 1, 1) := by decide +kernel
theorem dX7_join_39 : decode cX7_join 39 = .ok (.iload_n 1, 1) := by decide +kernel
theorem dX7_join_40 : decode cX7_join 40 = .ok (.ishl, 1) := by decide +kernel
theorem dX7_join_41 : decode cX7_join 41 = .ok (.ior, 1) := by decide +kernel
theorem dX7_join_42 : decode cX7_join 42 = .ok (.putfield 69, 3) := by decide +kernel
theorem dX7_join_45 : decode cX7_join 45 = .ok (.iconst 1, 1) := by decide +kernel
theorem dX7_join_46 : decode cX7_join 46 = .ok (.ireturn, 1) := by decide +kernel
theorem dX7_part_0 : decode cX7_part 0 = .ok (.aload_n 0, 1) := by decide +kernel
theorem dX7_part_1 : decode cX7_part 1 = .ok (.getfield 72, 3) := by decide +kernel
theorem dX7_part_4 : decode cX7_part 4 = .ok (.iload_n 1, 1) := by decide +kernel
theorem dX7_part_5 : decode cX7_part 5 = .ok (.if_icmp .ne 5, 3) := by decide +kernel
theorem dX7_part_8 : decode cX7_part 8 = .ok (.iconst 0, 1) := by decide +kernel
theorem dX7_part_9 : decode cX7_part 9 = .ok (.ireturn, 1) := by decide +kernel
theorem dX7_part_10 : decode cX7_part 10 = .ok (.aload_n 0, 1) := by decide +kernel
theorem dX7_part_11 : decode cX7_part 11 = .ok (.iload_n 1, 1) := by decide +kernel
theorem dX7_part_12 : decode cX7_part 12 = .ok (.putfield 72, 3) := by decide +kernel
theorem dX7_part_15 : decode cX7_part 15 = .ok (.iconst 1, 1) := by decide +kernel
theorem dX7_part_16 : decode cX7_part 16 = .ok (.ireturn, 1) := by decide +kernel
theorem dX7_keptBy_0 : decode cX7_keptBy 0 = .ok (.iconst 0, 1) := by decide +kernel
theorem dX7_keptBy_1 : decode cX7_keptBy 1 = .ok (.istore_n 2, 1) := by decide +kernel
theorem dX7_keptBy_2 : decode cX7_keptBy 2 = .ok (.iconst 0, 1) := by decide +kernel
theorem dX7_keptBy_3 : decode cX7_keptBy 3 = .ok (.istore_n 3, 1) := by decide +kernel
theorem dX7_keptBy_4 : decode cX7_keptBy 4 = .ok (.iload_n 3, 1) := by decide +kernel
theorem dX7_keptBy_5 : decode cX7_keptBy 5 = .ok (.bipush 6, 2) := by decide +kernel
theorem dX7_keptBy_7 : decode cX7_keptBy 7 = .ok (.if_icmp .ge 30, 3) := by decide +kernel
theorem dX7_keptBy_10 : decode cX7_keptBy 10 = .ok (.iload_n 2, 1) := by decide +kernel
theorem dX7_keptBy_11 : decode cX7_keptBy 11 = .ok (.iload_n 1, 1) := by decide +kernel
theorem dX7_keptBy_12 : decode cX7_keptBy 12 = .ok (.iload_n 3, 1) := by decide +kernel
theorem dX7_keptBy_13 : decode cX7_keptBy 13 = .ok (.invokestatic 75, 3) := by decide +kernel
theorem dX7_keptBy_16 : decode cX7_keptBy 16 = .ok (.ifCond .eq 12, 3) := by decide +kernel
theorem dX7_keptBy_19 : decode cX7_keptBy 19 = .ok (.aload_n 0, 1) := by decide +kernel
theorem dX7_keptBy_20 : decode cX7_keptBy 20 = .ok (.getfield 18, 3) := by decide +kernel
theorem dX7_keptBy_23 : decode cX7_keptBy 23 = .ok (.iload_n 3, 1) := by decide +kernel
theorem dX7_keptBy_24 : decode cX7_keptBy 24 = .ok (.iaload, 1) := by decide +kernel
theorem dX7_keptBy_25 : decode cX7_keptBy 25 = .ok (.goto 4, 3) := by decide +kernel
theorem dX7_keptBy_28 : decode cX7_keptBy 28 = .ok (.iconst 0, 1) := by decide +kernel
theorem dX7_keptBy_29 : decode cX7_keptBy 29 = .ok (.ior, 1) := by decide +kernel
theorem dX7_keptBy_30 : decode cX7_keptBy 30 = .ok (.istore_n 2, 1) := by decide +kernel
theorem dX7_keptBy_31 : decode cX7_keptBy 31 = .ok (.iinc 3 1, 3) := by decide +kernel
theorem dX7_keptBy_34 : decode cX7_keptBy 34 = .ok (.goto (-30), 3) := by decide +kernel
theorem dX7_keptBy_37 : decode cX7_keptBy 37 = .ok (.iload_n 2, 1) := by decide +kernel
theorem dX7_keptBy_38 : decode cX7_keptBy 38 = .ok (.ireturn, 1) := by decide +kernel
theorem dX7_lackOf_0 : decode cX7_lackOf 0 = .ok (.iload_n 2, 1) := by decide +kernel
theorem dX7_lackOf_1 : decode cX7_lackOf 1 = .ok (.iload_n 1, 1) := by decide +kernel
theorem dX7_lackOf_2 : decode cX7_lackOf 2 = .ok (.invokestatic 75, 3) := by decide +kernel
theorem dX7_lackOf_5 : decode cX7_lackOf 5 = .ok (.ifCond .eq 20, 3) := by decide +kernel
theorem dX7_lackOf_8 : decode cX7_lackOf 8 = .ok (.aload_n 0, 1) := by decide +kernel
theorem dX7_lackOf_9 : decode cX7_lackOf 9 = .ok (.iload_n 2, 1) := by decide +kernel
theorem dX7_lackOf_10 : decode cX7_lackOf 10 = .ok (.invokevirtual 124, 3) := by decide +kernel
theorem dX7_lackOf_13 : decode cX7_lackOf 13 = .ok (.aload_n 0, 1) := by decide +kernel
theorem dX7_lackOf_14 : decode cX7_lackOf 14 = .ok (.getfield 15, 3) := by decide +kernel
theorem dX7_lackOf_17 : decode cX7_lackOf 17 = .ok (.iload_n 1, 1) := by decide +kernel
theorem dX7_lackOf_18 : decode cX7_lackOf 18 = .ok (.iaload, 1) := by decide +kernel
theorem dX7_lackOf_19 : decode cX7_lackOf 19 = .ok (.iconst (-1), 1) := by decide +kernel
theorem dX7_lackOf_20 : decode cX7_lackOf 20 = .ok (.ixor, 1) := by decide +kernel
theorem dX7_lackOf_21 : decode cX7_lackOf 21 = .ok (.iand, 1) := by decide +kernel
theorem dX7_lackOf_22 : decode cX7_lackOf 22 = .ok (.goto 4, 3) := by decide +kernel
theorem dX7_lackOf_25 : decode cX7_lackOf 25 = .ok (.iconst 0, 1) := by decide +kernel
theorem dX7_lackOf_26 : decode cX7_lackOf 26 = .ok (.ireturn, 1) := by decide +kernel
theorem dX7_gotByNoneOf_0 : decode cX7_gotByNoneOf 0 = .ok (.aload_n 0, 1) := by decide +kernel
theorem dX7_gotByNoneOf_1 : decode cX7_gotByNoneOf 1 = .ok (.getfield 82, 3) := by decide +kernel
theorem dX7_gotByNoneOf_4 : decode cX7_gotByNoneOf 4 = .ok (.invokestatic 59, 3) := by decide +kernel
theorem dX7_gotByNoneOf_7 : decode cX7_gotByNoneOf 7 = .ok (.istore_n 2, 1) := by decide +kernel
theorem dX7_gotByNoneOf_8 : decode cX7_gotByNoneOf 8 = .ok (.iconst 0, 1) := by decide +kernel
theorem dX7_gotByNoneOf_9 : decode cX7_gotByNoneOf 9 = .ok (.istore_n 3, 1) := by decide +kernel
theorem dX7_gotByNoneOf_10 : decode cX7_gotByNoneOf 10 = .ok (.iload_n 3, 1) := by decide +kernel
theorem dX7_gotByNoneOf_11 : decode cX7_gotByNoneOf 11 = .ok (.bipush 6, 2) := by decide +kernel
theorem dX7_gotByNoneOf_13 : decode cX7_gotByNoneOf 13 = .ok (.if_icmp .ge 32, 3) := by decide +kernel
theorem dX7_gotByNoneOf_16 : decode cX7_gotByNoneOf 16 = .ok (.iload_n 2, 1) := by decide +kernel
theorem dX7_gotByNoneOf_17 : decode cX7_gotByNoneOf 17 = .ok (.iload_n 1, 1) := by decide +kernel
theorem dX7_gotByNoneOf_18 : decode cX7_gotByNoneOf 18 = .ok (.iload_n 3, 1) := by decide +kernel
theorem dX7_gotByNoneOf_19 : decode cX7_gotByNoneOf 19 = .ok (.invokestatic 75, 3) := by decide +kernel
theorem dX7_gotByNoneOf_22 : decode cX7_gotByNoneOf 22 = .ok (.ifCond .eq 14, 3) := by decide +kernel
theorem dX7_gotByNoneOf_25 : decode cX7_gotByNoneOf 25 = .ok (.aload_n 0, 1) := by decide +kernel
theorem dX7_gotByNoneOf_26 : decode cX7_gotByNoneOf 26 = .ok (.getfield 15, 3) := by decide +kernel
theorem dX7_gotByNoneOf_29 : decode cX7_gotByNoneOf 29 = .ok (.iload_n 3, 1) := by decide +kernel
theorem dX7_gotByNoneOf_30 : decode cX7_gotByNoneOf 30 = .ok (.iaload, 1) := by decide +kernel
theorem dX7_gotByNoneOf_31 : decode cX7_gotByNoneOf 31 = .ok (.iconst (-1), 1) := by decide +kernel
theorem dX7_gotByNoneOf_32 : decode cX7_gotByNoneOf 32 = .ok (.ixor, 1) := by decide +kernel
theorem dX7_gotByNoneOf_33 : decode cX7_gotByNoneOf 33 = .ok (.goto 4, 3) := by decide +kernel
theorem dX7_gotByNoneOf_36 : decode cX7_gotByNoneOf 36 = .ok (.iconst (-1), 1) := by decide +kernel
theorem dX7_gotByNoneOf_37 : decode cX7_gotByNoneOf 37 = .ok (.iand, 1) := by decide +kernel
theorem dX7_gotByNoneOf_38 : decode cX7_gotByNoneOf 38 = .ok (.istore_n 2, 1) := by decide +kernel
theorem dX7_gotByNoneOf_39 : decode cX7_gotByNoneOf 39 = .ok (.iinc 3 1, 3) := by decide +kernel
theorem dX7_gotByNoneOf_42 : decode cX7_gotByNoneOf 42 = .ok (.goto (-32), 3) := by decide +kernel
theorem dX7_gotByNoneOf_45 : decode cX7_gotByNoneOf 45 = .ok (.iload_n 2, 1) := by decide +kernel
theorem dX7_gotByNoneOf_46 : decode cX7_gotByNoneOf 46 = .ok (.ireturn, 1) := by decide +kernel
theorem dX7_wouldAgree_0 : decode cX7_wouldAgree 0 = .ok (.iconst 1, 1) := by decide +kernel
theorem dX7_wouldAgree_1 : decode cX7_wouldAgree 1 = .ok (.istore_n 2, 1) := by decide +kernel
theorem dX7_wouldAgree_2 : decode cX7_wouldAgree 2 = .ok (.lconst 0, 1) := by decide +kernel
theorem dX7_wouldAgree_3 : decode cX7_wouldAgree 3 = .ok (.lstore_n 3, 1) := by decide +kernel
theorem dX7_wouldAgree_4 : decode cX7_wouldAgree 4 = .ok (.iconst 0, 1) := by decide +kernel
theorem dX7_wouldAgree_5 : decode cX7_wouldAgree 5 = .ok (.istore 5, 2) := by decide +kernel
theorem dX7_wouldAgree_7 : decode cX7_wouldAgree 7 = .ok (.iload 5, 2) := by decide +kernel
theorem dX7_wouldAgree_9 : decode cX7_wouldAgree 9 = .ok (.bipush 6, 2) := by decide +kernel
theorem dX7_wouldAgree_11 : decode cX7_wouldAgree 11 = .ok (.if_icmp .ge 48, 3) := by decide +kernel
theorem dX7_wouldAgree_14 : decode cX7_wouldAgree 14 = .ok (.iload_n 1, 1) := by decide +kernel
theorem dX7_wouldAgree_15 : decode cX7_wouldAgree 15 = .ok (.iload 5, 2) := by decide +kernel
theorem dX7_wouldAgree_17 : decode cX7_wouldAgree 17 = .ok (.invokestatic 75, 3) := by decide +kernel
theorem dX7_wouldAgree_20 : decode cX7_wouldAgree 20 = .ok (.ifCond .ne 6, 3) := by decide +kernel
theorem dX7_wouldAgree_23 : decode cX7_wouldAgree 23 = .ok (.goto 30, 3) := by decide +kernel
theorem dX7_wouldAgree_26 : decode cX7_wouldAgree 26 = .ok (.aload_n 0, 1) := by decide +kernel
theorem dX7_wouldAgree_27 : decode cX7_wouldAgree 27 = .ok (.iload 5, 2) := by decide +kernel
theorem dX7_wouldAgree_29 : decode cX7_wouldAgree 29 = .ok (.iload_n 1, 1) := by decide +kernel
theorem dX7_wouldAgree_30 : decode cX7_wouldAgree 30 = .ok (.invokevirtual 127, 3) := by decide +kernel
theorem dX7_wouldAgree_33 : decode cX7_wouldAgree 33 = .ok (.lstore 6, 2) := by decide +kernel
theorem dX7_wouldAgree_35 : decode cX7_wouldAgree 35 = .ok (.iload_n 2, 1) := by decide +kernel
theorem dX7_wouldAgree_36 : decode cX7_wouldAgree 36 = .ok (.ifCond .ne 12, 3) := by decide +kernel
theorem dX7_wouldAgree_39 : decode cX7_wouldAgree 39 = .ok (.lload 6, 2) := by decide +kernel
theorem dX7_wouldAgree_41 : decode cX7_wouldAgree 41 = .ok (.lload_n 3, 1) := by decide +kernel
theorem dX7_wouldAgree_42 : decode cX7_wouldAgree 42 = .ok (.lcmp, 1) := by decide +kernel
theorem dX7_wouldAgree_43 : decode cX7_wouldAgree 43 = .ok (.ifCond .eq 5, 3) := by decide +kernel
theorem dX7_wouldAgree_46 : decode cX7_wouldAgree 46 = .ok (.iconst 0, 1) := by decide +kernel
theorem dX7_wouldAgree_47 : decode cX7_wouldAgree 47 = .ok (.ireturn, 1) := by decide +kernel
theorem dX7_wouldAgree_48 : decode cX7_wouldAgree 48 = .ok (.iconst 0, 1) := by decide +kernel
theorem dX7_wouldAgree_49 : decode cX7_wouldAgree 49 = .ok (.istore_n 2, 1) := by decide +kernel
theorem dX7_wouldAgree_50 : decode cX7_wouldAgree 50 = .ok (.lload 6, 2) := by decide +kernel
theorem dX7_wouldAgree_52 : decode cX7_wouldAgree 52 = .ok (.lstore_n 3, 1) := by decide +kernel
theorem dX7_wouldAgree_53 : decode cX7_wouldAgree 53 = .ok (.iinc 5 1, 3) := by decide +kernel
theorem dX7_wouldAgree_56 : decode cX7_wouldAgree 56 = .ok (.goto (-49), 3) := by decide +kernel
theorem dX7_wouldAgree_59 : decode cX7_wouldAgree 59 = .ok (.iconst 1, 1) := by decide +kernel
theorem dX7_wouldAgree_60 : decode cX7_wouldAgree 60 = .ok (.ireturn, 1) := by decide +kernel
theorem dX7_sumBehindFlush_0 : decode cX7_sumBehindFlush 0 = .ok (.aload_n 0, 1) := by decide +kernel
theorem dX7_sumBehindFlush_1 : decode cX7_sumBehindFlush 1 = .ok (.iload_n 1, 1) := by decide +kernel
theorem dX7_sumBehindFlush_2 : decode cX7_sumBehindFlush 2 = .ok (.iload_n 2, 1) := by decide +kernel
theorem dX7_sumBehindFlush_3 : decode cX7_sumBehindFlush 3 = .ok (.invokevirtual 131, 3) := by decide +kernel
theorem dX7_sumBehindFlush_6 : decode cX7_sumBehindFlush 6 = .ok (.istore_n 3, 1) := by decide +kernel
theorem dX7_sumBehindFlush_7 : decode cX7_sumBehindFlush 7 = .ok (.aload_n 0, 1) := by decide +kernel
theorem dX7_sumBehindFlush_8 : decode cX7_sumBehindFlush 8 = .ok (.getfield 42, 3) := by decide +kernel
theorem dX7_sumBehindFlush_11 : decode cX7_sumBehindFlush 11 = .ok (.iload_n 1, 1) := by decide +kernel
theorem dX7_sumBehindFlush_12 : decode cX7_sumBehindFlush 12 = .ok (.laload, 1) := by decide +kernel
theorem dX7_sumBehindFlush_13 : decode cX7_sumBehindFlush 13 = .ok (.lstore 4, 2) := by decide +kernel
theorem dX7_sumBehindFlush_15 : decode cX7_sumBehindFlush 15 = .ok (.iconst 0, 1) := by decide +kernel
theorem dX7_sumBehindFlush_16 : decode cX7_sumBehindFlush 16 = .ok (.istore 6, 2) := by decide +kernel
theorem dX7_sumBehindFlush_18 : decode cX7_sumBehindFlush 18 = .ok (.iload 6, 2) := by decide +kernel
theorem dX7_sumBehindFlush_20 : decode cX7_sumBehindFlush 20 = .ok (.bipush 30, 2) := by decide +kernel
theorem dX7_sumBehindFlush_22 : decode cX7_sumBehindFlush 22 = .ok (.if_icmp .ge 33, 3) := by decide +kernel
theorem dX7_sumBehindFlush_25 : decode cX7_sumBehindFlush 25 = .ok (.lload 4, 2) := by decide +kernel
theorem dX7_sumBehindFlush_27 : decode cX7_sumBehindFlush 27 = .ok (.iload_n 3, 1) := by decide +kernel
theorem dX7_sumBehindFlush_28 : decode cX7_sumBehindFlush 28 = .ok (.iload 6, 2) := by decide +kernel
theorem dX7_sumBehindFlush_30 : decode cX7_sumBehindFlush 30 = .ok (.ishr, 1) := by decide +kernel
theorem dX7_sumBehindFlush_31 : decode cX7_sumBehindFlush 31 = .ok (.iconst 1, 1) := by decide +kernel
theorem dX7_sumBehindFlush_32 : decode cX7_sumBehindFlush 32 = .ok (.iand, 1) := by decide +kernel
theorem dX7_sumBehindFlush_33 : decode cX7_sumBehindFlush 33 = .ok (.ifCond .eq 12, 3) := by decide +kernel
theorem dX7_sumBehindFlush_36 : decode cX7_sumBehindFlush 36 = .ok (.aload_n 0, 1) := by decide +kernel
theorem dX7_sumBehindFlush_37 : decode cX7_sumBehindFlush 37 = .ok (.iload 6, 2) := by decide +kernel
theorem dX7_sumBehindFlush_39 : decode cX7_sumBehindFlush 39 = .ok (.invokevirtual 110, 3) := by decide +kernel
theorem dX7_sumBehindFlush_42 : decode cX7_sumBehindFlush 42 = .ok (.goto 4, 3) := by decide +kernel
theorem dX7_sumBehindFlush_45 : decode cX7_sumBehindFlush 45 = .ok (.lconst 0, 1) := by decide +kernel
theorem dX7_sumBehindFlush_46 : decode cX7_sumBehindFlush 46 = .ok (.ladd, 1) := by decide +kernel
theorem dX7_sumBehindFlush_47 : decode cX7_sumBehindFlush 47 = .ok (.lstore 4, 2) := by decide +kernel
theorem dX7_sumBehindFlush_49 : decode cX7_sumBehindFlush 49 = .ok (.iinc 6 1, 3) := by decide +kernel
theorem dX7_sumBehindFlush_52 : decode cX7_sumBehindFlush 52 = .ok (.goto (-34), 3) := by decide +kernel
theorem dX7_sumBehindFlush_55 : decode cX7_sumBehindFlush 55 = .ok (.lload 4, 2) := by decide +kernel
theorem dX7_sumBehindFlush_57 : decode cX7_sumBehindFlush 57 = .ok (.lreturn, 1) := by decide +kernel
theorem dX7_flush_0 : decode cX7_flush 0 = .ok (.aload_n 0, 1) := by decide +kernel
theorem dX7_flush_1 : decode cX7_flush 1 = .ok (.iload_n 1, 1) := by decide +kernel
theorem dX7_flush_2 : decode cX7_flush 2 = .ok (.invokevirtual 124, 3) := by decide +kernel
theorem dX7_flush_5 : decode cX7_flush 5 = .ok (.istore_n 2, 1) := by decide +kernel
theorem dX7_flush_6 : decode cX7_flush 6 = .ok (.iconst 0, 1) := by decide +kernel
theorem dX7_flush_7 : decode cX7_flush 7 = .ok (.istore_n 3, 1) := by decide +kernel
theorem dX7_flush_8 : decode cX7_flush 8 = .ok (.iload_n 3, 1) := by decide +kernel
theorem dX7_flush_9 : decode cX7_flush 9 = .ok (.bipush 6, 2) := by decide +kernel
theorem dX7_flush_11 : decode cX7_flush 11 = .ok (.if_icmp .ge 66, 3) := by decide +kernel
theorem dX7_flush_14 : decode cX7_flush 14 = .ok (.iload_n 1, 1) := by decide +kernel
theorem dX7_flush_15 : decode cX7_flush 15 = .ok (.iload_n 3, 1) := by decide +kernel
theorem dX7_flush_16 : decode cX7_flush 16 = .ok (.invokestatic 75, 3) := by decide +kernel
theorem dX7_flush_19 : decode cX7_flush 19 = .ok (.ifCond .eq 16, 3) := by decide +kernel
theorem dX7_flush_22 : decode cX7_flush 22 = .ok (.iload_n 2, 1) := by decide +kernel
theorem dX7_flush_23 : decode cX7_flush 23 = .ok (.aload_n 0, 1) := by decide +kernel
theorem dX7_flush_24 : decode cX7_flush 24 = .ok (.getfield 15, 3) := by decide +kernel
theorem dX7_flush_27 : decode cX7_flush 27 = .ok (.iload_n 3, 1) := by decide +kernel
theorem dX7_flush_28 : decode cX7_flush 28 = .ok (.iaload, 1) := by decide +kernel
theorem dX7_flush_29 : decode cX7_flush 29 = .ok (.iconst (-1), 1) := by decide +kernel
theorem dX7_flush_30 : decode cX7_flush 30 = .ok (.ixor, 1) := by decide +kernel
theorem dX7_flush_31 : decode cX7_flush 31 = .ok (.iand, 1) := by decide +kernel
theorem dX7_flush_32 : decode cX7_flush 32 = .ok (.goto 4, 3) := by decide +kernel
theorem dX7_flush_35 : decode cX7_flush 35 = .ok (.iconst 0, 1) := by decide +kernel
theorem dX7_flush_36 : decode cX7_flush 36 = .ok (.istore 4, 2) := by decide +kernel
theorem dX7_flush_38 : decode cX7_flush 38 = .ok (.iconst 0, 1) := by decide +kernel
theorem dX7_flush_39 : decode cX7_flush 39 = .ok (.istore 5, 2) := by decide +kernel
theorem dX7_flush_41 : decode cX7_flush 41 = .ok (.iload 5, 2) := by decide +kernel
theorem dX7_flush_43 : decode cX7_flush 43 = .ok (.bipush 30, 2) := by decide +kernel
theorem dX7_flush_45 : decode cX7_flush 45 = .ok (.if_icmp .ge 26, 3) := by decide +kernel
theorem dX7_flush_48 : decode cX7_flush 48 = .ok (.iload 4, 2) := by decide +kernel
theorem dX7_flush_50 : decode cX7_flush 50 = .ok (.iload 5, 2) := by decide +kernel
theorem dX7_flush_52 : decode cX7_flush 52 = .ok (.ishr, 1) := by decide +kernel
theorem dX7_flush_53 : decode cX7_flush 53 = .ok (.iconst 1, 1) := by decide +kernel
theorem dX7_flush_54 : decode cX7_flush 54 = .ok (.iand, 1) := by decide +kernel
theorem dX7_flush_55 : decode cX7_flush 55 = .ok (.ifCond .eq 10, 3) := by decide +kernel
theorem dX7_flush_58 : decode cX7_flush 58 = .ok (.aload_n 0, 1) := by decide +kernel
theorem dX7_flush_59 : decode cX7_flush 59 = .ok (.iload_n 3, 1) := by decide +kernel
theorem dX7_flush_60 : decode cX7_flush 60 = .ok (.iload 5, 2) := by decide +kernel
theorem dX7_flush_62 : decode cX7_flush 62 = .ok (.invokevirtual 106, 3) := by decide +kernel
theorem dX7_flush_65 : decode cX7_flush 65 = .ok (.iinc 5 1, 3) := by decide +kernel
theorem dX7_flush_68 : decode cX7_flush 68 = .ok (.goto (-27), 3) := by decide +kernel
theorem dX7_flush_71 : decode cX7_flush 71 = .ok (.iinc 3 1, 3) := by decide +kernel
theorem dX7_flush_74 : decode cX7_flush 74 = .ok (.goto (-66), 3) := by decide +kernel
theorem dX7_flush_77 : decode cX7_flush 77 = .ok (.return_, 1) := by decide +kernel
theorem dX7_changeView_0 : decode cX7_changeView 0 = .ok (.aload_n 0, 1) := by decide +kernel
theorem dX7_changeView_1 : decode cX7_changeView 1 = .ok (.iload_n 1, 1) := by decide +kernel
theorem dX7_changeView_2 : decode cX7_changeView 2 = .ok (.invokevirtual 135, 3) := by decide +kernel
theorem dX7_changeView_5 : decode cX7_changeView 5 = .ok (.iload_n 1, 1) := by decide +kernel
theorem dX7_changeView_6 : decode cX7_changeView 6 = .ok (.invokestatic 139, 3) := by decide +kernel
theorem dX7_changeView_9 : decode cX7_changeView 9 = .ok (.istore_n 3, 1) := by decide +kernel
theorem dX7_changeView_10 : decode cX7_changeView 10 = .ok (.aload_n 0, 1) := by decide +kernel
theorem dX7_changeView_11 : decode cX7_changeView 11 = .ok (.dup, 1) := by decide +kernel
theorem dX7_changeView_12 : decode cX7_changeView 12 = .ok (.getfield 49, 3) := by decide +kernel
theorem dX7_changeView_15 : decode cX7_changeView 15 = .ok (.iconst 1, 1) := by decide +kernel
theorem dX7_changeView_16 : decode cX7_changeView 16 = .ok (.iadd, 1) := by decide +kernel
theorem dX7_changeView_17 : decode cX7_changeView 17 = .ok (.putfield 49, 3) := by decide +kernel
theorem dX7_changeView_20 : decode cX7_changeView 20 = .ok (.aload_n 0, 1) := by decide +kernel
theorem dX7_changeView_21 : decode cX7_changeView 21 = .ok (.iload_n 1, 1) := by decide +kernel
theorem dX7_changeView_22 : decode cX7_changeView 22 = .ok (.iload_n 2, 1) := by decide +kernel
theorem dX7_changeView_23 : decode cX7_changeView 23 = .ok (.ior, 1) := by decide +kernel
theorem dX7_changeView_24 : decode cX7_changeView 24 = .ok (.putfield 53, 3) := by decide +kernel
theorem dX7_changeView_27 : decode cX7_changeView 27 = .ok (.iconst 0, 1) := by decide +kernel
theorem dX7_changeView_28 : decode cX7_changeView 28 = .ok (.istore 4, 2) := by decide +kernel
theorem dX7_changeView_30 : decode cX7_changeView 30 = .ok (.iload 4, 2) := by decide +kernel
theorem dX7_changeView_32 : decode cX7_changeView 32 = .ok (.bipush 6, 2) := by decide +kernel
theorem dX7_changeView_34 : decode cX7_changeView 34 = .ok (.if_icmp .ge 96, 3) := by decide +kernel
theorem dX7_changeView_37 : decode cX7_changeView 37 = .ok (.aload_n 0, 1) := by decide +kernel
theorem dX7_changeView_38 : decode cX7_changeView 38 = .ok (.getfield 53, 3) := by decide +kernel
theorem dX7_changeView_41 : decode cX7_changeView 41 = .ok (.iload 4, 2) := by decide +kernel
theorem dX7_changeView_43 : decode cX7_changeView 43 = .ok (.invokestatic 75, 3) := by decide +kernel
theorem dX7_changeView_46 : decode cX7_changeView 46 = .ok (.ifCond .eq 17, 3) := by decide +kernel
theorem dX7_changeView_49 : decode cX7_changeView 49 = .ok (.aload_n 0, 1) := by decide +kernel
theorem dX7_changeView_50 : decode cX7_changeView 50 = .ok (.getfield 9, 3) := by decide +kernel
theorem dX7_changeView_53 : decode cX7_changeView 53 = .ok (.iload 4, 2) := by decide +kernel
theorem dX7_changeView_55 : decode cX7_changeView 55 = .ok (.dup2, 1) := by decide +kernel
theorem dX7_changeView_56 : decode cX7_changeView 56 = .ok (.iaload, 1) := by decide +kernel
theorem dX7_changeView_57 : decode cX7_changeView 57 = .ok (.iconst 1, 1) := by decide +kernel
theorem dX7_changeView_58 : decode cX7_changeView 58 = .ok (.iadd, 1) := by decide +kernel
theorem dX7_changeView_59 : decode cX7_changeView 59 = .ok (.iastore, 1) := by decide +kernel
theorem dX7_changeView_60 : decode cX7_changeView 60 = .ok (.goto 11, 3) := by decide +kernel
theorem dX7_changeView_63 : decode cX7_changeView 63 = .ok (.aload_n 0, 1) := by decide +kernel
theorem dX7_changeView_64 : decode cX7_changeView 64 = .ok (.getfield 24, 3) := by decide +kernel
theorem dX7_changeView_67 : decode cX7_changeView 67 = .ok (.iload 4, 2) := by decide +kernel
theorem dX7_changeView_69 : decode cX7_changeView 69 = .ok (.iconst 0, 1) := by decide +kernel
theorem dX7_changeView_70 : decode cX7_changeView 70 = .ok (.iastore, 1) := by decide +kernel
theorem dX7_changeView_71 : decode cX7_changeView 71 = .ok (.iload_n 2, 1) := by decide +kernel
theorem dX7_changeView_72 : decode cX7_changeView 72 = .ok (.iload 4, 2) := by decide +kernel
theorem dX7_changeView_74 : decode cX7_changeView 74 = .ok (.invokestatic 75, 3) := by decide +kernel
theorem dX7_changeView_77 : decode cX7_changeView 77 = .ok (.ifCond .eq 47, 3) := by decide +kernel
theorem dX7_changeView_80 : decode cX7_changeView 80 = .ok (.iload_n 3, 1) := by decide +kernel
theorem dX7_changeView_81 : decode cX7_changeView 81 = .ok (.bipush 6, 2) := by decide +kernel
theorem dX7_changeView_83 : decode cX7_changeView 83 = .ok (.if_icmp .ge 41, 3) := by decide +kernel
theorem dX7_changeView_86 : decode cX7_changeView 86 = .ok (.aload_n 0, 1) := by decide +kernel
theorem dX7_changeView_87 : decode cX7_changeView 87 = .ok (.getfield 42, 3) := by decide +kernel
theorem dX7_changeView_90 : decode cX7_changeView 90 = .ok (.iload 4, 2) := by decide +kernel
theorem dX7_changeView_92 : decode cX7_changeView 92 = .ok (.aload_n 0, 1) := by decide +kernel
theorem dX7_changeView_93 : decode cX7_changeView 93 = .ok (.getfield 42, 3) := by decide +kernel
theorem dX7_changeView_96 : decode cX7_changeView 96 = .ok (.iload_n 3, 1) := by decide +kernel
theorem dX7_changeView_97 : decode cX7_changeView 97 = .ok (.laload, 1) := by decide +kernel
theorem dX7_changeView_98 : decode cX7_changeView 98 = .ok (.lastore, 1) := by decide +kernel
theorem dX7_changeView_99 : decode cX7_changeView 99 = .ok (.aload_n 0, 1) := by decide +kernel
theorem dX7_changeView_100 : decode cX7_changeView 100 = .ok (.getfield 46, 3) := by decide +kernel
theorem dX7_changeView_103 : decode cX7_changeView 103 = .ok (.iload 4, 2) := by decide +kernel
theorem dX7_changeView_105 : decode cX7_changeView 105 = .ok (.bipush 64, 2) := by decide +kernel
theorem dX7_changeView_107 : decode cX7_changeView 107 = .ok (.imul, 1) := by decide +kernel
theorem dX7_changeView_108 : decode cX7_changeView 108 = .ok (.aload_n 0, 1) := by decide +kernel
theorem dX7_changeView_109 : decode cX7_changeView 109 = .ok (.getfield 42, 3) := by decide +kernel
theorem dX7_changeView_112 : decode cX7_changeView 112 = .ok (.iload 4, 2) := by decide +kernel
theorem dX7_changeView_114 : decode cX7_changeView 114 = .ok (.laload, 1) := by decide +kernel
theorem dX7_changeView_115 : decode cX7_changeView 115 = .ok (.lastore, 1) := by decide +kernel
theorem dX7_changeView_116 : decode cX7_changeView 116 = .ok (.aload_n 0, 1) := by decide +kernel
theorem dX7_changeView_117 : decode cX7_changeView 117 = .ok (.getfield 30, 3) := by decide +kernel
theorem dX7_changeView_120 : decode cX7_changeView 120 = .ok (.iload 4, 2) := by decide +kernel
theorem dX7_changeView_122 : decode cX7_changeView 122 = .ok (.iconst 1, 1) := by decide +kernel
theorem dX7_changeView_123 : decode cX7_changeView 123 = .ok (.iastore, 1) := by decide +kernel
theorem dX7_changeView_124 : decode cX7_changeView 124 = .ok (.iinc 4 1, 3) := by decide +kernel
theorem dX7_changeView_127 : decode cX7_changeView 127 = .ok (.goto (-97), 3) := by decide +kernel
theorem dX7_changeView_130 : decode cX7_changeView 130 = .ok (.aload_n 0, 1) := by decide +kernel
theorem dX7_changeView_131 : decode cX7_changeView 131 = .ok (.aload_n 0, 1) := by decide +kernel
theorem dX7_changeView_132 : decode cX7_changeView 132 = .ok (.getfield 53, 3) := by decide +kernel
theorem dX7_changeView_135 : decode cX7_changeView 135 = .ok (.putfield 56, 3) := by decide +kernel
theorem dX7_changeView_138 : decode cX7_changeView 138 = .ok (.aload_n 0, 1) := by decide +kernel
theorem dX7_changeView_139 : decode cX7_changeView 139 = .ok (.dup, 1) := by decide +kernel
theorem dX7_changeView_140 : decode cX7_changeView 140 = .ok (.getfield 69, 3) := by decide +kernel
theorem dX7_changeView_143 : decode cX7_changeView 143 = .ok (.iload_n 2, 1) := by decide +kernel
theorem dX7_changeView_144 : decode cX7_changeView 144 = .ok (.iconst (-1), 1) := by decide +kernel
theorem dX7_changeView_145 : decode cX7_changeView 145 = .ok (.ixor, 1) := by decide +kernel
theorem dX7_changeView_146 : decode cX7_changeView 146 = .ok (.iand, 1) := by decide +kernel
theorem dX7_changeView_147 : decode cX7_changeView 147 = .ok (.putfield 69, 3) := by decide +kernel
theorem dX7_changeView_150 : decode cX7_changeView 150 = .ok (.aload_n 0, 1) := by decide +kernel
theorem dX7_changeView_151 : decode cX7_changeView 151 = .ok (.iconst 0, 1) := by decide +kernel
theorem dX7_changeView_152 : decode cX7_changeView 152 = .ok (.putfield 66, 3) := by decide +kernel
theorem dX7_changeView_155 : decode cX7_changeView 155 = .ok (.aload_n 0, 1) := by decide +kernel
theorem dX7_changeView_156 : decode cX7_changeView 156 = .ok (.invokevirtual 79, 3) := by decide +kernel
theorem dX7_changeView_159 : decode cX7_changeView 159 = .ok (.return_, 1) := by decide +kernel
theorem dX7_dropMessages_0 : decode cX7_dropMessages 0 = .ok (.aload_n 0, 1) := by decide +kernel
theorem dX7_dropMessages_1 : decode cX7_dropMessages 1 = .ok (.iconst 0, 1) := by decide +kernel
theorem dX7_dropMessages_2 : decode cX7_dropMessages 2 = .ok (.putfield 82, 3) := by decide +kernel
theorem dX7_dropMessages_5 : decode cX7_dropMessages 5 = .ok (.iconst 0, 1) := by decide +kernel
theorem dX7_dropMessages_6 : decode cX7_dropMessages 6 = .ok (.istore_n 1, 1) := by decide +kernel
theorem dX7_dropMessages_7 : decode cX7_dropMessages 7 = .ok (.iload_n 1, 1) := by decide +kernel
theorem dX7_dropMessages_8 : decode cX7_dropMessages 8 = .ok (.bipush 6, 2) := by decide +kernel
theorem dX7_dropMessages_10 : decode cX7_dropMessages 10 = .ok (.if_icmp .ge 23, 3) := by decide +kernel
theorem dX7_dropMessages_13 : decode cX7_dropMessages 13 = .ok (.aload_n 0, 1) := by decide +kernel
theorem dX7_dropMessages_14 : decode cX7_dropMessages 14 = .ok (.getfield 15, 3) := by decide +kernel
theorem dX7_dropMessages_17 : decode cX7_dropMessages 17 = .ok (.iload_n 1, 1) := by decide +kernel
theorem dX7_dropMessages_18 : decode cX7_dropMessages 18 = .ok (.iconst 0, 1) := by decide +kernel
theorem dX7_dropMessages_19 : decode cX7_dropMessages 19 = .ok (.iastore, 1) := by decide +kernel
theorem dX7_dropMessages_20 : decode cX7_dropMessages 20 = .ok (.aload_n 0, 1) := by decide +kernel
theorem dX7_dropMessages_21 : decode cX7_dropMessages 21 = .ok (.getfield 18, 3) := by decide +kernel
theorem dX7_dropMessages_24 : decode cX7_dropMessages 24 = .ok (.iload_n 1, 1) := by decide +kernel
theorem dX7_dropMessages_25 : decode cX7_dropMessages 25 = .ok (.iconst 0, 1) := by decide +kernel
theorem dX7_dropMessages_26 : decode cX7_dropMessages 26 = .ok (.iastore, 1) := by decide +kernel
theorem dX7_dropMessages_27 : decode cX7_dropMessages 27 = .ok (.iinc 1 1, 3) := by decide +kernel
theorem dX7_dropMessages_30 : decode cX7_dropMessages 30 = .ok (.goto (-23), 3) := by decide +kernel
theorem dX7_dropMessages_33 : decode cX7_dropMessages 33 = .ok (.iconst 0, 1) := by decide +kernel
theorem dX7_dropMessages_34 : decode cX7_dropMessages 34 = .ok (.istore_n 1, 1) := by decide +kernel
theorem dX7_dropMessages_35 : decode cX7_dropMessages 35 = .ok (.iload_n 1, 1) := by decide +kernel
theorem dX7_dropMessages_36 : decode cX7_dropMessages 36 = .ok (.aload_n 0, 1) := by decide +kernel
theorem dX7_dropMessages_37 : decode cX7_dropMessages 37 = .ok (.getfield 21, 3) := by decide +kernel
theorem dX7_dropMessages_40 : decode cX7_dropMessages 40 = .ok (.arraylength, 1) := by decide +kernel
theorem dX7_dropMessages_41 : decode cX7_dropMessages 41 = .ok (.if_icmp .ge 16, 3) := by decide +kernel
theorem dX7_dropMessages_44 : decode cX7_dropMessages 44 = .ok (.aload_n 0, 1) := by decide +kernel
theorem dX7_dropMessages_45 : decode cX7_dropMessages 45 = .ok (.getfield 21, 3) := by decide +kernel
theorem dX7_dropMessages_48 : decode cX7_dropMessages 48 = .ok (.iload_n 1, 1) := by decide +kernel
theorem dX7_dropMessages_49 : decode cX7_dropMessages 49 = .ok (.iconst 0, 1) := by decide +kernel
theorem dX7_dropMessages_50 : decode cX7_dropMessages 50 = .ok (.iastore, 1) := by decide +kernel
theorem dX7_dropMessages_51 : decode cX7_dropMessages 51 = .ok (.iinc 1 1, 3) := by decide +kernel
theorem dX7_dropMessages_54 : decode cX7_dropMessages 54 = .ok (.goto (-19), 3) := by decide +kernel
theorem dX7_dropMessages_57 : decode cX7_dropMessages 57 = .ok (.iconst 0, 1) := by decide +kernel
theorem dX7_dropMessages_58 : decode cX7_dropMessages 58 = .ok (.istore_n 1, 1) := by decide +kernel
theorem dX7_dropMessages_59 : decode cX7_dropMessages 59 = .ok (.iload_n 1, 1) := by decide +kernel
theorem dX7_dropMessages_60 : decode cX7_dropMessages 60 = .ok (.bipush 30, 2) := by decide +kernel
theorem dX7_dropMessages_62 : decode cX7_dropMessages 62 = .ok (.if_icmp .ge 16, 3) := by decide +kernel
theorem dX7_dropMessages_65 : decode cX7_dropMessages 65 = .ok (.aload_n 0, 1) := by decide +kernel
theorem dX7_dropMessages_66 : decode cX7_dropMessages 66 = .ok (.getfield 39, 3) := by decide +kernel
theorem dX7_dropMessages_69 : decode cX7_dropMessages 69 = .ok (.iload_n 1, 1) := by decide +kernel
theorem dX7_dropMessages_70 : decode cX7_dropMessages 70 = .ok (.iconst 0, 1) := by decide +kernel
theorem dX7_dropMessages_71 : decode cX7_dropMessages 71 = .ok (.iastore, 1) := by decide +kernel
theorem dX7_dropMessages_72 : decode cX7_dropMessages 72 = .ok (.iinc 1 1, 3) := by decide +kernel
theorem dX7_dropMessages_75 : decode cX7_dropMessages 75 = .ok (.goto (-16), 3) := by decide +kernel
theorem dX7_dropMessages_78 : decode cX7_dropMessages 78 = .ok (.return_, 1) := by decide +kernel
theorem dX7_sendHeld_0 : decode cX7_sendHeld 0 = .ok (.iconst 0, 1) := by decide +kernel
theorem dX7_sendHeld_1 : decode cX7_sendHeld 1 = .ok (.istore_n 2, 1) := by decide +kernel
theorem dX7_sendHeld_2 : decode cX7_sendHeld 2 = .ok (.iload_n 2, 1) := by decide +kernel
theorem dX7_sendHeld_3 : decode cX7_sendHeld 3 = .ok (.bipush 6, 2) := by decide +kernel
theorem dX7_sendHeld_5 : decode cX7_sendHeld 5 = .ok (.if_icmp .ge 58, 3) := by decide +kernel
theorem dX7_sendHeld_8 : decode cX7_sendHeld 8 = .ok (.iconst 0, 1) := by decide +kernel
theorem dX7_sendHeld_9 : decode cX7_sendHeld 9 = .ok (.istore_n 3, 1) := by decide +kernel
theorem dX7_sendHeld_10 : decode cX7_sendHeld 10 = .ok (.iload_n 3, 1) := by decide +kernel
theorem dX7_sendHeld_11 : decode cX7_sendHeld 11 = .ok (.aload_n 0, 1) := by decide +kernel
theorem dX7_sendHeld_12 : decode cX7_sendHeld 12 = .ok (.getfield 24, 3) := by decide +kernel
theorem dX7_sendHeld_15 : decode cX7_sendHeld 15 = .ok (.iload_n 2, 1) := by decide +kernel
theorem dX7_sendHeld_16 : decode cX7_sendHeld 16 = .ok (.iaload, 1) := by decide +kernel
theorem dX7_sendHeld_17 : decode cX7_sendHeld 17 = .ok (.if_icmp .ge 33, 3) := by decide +kernel
theorem dX7_sendHeld_20 : decode cX7_sendHeld 20 = .ok (.iload_n 3, 1) := by decide +kernel
theorem dX7_sendHeld_21 : decode cX7_sendHeld 21 = .ok (.bipush 8, 2) := by decide +kernel
theorem dX7_sendHeld_23 : decode cX7_sendHeld 23 = .ok (.if_icmp .ge 27, 3) := by decide +kernel
theorem dX7_sendHeld_26 : decode cX7_sendHeld 26 = .ok (.aload_n 0, 1) := by decide +kernel
theorem dX7_sendHeld_27 : decode cX7_sendHeld 27 = .ok (.iload_n 2, 1) := by decide +kernel
theorem dX7_sendHeld_28 : decode cX7_sendHeld 28 = .ok (.aload_n 0, 1) := by decide +kernel
theorem dX7_sendHeld_29 : decode cX7_sendHeld 29 = .ok (.getfield 27, 3) := by decide +kernel
theorem dX7_sendHeld_32 : decode cX7_sendHeld 32 = .ok (.iload_n 2, 1) := by decide +kernel
theorem dX7_sendHeld_33 : decode cX7_sendHeld 33 = .ok (.bipush 8, 2) := by decide +kernel
theorem dX7_sendHeld_35 : decode cX7_sendHeld 35 = .ok (.imul, 1) := by decide +kernel
theorem dX7_sendHeld_36 : decode cX7_sendHeld 36 = .ok (.iload_n 3, 1) := by decide +kernel
theorem dX7_sendHeld_37 : decode cX7_sendHeld 37 = .ok (.iadd, 1) := by decide +kernel
theorem dX7_sendHeld_38 : decode cX7_sendHeld 38 = .ok (.iaload, 1) := by decide +kernel
theorem dX7_sendHeld_39 : decode cX7_sendHeld 39 = .ok (.iload_n 1, 1) := by decide +kernel
theorem dX7_sendHeld_40 : decode cX7_sendHeld 40 = .ok (.invokevirtual 102, 3) := by decide +kernel
theorem dX7_sendHeld_43 : decode cX7_sendHeld 43 = .ok (.pop, 1) := by decide +kernel
theorem dX7_sendHeld_44 : decode cX7_sendHeld 44 = .ok (.iinc 3 1, 3) := by decide +kernel
theorem dX7_sendHeld_47 : decode cX7_sendHeld 47 = .ok (.goto (-37), 3) := by decide +kernel
theorem dX7_sendHeld_50 : decode cX7_sendHeld 50 = .ok (.aload_n 0, 1) := by decide +kernel
theorem dX7_sendHeld_51 : decode cX7_sendHeld 51 = .ok (.getfield 24, 3) := by decide +kernel
theorem dX7_sendHeld_54 : decode cX7_sendHeld 54 = .ok (.iload_n 2, 1) := by decide +kernel
theorem dX7_sendHeld_55 : decode cX7_sendHeld 55 = .ok (.iconst 0, 1) := by decide +kernel
theorem dX7_sendHeld_56 : decode cX7_sendHeld 56 = .ok (.iastore, 1) := by decide +kernel
theorem dX7_sendHeld_57 : decode cX7_sendHeld 57 = .ok (.iinc 2 1, 3) := by decide +kernel
theorem dX7_sendHeld_60 : decode cX7_sendHeld 60 = .ok (.goto (-58), 3) := by decide +kernel
theorem dX7_sendHeld_63 : decode cX7_sendHeld 63 = .ok (.return_, 1) := by decide +kernel
theorem dX7_countOnTheWay_0 : decode cX7_countOnTheWay 0 = .ok (.iconst 0, 1) := by decide +kernel
theorem dX7_countOnTheWay_1 : decode cX7_countOnTheWay 1 = .ok (.istore_n 1, 1) := by decide +kernel
theorem dX7_countOnTheWay_2 : decode cX7_countOnTheWay 2 = .ok (.iconst 0, 1) := by decide +kernel
theorem dX7_countOnTheWay_3 : decode cX7_countOnTheWay 3 = .ok (.istore_n 2, 1) := by decide +kernel
theorem dX7_countOnTheWay_4 : decode cX7_countOnTheWay 4 = .ok (.iload_n 2, 1) := by decide +kernel
theorem dX7_countOnTheWay_5 : decode cX7_countOnTheWay 5 = .ok (.aload_n 0, 1) := by decide +kernel
theorem dX7_countOnTheWay_6 : decode cX7_countOnTheWay 6 = .ok (.getfield 82, 3) := by decide +kernel
theorem dX7_countOnTheWay_9 : decode cX7_countOnTheWay 9 = .ok (.if_icmp .ge 27, 3) := by decide +kernel
theorem dX7_countOnTheWay_12 : decode cX7_countOnTheWay 12 = .ok (.iload_n 2, 1) := by decide +kernel
theorem dX7_countOnTheWay_13 : decode cX7_countOnTheWay 13 = .ok (.bipush 30, 2) := by decide +kernel
theorem dX7_countOnTheWay_15 : decode cX7_countOnTheWay 15 = .ok (.if_icmp .ge 21, 3) := by decide +kernel
theorem dX7_countOnTheWay_18 : decode cX7_countOnTheWay 18 = .ok (.iload_n 1, 1) := by decide +kernel
theorem dX7_countOnTheWay_19 : decode cX7_countOnTheWay 19 = .ok (.aload_n 0, 1) := by decide +kernel
theorem dX7_countOnTheWay_20 : decode cX7_countOnTheWay 20 = .ok (.getfield 39, 3) := by decide +kernel
theorem dX7_countOnTheWay_23 : decode cX7_countOnTheWay 23 = .ok (.iload_n 2, 1) := by decide +kernel
theorem dX7_countOnTheWay_24 : decode cX7_countOnTheWay 24 = .ok (.iaload, 1) := by decide +kernel
theorem dX7_countOnTheWay_25 : decode cX7_countOnTheWay 25 = .ok (.invokestatic 144, 3) := by decide +kernel
theorem dX7_countOnTheWay_28 : decode cX7_countOnTheWay 28 = .ok (.iadd, 1) := by decide +kernel
theorem dX7_countOnTheWay_29 : decode cX7_countOnTheWay 29 = .ok (.istore_n 1, 1) := by decide +kernel
theorem dX7_countOnTheWay_30 : decode cX7_countOnTheWay 30 = .ok (.iinc 2 1, 3) := by decide +kernel
theorem dX7_countOnTheWay_33 : decode cX7_countOnTheWay 33 = .ok (.goto (-29), 3) := by decide +kernel
theorem dX7_countOnTheWay_36 : decode cX7_countOnTheWay 36 = .ok (.iload_n 1, 1) := by decide +kernel
theorem dX7_countOnTheWay_37 : decode cX7_countOnTheWay 37 = .ok (.ireturn, 1) := by decide +kernel
theorem dX7_ownersOf_0 : decode cX7_ownersOf 0 = .ok (.iconst 0, 1) := by decide +kernel
theorem dX7_ownersOf_1 : decode cX7_ownersOf 1 = .ok (.istore_n 2, 1) := by decide +kernel
theorem dX7_ownersOf_2 : decode cX7_ownersOf 2 = .ok (.iconst 0, 1) := by decide +kernel
theorem dX7_ownersOf_3 : decode cX7_ownersOf 3 = .ok (.istore_n 3, 1) := by decide +kernel
theorem dX7_ownersOf_4 : decode cX7_ownersOf 4 = .ok (.iload_n 3, 1) := by decide +kernel
theorem dX7_ownersOf_5 : decode cX7_ownersOf 5 = .ok (.bipush 6, 2) := by decide +kernel
theorem dX7_ownersOf_7 : decode cX7_ownersOf 7 = .ok (.if_icmp .ge 27, 3) := by decide +kernel
theorem dX7_ownersOf_10 : decode cX7_ownersOf 10 = .ok (.iload_n 3, 1) := by decide +kernel
theorem dX7_ownersOf_11 : decode cX7_ownersOf 11 = .ok (.aload_n 0, 1) := by decide +kernel
theorem dX7_ownersOf_12 : decode cX7_ownersOf 12 = .ok (.arraylength, 1) := by decide +kernel
theorem dX7_ownersOf_13 : decode cX7_ownersOf 13 = .ok (.if_icmp .ge 21, 3) := by decide +kernel
theorem dX7_ownersOf_16 : decode cX7_ownersOf 16 = .ok (.iload_n 2, 1) := by decide +kernel
theorem dX7_ownersOf_17 : decode cX7_ownersOf 17 = .ok (.aload_n 0, 1) := by decide +kernel
theorem dX7_ownersOf_18 : decode cX7_ownersOf 18 = .ok (.iload_n 3, 1) := by decide +kernel
theorem dX7_ownersOf_19 : decode cX7_ownersOf 19 = .ok (.iaload, 1) := by decide +kernel
theorem dX7_ownersOf_20 : decode cX7_ownersOf 20 = .ok (.iload_n 1, 1) := by decide +kernel
theorem dX7_ownersOf_21 : decode cX7_ownersOf 21 = .ok (.ishr, 1) := by decide +kernel
theorem dX7_ownersOf_22 : decode cX7_ownersOf 22 = .ok (.iconst 1, 1) := by decide +kernel
theorem dX7_ownersOf_23 : decode cX7_ownersOf 23 = .ok (.iand, 1) := by decide +kernel
theorem dX7_ownersOf_24 : decode cX7_ownersOf 24 = .ok (.iload_n 3, 1) := by decide +kernel
theorem dX7_ownersOf_25 : decode cX7_ownersOf 25 = .ok (.ishl, 1) := by decide +kernel
theorem dX7_ownersOf_26 : decode cX7_ownersOf 26 = .ok (.ior, 1) := by decide +kernel
theorem dX7_ownersOf_27 : decode cX7_ownersOf 27 = .ok (.istore_n 2, 1) := by decide +kernel
theorem dX7_ownersOf_28 : decode cX7_ownersOf 28 = .ok (.iinc 3 1, 3) := by decide +kernel
theorem dX7_ownersOf_31 : decode cX7_ownersOf 31 = .ok (.goto (-27), 3) := by decide +kernel
theorem dX7_ownersOf_34 : decode cX7_ownersOf 34 = .ok (.iload_n 2, 1) := by decide +kernel
theorem dX7_ownersOf_35 : decode cX7_ownersOf 35 = .ok (.ireturn, 1) := by decide +kernel
theorem dX7_countUntold_0 : decode cX7_countUntold 0 = .ok (.iconst 0, 1) := by decide +kernel
theorem dX7_countUntold_1 : decode cX7_countUntold 1 = .ok (.istore_n 1, 1) := by decide +kernel
theorem dX7_countUntold_2 : decode cX7_countUntold 2 = .ok (.iconst 0, 1) := by decide +kernel
theorem dX7_countUntold_3 : decode cX7_countUntold 3 = .ok (.istore_n 2, 1) := by decide +kernel
theorem dX7_countUntold_4 : decode cX7_countUntold 4 = .ok (.iload_n 2, 1) := by decide +kernel
theorem dX7_countUntold_5 : decode cX7_countUntold 5 = .ok (.bipush 6, 2) := by decide +kernel
theorem dX7_countUntold_7 : decode cX7_countUntold 7 = .ok (.if_icmp .ge 33, 3) := by decide +kernel
theorem dX7_countUntold_10 : decode cX7_countUntold 10 = .ok (.iload_n 1, 1) := by decide +kernel
theorem dX7_countUntold_11 : decode cX7_countUntold 11 = .ok (.aload_n 0, 1) := by decide +kernel
theorem dX7_countUntold_12 : decode cX7_countUntold 12 = .ok (.iload_n 2, 1) := by decide +kernel
theorem dX7_countUntold_13 : decode cX7_countUntold 13 = .ok (.invokevirtual 95, 3) := by decide +kernel
theorem dX7_countUntold_16 : decode cX7_countUntold 16 = .ok (.ifCond .eq 15, 3) := by decide +kernel
theorem dX7_countUntold_19 : decode cX7_countUntold 19 = .ok (.aload_n 0, 1) := by decide +kernel
theorem dX7_countUntold_20 : decode cX7_countUntold 20 = .ok (.iload_n 2, 1) := by decide +kernel
theorem dX7_countUntold_21 : decode cX7_countUntold 21 = .ok (.invokevirtual 147, 3) := by decide +kernel
theorem dX7_countUntold_24 : decode cX7_countUntold 24 = .ok (.ifCond .eq 7, 3) := by decide +kernel
theorem dX7_countUntold_27 : decode cX7_countUntold 27 = .ok (.iconst 1, 1) := by decide +kernel
theorem dX7_countUntold_28 : decode cX7_countUntold 28 = .ok (.goto 4, 3) := by decide +kernel
theorem dX7_countUntold_31 : decode cX7_countUntold 31 = .ok (.iconst 0, 1) := by decide +kernel
theorem dX7_countUntold_32 : decode cX7_countUntold 32 = .ok (.iadd, 1) := by decide +kernel
theorem dX7_countUntold_33 : decode cX7_countUntold 33 = .ok (.istore_n 1, 1) := by decide +kernel
theorem dX7_countUntold_34 : decode cX7_countUntold 34 = .ok (.iinc 2 1, 3) := by decide +kernel
theorem dX7_countUntold_37 : decode cX7_countUntold 37 = .ok (.goto (-33), 3) := by decide +kernel
theorem dX7_countUntold_40 : decode cX7_countUntold 40 = .ok (.iload_n 1, 1) := by decide +kernel
theorem dX7_countUntold_41 : decode cX7_countUntold 41 = .ok (.ireturn, 1) := by decide +kernel
theorem dX7_isUntold_0 : decode cX7_isUntold 0 = .ok (.iconst 0, 1) := by decide +kernel
theorem dX7_isUntold_1 : decode cX7_isUntold 1 = .ok (.istore_n 2, 1) := by decide +kernel
theorem dX7_isUntold_2 : decode cX7_isUntold 2 = .ok (.iload_n 2, 1) := by decide +kernel
theorem dX7_isUntold_3 : decode cX7_isUntold 3 = .ok (.bipush 6, 2) := by decide +kernel
theorem dX7_isUntold_5 : decode cX7_isUntold 5 = .ok (.if_icmp .ge 51, 3) := by decide +kernel
theorem dX7_isUntold_8 : decode cX7_isUntold 8 = .ok (.aload_n 0, 1) := by decide +kernel
theorem dX7_isUntold_9 : decode cX7_isUntold 9 = .ok (.iload_n 2, 1) := by decide +kernel
theorem dX7_isUntold_10 : decode cX7_isUntold 10 = .ok (.invokevirtual 95, 3) := by decide +kernel
theorem dX7_isUntold_13 : decode cX7_isUntold 13 = .ok (.ifCond .eq 37, 3) := by decide +kernel
theorem dX7_isUntold_16 : decode cX7_isUntold 16 = .ok (.aload_n 0, 1) := by decide +kernel
theorem dX7_isUntold_17 : decode cX7_isUntold 17 = .ok (.iload_n 1, 1) := by decide +kernel
theorem dX7_isUntold_18 : decode cX7_isUntold 18 = .ok (.iload_n 2, 1) := by decide +kernel
theorem dX7_isUntold_19 : decode cX7_isUntold 19 = .ok (.invokevirtual 114, 3) := by decide +kernel
theorem dX7_isUntold_22 : decode cX7_isUntold 22 = .ok (.ifCond .eq 28, 3) := by decide +kernel
theorem dX7_isUntold_25 : decode cX7_isUntold 25 = .ok (.aload_n 0, 1) := by decide +kernel
theorem dX7_isUntold_26 : decode cX7_isUntold 26 = .ok (.getfield 15, 3) := by decide +kernel
theorem dX7_isUntold_29 : decode cX7_isUntold 29 = .ok (.iload_n 1, 1) := by decide +kernel
theorem dX7_isUntold_30 : decode cX7_isUntold 30 = .ok (.iaload, 1) := by decide +kernel
theorem dX7_isUntold_31 : decode cX7_isUntold 31 = .ok (.aload_n 0, 1) := by decide +kernel
theorem dX7_isUntold_32 : decode cX7_isUntold 32 = .ok (.getfield 21, 3) := by decide +kernel
theorem dX7_isUntold_35 : decode cX7_isUntold 35 = .ok (.iload_n 2, 1) := by decide +kernel
theorem dX7_isUntold_36 : decode cX7_isUntold 36 = .ok (.bipush 6, 2) := by decide +kernel
theorem dX7_isUntold_38 : decode cX7_isUntold 38 = .ok (.imul, 1) := by decide +kernel
theorem dX7_isUntold_39 : decode cX7_isUntold 39 = .ok (.iload_n 1, 1) := by decide +kernel
theorem dX7_isUntold_40 : decode cX7_isUntold 40 = .ok (.iadd, 1) := by decide +kernel
theorem dX7_isUntold_41 : decode cX7_isUntold 41 = .ok (.iaload, 1) := by decide +kernel
theorem dX7_isUntold_42 : decode cX7_isUntold 42 = .ok (.iconst (-1), 1) := by decide +kernel
theorem dX7_isUntold_43 : decode cX7_isUntold 43 = .ok (.ixor, 1) := by decide +kernel
theorem dX7_isUntold_44 : decode cX7_isUntold 44 = .ok (.iand, 1) := by decide +kernel
theorem dX7_isUntold_45 : decode cX7_isUntold 45 = .ok (.ifCond .eq 5, 3) := by decide +kernel
theorem dX7_isUntold_48 : decode cX7_isUntold 48 = .ok (.iconst 1, 1) := by decide +kernel
theorem dX7_isUntold_49 : decode cX7_isUntold 49 = .ok (.ireturn, 1) := by decide +kernel
theorem dX7_isUntold_50 : decode cX7_isUntold 50 = .ok (.iinc 2 1, 3) := by decide +kernel
theorem dX7_isUntold_53 : decode cX7_isUntold 53 = .ok (.goto (-51), 3) := by decide +kernel
theorem dX7_isUntold_56 : decode cX7_isUntold 56 = .ok (.iconst 0, 1) := by decide +kernel
theorem dX7_isUntold_57 : decode cX7_isUntold 57 = .ok (.ireturn, 1) := by decide +kernel
theorem dX7_countLore_0 : decode cX7_countLore 0 = .ok (.iconst 0, 1) := by decide +kernel
theorem dX7_countLore_1 : decode cX7_countLore 1 = .ok (.istore_n 2, 1) := by decide +kernel
theorem dX7_countLore_2 : decode cX7_countLore 2 = .ok (.iconst 0, 1) := by decide +kernel
theorem dX7_countLore_3 : decode cX7_countLore 3 = .ok (.istore_n 3, 1) := by decide +kernel
theorem dX7_countLore_4 : decode cX7_countLore 4 = .ok (.iload_n 3, 1) := by decide +kernel
theorem dX7_countLore_5 : decode cX7_countLore 5 = .ok (.bipush 6, 2) := by decide +kernel
theorem dX7_countLore_7 : decode cX7_countLore 7 = .ok (.if_icmp .ge 41, 3) := by decide +kernel
theorem dX7_countLore_10 : decode cX7_countLore 10 = .ok (.iload_n 2, 1) := by decide +kernel
theorem dX7_countLore_11 : decode cX7_countLore 11 = .ok (.aload_n 0, 1) := by decide +kernel
theorem dX7_countLore_12 : decode cX7_countLore 12 = .ok (.getfield 53, 3) := by decide +kernel
theorem dX7_countLore_15 : decode cX7_countLore 15 = .ok (.iload_n 3, 1) := by decide +kernel
theorem dX7_countLore_16 : decode cX7_countLore 16 = .ok (.invokestatic 75, 3) := by decide +kernel
theorem dX7_countLore_19 : decode cX7_countLore 19 = .ok (.ifCond .eq 20, 3) := by decide +kernel
theorem dX7_countLore_22 : decode cX7_countLore 22 = .ok (.aload_n 0, 1) := by decide +kernel
theorem dX7_countLore_23 : decode cX7_countLore 23 = .ok (.getfield 21, 3) := by decide +kernel
theorem dX7_countLore_26 : decode cX7_countLore 26 = .ok (.iload_n 1, 1) := by decide +kernel
theorem dX7_countLore_27 : decode cX7_countLore 27 = .ok (.bipush 6, 2) := by decide +kernel
theorem dX7_countLore_29 : decode cX7_countLore 29 = .ok (.imul, 1) := by decide +kernel
theorem dX7_countLore_30 : decode cX7_countLore 30 = .ok (.iload_n 3, 1) := by decide +kernel
theorem dX7_countLore_31 : decode cX7_countLore 31 = .ok (.iadd, 1) := by decide +kernel
theorem dX7_countLore_32 : decode cX7_countLore 32 = .ok (.iaload, 1) := by decide +kernel
theorem dX7_countLore_33 : decode cX7_countLore 33 = .ok (.invokestatic 144, 3) := by decide +kernel
theorem dX7_countLore_36 : decode cX7_countLore 36 = .ok (.goto 4, 3) := by decide +kernel
theorem dX7_countLore_39 : decode cX7_countLore 39 = .ok (.iconst 0, 1) := by decide +kernel
theorem dX7_countLore_40 : decode cX7_countLore 40 = .ok (.iadd, 1) := by decide +kernel
theorem dX7_countLore_41 : decode cX7_countLore 41 = .ok (.istore_n 2, 1) := by decide +kernel
theorem dX7_countLore_42 : decode cX7_countLore 42 = .ok (.iinc 3 1, 3) := by decide +kernel
theorem dX7_countLore_45 : decode cX7_countLore 45 = .ok (.goto (-41), 3) := by decide +kernel
theorem dX7_countLore_48 : decode cX7_countLore 48 = .ok (.iload_n 2, 1) := by decide +kernel
theorem dX7_countLore_49 : decode cX7_countLore 49 = .ok (.ireturn, 1) := by decide +kernel
theorem dX7_furthestBehind_0 : decode cX7_furthestBehind 0 = .ok (.iconst (-1), 1) := by decide +kernel
theorem dX7_furthestBehind_1 : decode cX7_furthestBehind 1 = .ok (.istore_n 1, 1) := by decide +kernel
theorem dX7_furthestBehind_2 : decode cX7_furthestBehind 2 = .ok (.bipush 31, 2) := by decide +kernel
theorem dX7_furthestBehind_4 : decode cX7_furthestBehind 4 = .ok (.istore_n 2, 1) := by decide +kernel
theorem dX7_furthestBehind_5 : decode cX7_furthestBehind 5 = .ok (.iconst 0, 1) := by decide +kernel
theorem dX7_furthestBehind_6 : decode cX7_furthestBehind 6 = .ok (.istore_n 3, 1) := by decide +kernel
theorem dX7_furthestBehind_7 : decode cX7_furthestBehind 7 = .ok (.iload_n 3, 1) := by decide +kernel
theorem dX7_furthestBehind_8 : decode cX7_furthestBehind 8 = .ok (.bipush 6, 2) := by decide +kernel
theorem dX7_furthestBehind_10 : decode cX7_furthestBehind 10 = .ok (.if_icmp .ge 39, 3) := by decide +kernel
theorem dX7_furthestBehind_13 : decode cX7_furthestBehind 13 = .ok (.aload_n 0, 1) := by decide +kernel
theorem dX7_furthestBehind_14 : decode cX7_furthestBehind 14 = .ok (.getfield 15, 3) := by decide +kernel
theorem dX7_furthestBehind_17 : decode cX7_furthestBehind 17 = .ok (.iload_n 3, 1) := by decide +kernel
theorem dX7_furthestBehind_18 : decode cX7_furthestBehind 18 = .ok (.iaload, 1) := by decide +kernel
theorem dX7_furthestBehind_19 : decode cX7_furthestBehind 19 = .ok (.invokestatic 144, 3) := by decide +kernel
theorem dX7_furthestBehind_22 : decode cX7_furthestBehind 22 = .ok (.istore 4, 2) := by decide +kernel
theorem dX7_furthestBehind_24 : decode cX7_furthestBehind 24 = .ok (.aload_n 0, 1) := by decide +kernel
theorem dX7_furthestBehind_25 : decode cX7_furthestBehind 25 = .ok (.iload_n 3, 1) := by decide +kernel
theorem dX7_furthestBehind_26 : decode cX7_furthestBehind 26 = .ok (.invokevirtual 95, 3) := by decide +kernel
theorem dX7_furthestBehind_29 : decode cX7_furthestBehind 29 = .ok (.ifCond .eq 14, 3) := by decide +kernel
theorem dX7_furthestBehind_32 : decode cX7_furthestBehind 32 = .ok (.iload 4, 2) := by decide +kernel
theorem dX7_furthestBehind_34 : decode cX7_furthestBehind 34 = .ok (.iload_n 2, 1) := by decide +kernel
theorem dX7_furthestBehind_35 : decode cX7_furthestBehind 35 = .ok (.if_icmp .ge 8, 3) := by decide +kernel
theorem dX7_furthestBehind_38 : decode cX7_furthestBehind 38 = .ok (.iload_n 3, 1) := by decide +kernel
theorem dX7_furthestBehind_39 : decode cX7_furthestBehind 39 = .ok (.istore_n 1, 1) := by decide +kernel
theorem dX7_furthestBehind_40 : decode cX7_furthestBehind 40 = .ok (.iload 4, 2) := by decide +kernel
theorem dX7_furthestBehind_42 : decode cX7_furthestBehind 42 = .ok (.istore_n 2, 1) := by decide +kernel
theorem dX7_furthestBehind_43 : decode cX7_furthestBehind 43 = .ok (.iinc 3 1, 3) := by decide +kernel
theorem dX7_furthestBehind_46 : decode cX7_furthestBehind 46 = .ok (.goto (-39), 3) := by decide +kernel
theorem dX7_furthestBehind_49 : decode cX7_furthestBehind 49 = .ok (.iload_n 1, 1) := by decide +kernel
theorem dX7_furthestBehind_50 : decode cX7_furthestBehind 50 = .ok (.ireturn, 1) := by decide +kernel
theorem dX8_init_0 : decode cX8_init 0 = .ok (.aload_n 0, 1) := by decide +kernel
theorem dX8_init_1 : decode cX8_init 1 = .ok (.invokespecial 3, 3) := by decide +kernel
theorem dX8_init_4 : decode cX8_init 4 = .ok (.return_, 1) := by decide +kernel
theorem dX8_blow_0 : decode cX8_blow 0 = .ok (.aload_n 0, 1) := by decide +kernel
theorem dX8_blow_1 : decode cX8_blow 1 = .ok (.iload_n 3, 1) := by decide +kernel
theorem dX8_blow_2 : decode cX8_blow 2 = .ok (.putfield 9, 3) := by decide +kernel
theorem dX8_blow_5 : decode cX8_blow 5 = .ok (.iconst 0, 1) := by decide +kernel
theorem dX8_blow_6 : decode cX8_blow 6 = .ok (.istore 6, 2) := by decide +kernel
theorem dX8_blow_8 : decode cX8_blow 8 = .ok (.iload 6, 2) := by decide +kernel
theorem dX8_blow_10 : decode cX8_blow 10 = .ok (.iload 4, 2) := by decide +kernel
theorem dX8_blow_12 : decode cX8_blow 12 = .ok (.if_icmp .ge 31, 3) := by decide +kernel
theorem dX8_blow_15 : decode cX8_blow 15 = .ok (.iload 6, 2) := by decide +kernel
theorem dX8_blow_17 : decode cX8_blow 17 = .ok (.bipush 96, 2) := by decide +kernel
theorem dX8_blow_19 : decode cX8_blow 19 = .ok (.if_icmp .ge 24, 3) := by decide +kernel
theorem dX8_blow_22 : decode cX8_blow 22 = .ok (.aload_n 2, 1) := by decide +kernel
theorem dX8_blow_23 : decode cX8_blow 23 = .ok (.invokevirtual 15, 3) := by decide +kernel
theorem dX8_blow_26 : decode cX8_blow 26 = .ok (.ifCond .le 11, 3) := by decide +kernel
theorem dX8_blow_29 : decode cX8_blow 29 = .ok (.aload_n 0, 1) := by decide +kernel
theorem dX8_blow_30 : decode cX8_blow 30 = .ok (.aload_n 1, 1) := by decide +kernel
theorem dX8_blow_31 : decode cX8_blow 31 = .ok (.aload_n 2, 1) := by decide +kernel
theorem dX8_blow_32 : decode cX8_blow 32 = .ok (.iload 5, 2) := by decide +kernel
theorem dX8_blow_34 : decode cX8_blow 34 = .ok (.invokevirtual 21, 3) := by decide +kernel
theorem dX8_blow_37 : decode cX8_blow 37 = .ok (.iinc 6 1, 3) := by decide +kernel
theorem dX8_blow_40 : decode cX8_blow 40 = .ok (.goto (-32), 3) := by decide +kernel
theorem dX8_blow_43 : decode cX8_blow 43 = .ok (.return_, 1) := by decide +kernel
theorem dX8_gust_0 : decode cX8_gust 0 = .ok (.aload_n 0, 1) := by decide +kernel
theorem dX8_gust_1 : decode cX8_gust 1 = .ok (.aload_n 2, 1) := by decide +kernel
theorem dX8_gust_2 : decode cX8_gust 2 = .ok (.invokevirtual 15, 3) := by decide +kernel
theorem dX8_gust_5 : decode cX8_gust 5 = .ok (.invokevirtual 25, 3) := by decide +kernel
theorem dX8_gust_8 : decode cX8_gust 8 = .ok (.istore 4, 2) := by decide +kernel
theorem dX8_gust_10 : decode cX8_gust 10 = .ok (.aload_n 0, 1) := by decide +kernel
theorem dX8_gust_11 : decode cX8_gust 11 = .ok (.bipush 8, 2) := by decide +kernel
theorem dX8_gust_13 : decode cX8_gust 13 = .ok (.invokevirtual 25, 3) := by decide +kernel
theorem dX8_gust_16 : decode cX8_gust 16 = .ok (.tableswitch 118 0 6 #[44, 44, 64, 64, 74, 84, 94], 44) := by decide +kernel
theorem dX8_gust_60 : decode cX8_gust 60 = .ok (.aload_n 1, 1) := by decide +kernel
theorem dX8_gust_61 : decode cX8_gust 61 = .ok (.iload 4, 2) := by decide +kernel
theorem dX8_gust_63 : decode cX8_gust 63 = .ok (.aload_n 0, 1) := by decide +kernel
theorem dX8_gust_64 : decode cX8_gust 64 = .ok (.bipush 100, 2) := by decide +kernel
theorem dX8_gust_66 : decode cX8_gust 66 = .ok (.invokevirtual 25, 3) := by decide +kernel
theorem dX8_gust_69 : decode cX8_gust 69 = .ok (.aload_n 2, 1) := by decide +kernel
theorem dX8_gust_70 : decode cX8_gust 70 = .ok (.invokevirtual 29, 3) := by decide +kernel
theorem dX8_gust_73 : decode cX8_gust 73 = .ok (.invokevirtual 32, 3) := by decide +kernel
theorem dX8_gust_76 : decode cX8_gust 76 = .ok (.pop, 1) := by decide +kernel
theorem dX8_gust_77 : decode cX8_gust 77 = .ok (.goto 69, 3) := by decide +kernel
theorem dX8_gust_80 : decode cX8_gust 80 = .ok (.aload_n 1, 1) := by decide +kernel
theorem dX8_gust_81 : decode cX8_gust 81 = .ok (.iload 4, 2) := by decide +kernel
theorem dX8_gust_83 : decode cX8_gust 83 = .ok (.invokevirtual 38, 3) := by decide +kernel
theorem dX8_gust_86 : decode cX8_gust 86 = .ok (.pop, 1) := by decide +kernel
theorem dX8_gust_87 : decode cX8_gust 87 = .ok (.goto 59, 3) := by decide +kernel
theorem dX8_gust_90 : decode cX8_gust 90 = .ok (.aload_n 1, 1) := by decide +kernel
theorem dX8_gust_91 : decode cX8_gust 91 = .ok (.iload 4, 2) := by decide +kernel
theorem dX8_gust_93 : decode cX8_gust 93 = .ok (.invokevirtual 42, 3) := by decide +kernel
theorem dX8_gust_96 : decode cX8_gust 96 = .ok (.pop, 1) := by decide +kernel
theorem dX8_gust_97 : decode cX8_gust 97 = .ok (.goto 49, 3) := by decide +kernel
theorem dX8_gust_100 : decode cX8_gust 100 = .ok (.aload_n 1, 1) := by decide +kernel
theorem dX8_gust_101 : decode cX8_gust 101 = .ok (.iload 4, 2) := by decide +kernel
theorem dX8_gust_103 : decode cX8_gust 103 = .ok (.invokevirtual 45, 3) := by decide +kernel
theorem dX8_gust_106 : decode cX8_gust 106 = .ok (.pop, 1) := by decide +kernel
theorem dX8_gust_107 : decode cX8_gust 107 = .ok (.goto 39, 3) := by decide +kernel
theorem dX8_gust_110 : decode cX8_gust 110 = .ok (.aload_n 1, 1) := by decide +kernel
theorem dX8_gust_111 : decode cX8_gust 111 = .ok (.iload 4, 2) := by decide +kernel
theorem dX8_gust_113 : decode cX8_gust 113 = .ok (.aload_n 0, 1) := by decide +kernel
theorem dX8_gust_114 : decode cX8_gust 114 = .ok (.bipush 16, 2) := by decide +kernel
theorem dX8_gust_116 : decode cX8_gust 116 = .ok (.invokevirtual 25, 3) := by decide +kernel
theorem dX8_gust_119 : decode cX8_gust 119 = .ok (.iload_n 3, 1) := by decide +kernel
theorem dX8_gust_120 : decode cX8_gust 120 = .ok (.if_icmp .ge 7, 3) := by decide +kernel
theorem dX8_gust_123 : decode cX8_gust 123 = .ok (.iconst 1, 1) := by decide +kernel
theorem dX8_gust_124 : decode cX8_gust 124 = .ok (.goto 4, 3) := by decide +kernel
theorem dX8_gust_127 : decode cX8_gust 127 = .ok (.iconst 0, 1) := by decide +kernel
theorem dX8_gust_128 : decode cX8_gust 128 = .ok (.invokestatic 48, 3) := by decide +kernel
theorem dX8_gust_131 : decode cX8_gust 131 = .ok (.goto 15, 3) := by decide +kernel
theorem dX8_gust_134 : decode cX8_gust 134 = .ok (.aload_n 2, 1) := by decide +kernel
theorem dX8_gust_135 : decode cX8_gust 135 = .ok (.aload_n 1, 1) := by decide +kernel
theorem dX8_gust_136 : decode cX8_gust 136 = .ok (.invokevirtual 52, 3) := by decide +kernel
theorem dX8_gust_139 : decode cX8_gust 139 = .ok (.pop, 1) := by decide +kernel
theorem dX8_gust_140 : decode cX8_gust 140 = .ok (.aload_n 2, 1) := by decide +kernel
theorem dX8_gust_141 : decode cX8_gust 141 = .ok (.aload_n 1, 1) := by decide +kernel
theorem dX8_gust_142 : decode cX8_gust 142 = .ok (.invokevirtual 56, 3) := by decide +kernel
theorem dX8_gust_145 : decode cX8_gust 145 = .ok (.pop, 1) := by decide +kernel
theorem dX8_gust_146 : decode cX8_gust 146 = .ok (.return_, 1) := by decide +kernel
theorem dX8_crashOrJoin_0 : decode cX8_crashOrJoin 0 = .ok (.iload_n 2, 1) := by decide +kernel
theorem dX8_crashOrJoin_1 : decode cX8_crashOrJoin 1 = .ok (.ifCond .eq 12, 3) := by decide +kernel
theorem dX8_crashOrJoin_4 : decode cX8_crashOrJoin 4 = .ok (.aload_n 0, 1) := by decide +kernel
theorem dX8_crashOrJoin_5 : decode cX8_crashOrJoin 5 = .ok (.iload_n 1, 1) := by decide +kernel
theorem dX8_crashOrJoin_6 : decode cX8_crashOrJoin 6 = .ok (.invokevirtual 59, 3) := by decide +kernel
theorem dX8_crashOrJoin_9 : decode cX8_crashOrJoin 9 = .ok (.pop, 1) := by decide +kernel
theorem dX8_crashOrJoin_10 : decode cX8_crashOrJoin 10 = .ok (.goto 9, 3) := by decide +kernel
theorem dX8_crashOrJoin_13 : decode cX8_crashOrJoin 13 = .ok (.aload_n 0, 1) := by decide +kernel
theorem dX8_crashOrJoin_14 : decode cX8_crashOrJoin 14 = .ok (.iload_n 1, 1) := by decide +kernel
theorem dX8_crashOrJoin_15 : decode cX8_crashOrJoin 15 = .ok (.invokevirtual 62, 3) := by decide +kernel
theorem dX8_crashOrJoin_18 : decode cX8_crashOrJoin 18 = .ok (.pop, 1) := by decide +kernel
theorem dX8_crashOrJoin_19 : decode cX8_crashOrJoin 19 = .ok (.return_, 1) := by decide +kernel
theorem dX8_draw_0 : decode cX8_draw 0 = .ok (.aload_n 0, 1) := by decide +kernel
theorem dX8_draw_1 : decode cX8_draw 1 = .ok (.aload_n 0, 1) := by decide +kernel
theorem dX8_draw_2 : decode cX8_draw 2 = .ok (.getfield 9, 3) := by decide +kernel
theorem dX8_draw_5 : decode cX8_draw 5 = .ok (.ldc 65, 2) := by decide +kernel
theorem dX8_draw_7 : decode cX8_draw 7 = .ok (.imul, 1) := by decide +kernel
theorem dX8_draw_8 : decode cX8_draw 8 = .ok (.sipush 12345, 3) := by decide +kernel
theorem dX8_draw_11 : decode cX8_draw 11 = .ok (.iadd, 1) := by decide +kernel
theorem dX8_draw_12 : decode cX8_draw 12 = .ok (.putfield 9, 3) := by decide +kernel
theorem dX8_draw_15 : decode cX8_draw 15 = .ok (.iload_n 1, 1) := by decide +kernel
theorem dX8_draw_16 : decode cX8_draw 16 = .ok (.ifCond .le 19, 3) := by decide +kernel
theorem dX8_draw_19 : decode cX8_draw 19 = .ok (.aload_n 0, 1) := by decide +kernel
theorem dX8_draw_20 : decode cX8_draw 20 = .ok (.getfield 9, 3) := by decide +kernel
theorem dX8_draw_23 : decode cX8_draw 23 = .ok (.bipush 16, 2) := by decide +kernel
theorem dX8_draw_25 : decode cX8_draw 25 = .ok (.iushr, 1) := by decide +kernel
theorem dX8_draw_26 : decode cX8_draw 26 = .ok (.sipush 32767, 3) := by decide +kernel
theorem dX8_draw_29 : decode cX8_draw 29 = .ok (.iand, 1) := by decide +kernel
theorem dX8_draw_30 : decode cX8_draw 30 = .ok (.iload_n 1, 1) := by decide +kernel
theorem dX8_draw_31 : decode cX8_draw 31 = .ok (.irem, 1) := by decide +kernel
theorem dX8_draw_32 : decode cX8_draw 32 = .ok (.goto 4, 3) := by decide +kernel
theorem dX8_draw_35 : decode cX8_draw 35 = .ok (.iconst 0, 1) := by decide +kernel
theorem dX8_draw_36 : decode cX8_draw 36 = .ok (.ireturn, 1) := by decide +kernel
theorem dX9_init_0 : decode cX9_init 0 = .ok (.aload_n 0, 1) := by decide +kernel
theorem dX9_init_1 : decode cX9_init 1 = .ok (.invokespecial 3, 3) := by decide +kernel
theorem dX9_init_4 : decode cX9_init 4 = .ok (.aload_n 0, 1) := by decide +kernel
theorem dX9_init_5 : decode cX9_init 5 = .ok (.sipush 600, 3) := by decide +kernel
theorem dX9_init_8 : decode cX9_init 8 = .ok (.newarray .byte, 2) := by decide +kernel
theorem dX9_init_10 : decode cX9_init 10 = .ok (.putfield 9, 3) := by decide +kernel
theorem dX9_init_13 : decode cX9_init 13 = .ok (.aload_n 0, 1) := by decide +kernel
theorem dX9_init_14 : decode cX9_init 14 = .ok (.iconst (-1), 1) := by decide +kernel
theorem dX9_init_15 : decode cX9_init 15 = .ok (.putfield 15, 3) := by decide +kernel
theorem dX9_init_18 : decode cX9_init 18 = .ok (.return_, 1) := by decide +kernel
theorem dX9_hasRoom_0 : decode cX9_hasRoom 0 = .ok (.aload_n 0, 1) := by decide +kernel
theorem dX9_hasRoom_1 : decode cX9_hasRoom 1 = .ok (.getfield 19, 3) := by decide +kernel
theorem dX9_hasRoom_4 : decode cX9_hasRoom 4 = .ok (.bipush 20, 2) := by decide +kernel
theorem dX9_hasRoom_6 : decode cX9_hasRoom 6 = .ok (.iadd, 1) := by decide +kernel
theorem dX9_hasRoom_7 : decode cX9_hasRoom 7 = .ok (.sipush 600, 3) := by decide +kernel
theorem dX9_hasRoom_10 : decode cX9_hasRoom 10 = .ok (.if_icmp .gt 7, 3) := by decide +kernel
theorem dX9_hasRoom_13 : decode cX9_hasRoom 13 = .ok (.iconst 1, 1) := by decide +kernel
theorem dX9_hasRoom_14 : decode cX9_hasRoom 14 = .ok (.goto 4, 3) := by decide +kernel
theorem dX9_hasRoom_17 : decode cX9_hasRoom 17 = .ok (.iconst 0, 1) := by decide +kernel
theorem dX9_hasRoom_18 : decode cX9_hasRoom 18 = .ok (.ireturn, 1) := by decide +kernel
theorem dX9_put_0 : decode cX9_put 0 = .ok (.bipush 24, 2) := by decide +kernel
theorem dX9_put_2 : decode cX9_put 2 = .ok (.istore_n 2, 1) := by decide +kernel
theorem dX9_put_3 : decode cX9_put 3 = .ok (.iload_n 2, 1) := by decide +kernel
theorem dX9_put_4 : decode cX9_put 4 = .ok (.ifCond .lt 44, 3) := by decide +kernel
theorem dX9_put_7 : decode cX9_put 7 = .ok (.aload_n 0, 1) := by decide +kernel
theorem dX9_put_8 : decode cX9_put 8 = .ok (.getfield 19, 3) := by decide +kernel
theorem dX9_put_11 : decode cX9_put 11 = .ok (.aload_n 0, 1) := by decide +kernel
theorem dX9_put_12 : decode cX9_put 12 = .ok (.getfield 9, 3) := by decide +kernel
theorem dX9_put_15 : decode cX9_put 15 = .ok (.arraylength, 1) := by decide +kernel
theorem dX9_put_16 : decode cX9_put 16 = .ok (.if_icmp .ge 26, 3) := by decide +kernel
theorem dX9_put_19 : decode cX9_put 19 = .ok (.aload_n 0, 1) := by decide +kernel
theorem dX9_put_20 : decode cX9_put 20 = .ok (.getfield 9, 3) := by decide +kernel
theorem dX9_put_23 : decode cX9_put 23 = .ok (.aload_n 0, 1) := by decide +kernel
theorem dX9_put_24 : decode cX9_put 24 = .ok (.getfield 19, 3) := by decide +kernel
theorem dX9_put_27 : decode cX9_put 27 = .ok (.iload_n 1, 1) := by decide +kernel
theorem dX9_put_28 : decode cX9_put 28 = .ok (.iload_n 2, 1) := by decide +kernel
theorem dX9_put_29 : decode cX9_put 29 = .ok (.ishr, 1) := by decide +kernel
theorem dX9_put_30 : decode cX9_put 30 = .ok (.i2b, 1) := by decide +kernel
theorem dX9_put_31 : decode cX9_put 31 = .ok (.bastore, 1) := by decide +kernel
theorem dX9_put_32 : decode cX9_put 32 = .ok (.aload_n 0, 1) := by decide +kernel
theorem dX9_put_33 : decode cX9_put 33 = .ok (.dup, 1) := by decide +kernel
theorem dX9_put_34 : decode cX9_put 34 = .ok (.getfield 19, 3) := by decide +kernel
theorem dX9_put_37 : decode cX9_put 37 = .ok (.iconst 1, 1) := by decide +kernel
theorem dX9_put_38 : decode cX9_put 38 = .ok (.iadd, 1) := by decide +kernel
theorem dX9_put_39 : decode cX9_put 39 = .ok (.putfield 19, 3) := by decide +kernel
theorem dX9_put_42 : decode cX9_put 42 = .ok (.iinc 2 (-8), 3) := by decide +kernel
theorem dX9_put_45 : decode cX9_put 45 = .ok (.goto (-42), 3) := by decide +kernel
theorem dX9_put_48 : decode cX9_put 48 = .ok (.return_, 1) := by decide +kernel
theorem dX9_open_0 : decode cX9_open 0 = .ok (.aload_n 0, 1) := by decide +kernel
theorem dX9_open_1 : decode cX9_open 1 = .ok (.iload_n 1, 1) := by decide +kernel
theorem dX9_open_2 : decode cX9_open 2 = .ok (.aload_n 0, 1) := by decide +kernel
theorem dX9_open_3 : decode cX9_open 3 = .ok (.getfield 19, 3) := by decide +kernel
theorem dX9_open_6 : decode cX9_open 6 = .ok (.invokestatic 22, 3) := by decide +kernel
theorem dX9_open_9 : decode cX9_open 9 = .ok (.putfield 28, 3) := by decide +kernel
theorem dX9_open_12 : decode cX9_open 12 = .ok (.aload_n 0, 1) := by decide +kernel
theorem dX9_open_13 : decode cX9_open 13 = .ok (.iconst 0, 1) := by decide +kernel
theorem dX9_open_14 : decode cX9_open 14 = .ok (.putfield 19, 3) := by decide +kernel
theorem dX9_open_17 : decode cX9_open 17 = .ok (.aload_n 0, 1) := by decide +kernel
theorem dX9_open_18 : decode cX9_open 18 = .ok (.iconst 0, 1) := by decide +kernel
theorem dX9_open_19 : decode cX9_open 19 = .ok (.putfield 31, 3) := by decide +kernel
theorem dX9_open_22 : decode cX9_open 22 = .ok (.aload_n 0, 1) := by decide +kernel
theorem dX9_open_23 : decode cX9_open 23 = .ok (.iconst 0, 1) := by decide +kernel
theorem dX9_open_24 : decode cX9_open 24 = .ok (.putfield 34, 3) := by decide +kernel
theorem dX9_open_27 : decode cX9_open 27 = .ok (.aload_n 0, 1) := by decide +kernel
theorem dX9_open_28 : decode cX9_open 28 = .ok (.iconst (-1), 1) := by decide +kernel
theorem dX9_open_29 : decode cX9_open 29 = .ok (.putfield 15, 3) := by decide +kernel
theorem dX9_open_32 : decode cX9_open 32 = .ok (.return_, 1) := by decide +kernel
theorem dX9_fail_0 : decode cX9_fail 0 = .ok (.aload_n 0, 1) := by decide +kernel
theorem dX9_fail_1 : decode cX9_fail 1 = .ok (.iload_n 1, 1) := by decide +kernel
theorem dX9_fail_2 : decode cX9_fail 2 = .ok (.putfield 34, 3) := by decide +kernel
theorem dX9_fail_5 : decode cX9_fail 5 = .ok (.aload_n 0, 1) := by decide +kernel
theorem dX9_fail_6 : decode cX9_fail 6 = .ok (.iload_n 2, 1) := by decide +kernel
theorem dX9_fail_7 : decode cX9_fail 7 = .ok (.putfield 15, 3) := by decide +kernel
theorem dX9_fail_10 : decode cX9_fail 10 = .ok (.iconst 0, 1) := by decide +kernel
theorem dX9_fail_11 : decode cX9_fail 11 = .ok (.ireturn, 1) := by decide +kernel
theorem dX9_peek_0 : decode cX9_peek 0 = .ok (.aload_n 0, 1) := by decide +kernel
theorem dX9_peek_1 : decode cX9_peek 1 = .ok (.getfield 31, 3) := by decide +kernel
theorem dX9_peek_4 : decode cX9_peek 4 = .ok (.istore_n 1, 1) := by decide +kernel
theorem dX9_peek_5 : decode cX9_peek 5 = .ok (.iload_n 1, 1) := by decide +kernel
theorem dX9_peek_6 : decode cX9_peek 6 = .ok (.ifCond .lt 53, 3) := by decide +kernel
theorem dX9_peek_9 : decode cX9_peek 9 = .ok (.iload_n 1, 1) := by decide +kernel
theorem dX9_peek_10 : decode cX9_peek 10 = .ok (.aload_n 0, 1) := by decide +kernel
theorem dX9_peek_11 : decode cX9_peek 11 = .ok (.getfield 28, 3) := by decide +kernel
theorem dX9_peek_14 : decode cX9_peek 14 = .ok (.if_icmp .ge 45, 3) := by decide +kernel
theorem dX9_peek_17 : decode cX9_peek 17 = .ok (.iload_n 1, 1) := by decide +kernel
theorem dX9_peek_18 : decode cX9_peek 18 = .ok (.aload_n 0, 1) := by decide +kernel
theorem dX9_peek_19 : decode cX9_peek 19 = .ok (.getfield 9, 3) := by decide +kernel
theorem dX9_peek_22 : decode cX9_peek 22 = .ok (.arraylength, 1) := by decide +kernel
theorem dX9_peek_23 : decode cX9_peek 23 = .ok (.if_icmp .ge 36, 3) := by decide +kernel
theorem dX9_peek_26 : decode cX9_peek 26 = .ok (.aload_n 0, 1) := by decide +kernel
theorem dX9_peek_27 : decode cX9_peek 27 = .ok (.iload_n 1, 1) := by decide +kernel
theorem dX9_peek_28 : decode cX9_peek 28 = .ok (.putfield 31, 3) := by decide +kernel
theorem dX9_peek_31 : decode cX9_peek 31 = .ok (.aload_n 0, 1) := by decide +kernel
theorem dX9_peek_32 : decode cX9_peek 32 = .ok (.getfield 9, 3) := by decide +kernel
theorem dX9_peek_35 : decode cX9_peek 35 = .ok (.iload_n 1, 1) := by decide +kernel
theorem dX9_peek_36 : decode cX9_peek 36 = .ok (.baload, 1) := by decide +kernel
theorem dX9_peek_37 : decode cX9_peek 37 = .ok (.bipush 32, 2) := by decide +kernel
theorem dX9_peek_39 : decode cX9_peek 39 = .ok (.if_icmp .eq 14, 3) := by decide +kernel
theorem dX9_peek_42 : decode cX9_peek 42 = .ok (.aload_n 0, 1) := by decide +kernel
theorem dX9_peek_43 : decode cX9_peek 43 = .ok (.getfield 9, 3) := by decide +kernel
theorem dX9_peek_46 : decode cX9_peek 46 = .ok (.iload_n 1, 1) := by decide +kernel
theorem dX9_peek_47 : decode cX9_peek 47 = .ok (.baload, 1) := by decide +kernel
theorem dX9_peek_48 : decode cX9_peek 48 = .ok (.sipush 255, 3) := by decide +kernel
theorem dX9_peek_51 : decode cX9_peek 51 = .ok (.iand, 1) := by decide +kernel
theorem dX9_peek_52 : decode cX9_peek 52 = .ok (.ireturn, 1) := by decide +kernel
theorem dX9_peek_53 : decode cX9_peek 53 = .ok (.iinc 1 1, 3) := by decide +kernel
theorem dX9_peek_56 : decode cX9_peek 56 = .ok (.goto (-51), 3) := by decide +kernel
theorem dX9_peek_59 : decode cX9_peek 59 = .ok (.aload_n 0, 1) := by decide +kernel
theorem dX9_peek_60 : decode cX9_peek 60 = .ok (.aload_n 0, 1) := by decide +kernel
theorem dX9_peek_61 : decode cX9_peek 61 = .ok (.getfield 28, 3) := by decide +kernel
theorem dX9_peek_64 : decode cX9_peek 64 = .ok (.putfield 31, 3) := by decide +kernel
theorem dX9_peek_67 : decode cX9_peek 67 = .ok (.iconst (-1), 1) := by decide +kernel
theorem dX9_peek_68 : decode cX9_peek 68 = .ok (.ireturn, 1) := by decide +kernel
theorem dX9_isEnded_0 : decode cX9_isEnded 0 = .ok (.aload_n 0, 1) := by decide +kernel
theorem dX9_isEnded_1 : decode cX9_isEnded 1 = .ok (.invokevirtual 37, 3) := by decide +kernel
theorem dX9_isEnded_4 : decode cX9_isEnded 4 = .ok (.iconst (-1), 1) := by decide +kernel
theorem dX9_isEnded_5 : decode cX9_isEnded 5 = .ok (.if_icmp .ne 7, 3) := by decide +kernel
theorem dX9_isEnded_8 : decode cX9_isEnded 8 = .ok (.iconst 1, 1) := by decide +kernel
theorem dX9_isEnded_9 : decode cX9_isEnded 9 = .ok (.goto 4, 3) := by decide +kernel
theorem dX9_isEnded_12 : decode cX9_isEnded 12 = .ok (.iconst 0, 1) := by decide +kernel
theorem dX9_isEnded_13 : decode cX9_isEnded 13 = .ok (.ireturn, 1) := by decide +kernel
theorem dX9_skip_0 : decode cX9_skip 0 = .ok (.aload_n 0, 1) := by decide +kernel
theorem dX9_skip_1 : decode cX9_skip 1 = .ok (.dup, 1) := by decide +kernel
theorem dX9_skip_2 : decode cX9_skip 2 = .ok (.getfield 31, 3) := by decide +kernel
theorem dX9_skip_5 : decode cX9_skip 5 = .ok (.iconst 1, 1) := by decide +kernel
theorem dX9_skip_6 : decode cX9_skip 6 = .ok (.iadd, 1) := by decide +kernel
theorem dX9_skip_7 : decode cX9_skip 7 = .ok (.putfield 31, 3) := by decide +kernel
theorem dX9_skip_10 : decode cX9_skip 10 = .ok (.return_, 1) := by decide +kernel
theorem dX9_sign_0 : decode cX9_sign 0 = .ok (.aload_n 0, 1) := by decide +kernel
theorem dX9_sign_1 : decode cX9_sign 1 = .ok (.invokevirtual 37, 3) := by decide +kernel
theorem dX9_sign_4 : decode cX9_sign 4 = .ok (.iload_n 1, 1) := by decide +kernel
theorem dX9_sign_5 : decode cX9_sign 5 = .ok (.if_icmp .eq 13, 3) := by decide +kernel
theorem dX9_sign_8 : decode cX9_sign 8 = .ok (.aload_n 0, 1) := by decide +kernel
theorem dX9_sign_9 : decode cX9_sign 9 = .ok (.iconst 1, 1) := by decide +kernel
theorem dX9_sign_10 : decode cX9_sign 10 = .ok (.aload_n 0, 1) := by decide +kernel
theorem dX9_sign_11 : decode cX9_sign 11 = .ok (.getfield 31, 3) := by decide +kernel
theorem dX9_sign_14 : decode cX9_sign 14 = .ok (.invokevirtual 41, 3) := by decide +kernel
theorem dX9_sign_17 : decode cX9_sign 17 = .ok (.ireturn, 1) := by decide +kernel
theorem dX9_sign_18 : decode cX9_sign 18 = .ok (.aload_n 0, 1) := by decide +kernel
theorem dX9_sign_19 : decode cX9_sign 19 = .ok (.dup, 1) := by decide +kernel
theorem dX9_sign_20 : decode cX9_sign 20 = .ok (.getfield 31, 3) := by decide +kernel
theorem dX9_sign_23 : decode cX9_sign 23 = .ok (.iconst 1, 1) := by decide +kernel
theorem dX9_sign_24 : decode cX9_sign 24 = .ok (.iadd, 1) := by decide +kernel
theorem dX9_sign_25 : decode cX9_sign 25 = .ok (.putfield 31, 3) := by decide +kernel
theorem dX9_sign_28 : decode cX9_sign 28 = .ok (.iconst 1, 1) := by decide +kernel
theorem dX9_sign_29 : decode cX9_sign 29 = .ok (.ireturn, 1) := by decide +kernel
theorem dX9_word_0 : decode cX9_word 0 = .ok (.aload_n 0, 1) := by decide +kernel
theorem dX9_word_1 : decode cX9_word 1 = .ok (.invokevirtual 37, 3) := by decide +kernel
theorem dX9_word_4 : decode cX9_word 4 = .ok (.invokestatic 45, 3) := by decide +kernel
theorem dX9_word_7 : decode cX9_word 7 = .ok (.ifCond .ne 13, 3) := by decide +kernel
theorem dX9_word_10 : decode cX9_word 10 = .ok (.aload_n 0, 1) := by decide +kernel
theorem dX9_word_11 : decode cX9_word 11 = .ok (.iconst 1, 1) := by decide +kernel
theorem dX9_word_12 : decode cX9_word 12 = .ok (.aload_n 0, 1) := by decide +kernel
theorem dX9_word_13 : decode cX9_word 13 = .ok (.getfield 31, 3) := by decide +kernel
theorem dX9_word_16 : decode cX9_word 16 = .ok (.invokevirtual 41, 3) := by decide +kernel
theorem dX9_word_19 : decode cX9_word 19 = .ok (.ireturn, 1) := by decide +kernel
theorem dX9_word_20 : decode cX9_word 20 = .ok (.aload_n 0, 1) := by decide +kernel
theorem dX9_word_21 : decode cX9_word 21 = .ok (.aload_n 0, 1) := by decide +kernel
theorem dX9_word_22 : decode cX9_word 22 = .ok (.getfield 31, 3) := by decide +kernel
theorem dX9_word_25 : decode cX9_word 25 = .ok (.putfield 49, 3) := by decide +kernel
theorem dX9_word_28 : decode cX9_word 28 = .ok (.aload_n 0, 1) := by decide +kernel
theorem dX9_word_29 : decode cX9_word 29 = .ok (.getfield 49, 3) := by decide +kernel
theorem dX9_word_32 : decode cX9_word 32 = .ok (.istore_n 1, 1) := by decide +kernel
theorem dX9_word_33 : decode cX9_word 33 = .ok (.iload_n 1, 1) := by decide +kernel
theorem dX9_word_34 : decode cX9_word 34 = .ok (.aload_n 0, 1) := by decide +kernel
theorem dX9_word_35 : decode cX9_word 35 = .ok (.getfield 28, 3) := by decide +kernel
theorem dX9_word_38 : decode cX9_word 38 = .ok (.if_icmp .ge 33, 3) := by decide +kernel
theorem dX9_word_41 : decode cX9_word 41 = .ok (.aload_n 0, 1) := by decide +kernel
theorem dX9_word_42 : decode cX9_word 42 = .ok (.aload_n 0, 1) := by decide +kernel
theorem dX9_word_43 : decode cX9_word 43 = .ok (.getfield 31, 3) := by decide +kernel
theorem dX9_word_46 : decode cX9_word 46 = .ok (.invokevirtual 52, 3) := by decide +kernel
theorem dX9_word_49 : decode cX9_word 49 = .ok (.invokestatic 45, 3) := by decide +kernel
theorem dX9_word_52 : decode cX9_word 52 = .ok (.ifCond .eq 19, 3) := by decide +kernel
theorem dX9_word_55 : decode cX9_word 55 = .ok (.aload_n 0, 1) := by decide +kernel
theorem dX9_word_56 : decode cX9_word 56 = .ok (.dup, 1) := by decide +kernel
theorem dX9_word_57 : decode cX9_word 57 = .ok (.getfield 31, 3) := by decide +kernel
theorem dX9_word_60 : decode cX9_word 60 = .ok (.iconst 1, 1) := by decide +kernel
theorem dX9_word_61 : decode cX9_word 61 = .ok (.iadd, 1) := by decide +kernel
theorem dX9_word_62 : decode cX9_word 62 = .ok (.putfield 31, 3) := by decide +kernel
theorem dX9_word_65 : decode cX9_word 65 = .ok (.iinc 1 1, 3) := by decide +kernel
theorem dX9_word_68 : decode cX9_word 68 = .ok (.goto (-35), 3) := by decide +kernel
theorem dX9_word_71 : decode cX9_word 71 = .ok (.iconst 1, 1) := by decide +kernel
theorem dX9_word_72 : decode cX9_word 72 = .ok (.ireturn, 1) := by decide +kernel
theorem dX9_isWord_0 : decode cX9_isWord 0 = .ok (.aload_n 0, 1) := by decide +kernel
theorem dX9_isWord_1 : decode cX9_isWord 1 = .ok (.getfield 31, 3) := by decide +kernel
theorem dX9_isWord_4 : decode cX9_isWord 4 = .ok (.aload_n 0, 1) := by decide +kernel
theorem dX9_isWord_5 : decode cX9_isWord 5 = .ok (.getfield 49, 3) := by decide +kernel
theorem dX9_isWord_8 : decode cX9_isWord 8 = .ok (.isub, 1) := by decide +kernel
theorem dX9_isWord_9 : decode cX9_isWord 9 = .ok (.aload_n 1, 1) := by decide +kernel
theorem dX9_isWord_10 : decode cX9_isWord 10 = .ok (.invokevirtual 56, 3) := by decide +kernel
theorem dX9_isWord_13 : decode cX9_isWord 13 = .ok (.if_icmp .ne 22, 3) := by decide +kernel
theorem dX9_isWord_16 : decode cX9_isWord 16 = .ok (.aload_n 0, 1) := by decide +kernel
theorem dX9_isWord_17 : decode cX9_isWord 17 = .ok (.getfield 49, 3) := by decide +kernel
theorem dX9_isWord_20 : decode cX9_isWord 20 = .ok (.ifCond .lt 15, 3) := by decide +kernel
theorem dX9_isWord_23 : decode cX9_isWord 23 = .ok (.aload_n 0, 1) := by decide +kernel
theorem dX9_isWord_24 : decode cX9_isWord 24 = .ok (.getfield 31, 3) := by decide +kernel
theorem dX9_isWord_27 : decode cX9_isWord 27 = .ok (.aload_n 0, 1) := by decide +kernel
theorem dX9_isWord_28 : decode cX9_isWord 28 = .ok (.getfield 9, 3) := by decide +kernel
theorem dX9_isWord_31 : decode cX9_isWord 31 = .ok (.arraylength, 1) := by decide +kernel
theorem dX9_isWord_32 : decode cX9_isWord 32 = .ok (.if_icmp .le 5, 3) := by decide +kernel
theorem dX9_isWord_35 : decode cX9_isWord 35 = .ok (.iconst 0, 1) := by decide +kernel
theorem dX9_isWord_36 : decode cX9_isWord 36 = .ok (.ireturn, 1) := by decide +kernel
theorem dX9_isWord_37 : decode cX9_isWord 37 = .ok (.iconst 0, 1) := by decide +kernel
theorem dX9_isWord_38 : decode cX9_isWord 38 = .ok (.istore_n 2, 1) := by decide +kernel
theorem dX9_isWord_39 : decode cX9_isWord 39 = .ok (.iload_n 2, 1) := by decide +kernel
theorem dX9_isWord_40 : decode cX9_isWord 40 = .ok (.aload_n 1, 1) := by decide +kernel
theorem dX9_isWord_41 : decode cX9_isWord 41 = .ok (.invokevirtual 56, 3) := by decide +kernel
theorem dX9_isWord_44 : decode cX9_isWord 44 = .ok (.if_icmp .ge 30, 3) := by decide +kernel
theorem dX9_isWord_47 : decode cX9_isWord 47 = .ok (.aload_n 0, 1) := by decide +kernel
theorem dX9_isWord_48 : decode cX9_isWord 48 = .ok (.getfield 9, 3) := by decide +kernel
theorem dX9_isWord_51 : decode cX9_isWord 51 = .ok (.aload_n 0, 1) := by decide +kernel
theorem dX9_isWord_52 : decode cX9_isWord 52 = .ok (.getfield 49, 3) := by decide +kernel
theorem dX9_isWord_55 : decode cX9_isWord 55 = .ok (.iload_n 2, 1) := by decide +kernel
theorem dX9_isWord_56 : decode cX9_isWord 56 = .ok (.iadd, 1) := by decide +kernel
theorem dX9_isWord_57 : decode cX9_isWord 57 = .ok (.baload, 1) := by decide +kernel
theorem dX9_isWord_58 : decode cX9_isWord 58 = .ok (.aload_n 1, 1) := by decide +kernel
theorem dX9_isWord_59 : decode cX9_isWord 59 = .ok (.iload_n 2, 1) := by decide +kernel
theorem dX9_isWord_60 : decode cX9_isWord 60 = .ok (.invokevirtual 60, 3) := by decide +kernel
theorem dX9_isWord_63 : decode cX9_isWord 63 = .ok (.if_icmp .eq 5, 3) := by decide +kernel
theorem dX9_isWord_66 : decode cX9_isWord 66 = .ok (.iconst 0, 1) := by decide +kernel
theorem dX9_isWord_67 : decode cX9_isWord 67 = .ok (.ireturn, 1) := by decide +kernel
theorem dX9_isWord_68 : decode cX9_isWord 68 = .ok (.iinc 2 1, 3) := by decide +kernel
theorem dX9_isWord_71 : decode cX9_isWord 71 = .ok (.goto (-32), 3) := by decide +kernel
theorem dX9_isWord_74 : decode cX9_isWord 74 = .ok (.iconst 1, 1) := by decide +kernel
theorem dX9_isWord_75 : decode cX9_isWord 75 = .ok (.ireturn, 1) := by decide +kernel
theorem dX9_number_0 : decode cX9_number 0 = .ok (.aload_n 0, 1) := by decide +kernel
theorem dX9_number_1 : decode cX9_number 1 = .ok (.invokevirtual 37, 3) := by decide +kernel
theorem dX9_number_4 : decode cX9_number 4 = .ok (.invokestatic 64, 3) := by decide +kernel
theorem dX9_number_7 : decode cX9_number 7 = .ok (.ifCond .ne 13, 3) := by decide +kernel
theorem dX9_number_10 : decode cX9_number 10 = .ok (.aload_n 0, 1) := by decide +kernel
theorem dX9_number_11 : decode cX9_number 11 = .ok (.iconst 1, 1) := by decide +kernel
theorem dX9_number_12 : decode cX9_number 12 = .ok (.aload_n 0, 1) := by decide +kernel
theorem dX9_number_13 : decode cX9_number 13 = .ok (.getfield 31, 3) := by decide +kernel
theorem dX9_number_16 : decode cX9_number 16 = .ok (.invokevirtual 41, 3) := by decide +kernel
theorem dX9_number_19 : decode cX9_number 19 = .ok (.ireturn, 1) := by decide +kernel
theorem dX9_number_20 : decode cX9_number 20 = .ok (.aload_n 0, 1) := by decide +kernel
theorem dX9_number_21 : decode cX9_number 21 = .ok (.aload_n 0, 1) := by decide +kernel
theorem dX9_number_22 : decode cX9_number 22 = .ok (.getfield 31, 3) := by decide +kernel
theorem dX9_number_25 : decode cX9_number 25 = .ok (.putfield 49, 3) := by decide +kernel
theorem dX9_number_28 : decode cX9_number 28 = .ok (.aload_n 0, 1) := by decide +kernel
theorem dX9_number_29 : decode cX9_number 29 = .ok (.iconst 0, 1) := by decide +kernel
theorem dX9_number_30 : decode cX9_number 30 = .ok (.putfield 67, 3) := by decide +kernel
theorem dX9_number_33 : decode cX9_number 33 = .ok (.aload_n 0, 1) := by decide +kernel
theorem dX9_number_34 : decode cX9_number 34 = .ok (.getfield 49, 3) := by decide +kernel
theorem dX9_number_37 : decode cX9_number 37 = .ok (.istore_n 3, 1) := by decide +kernel
theorem dX9_number_38 : decode cX9_number 38 = .ok (.iload_n 3, 1) := by decide +kernel
theorem dX9_number_39 : decode cX9_number 39 = .ok (.aload_n 0, 1) := by decide +kernel
theorem dX9_number_40 : decode cX9_number 40 = .ok (.getfield 28, 3) := by decide +kernel
theorem dX9_number_43 : decode cX9_number 43 = .ok (.if_icmp .ge 61, 3) := by decide +kernel
theorem dX9_number_46 : decode cX9_number 46 = .ok (.aload_n 0, 1) := by decide +kernel
theorem dX9_number_47 : decode cX9_number 47 = .ok (.aload_n 0, 1) := by decide +kernel
theorem dX9_number_48 : decode cX9_number 48 = .ok (.getfield 31, 3) := by decide +kernel
theorem dX9_number_51 : decode cX9_number 51 = .ok (.invokevirtual 52, 3) := by decide +kernel
theorem dX9_number_54 : decode cX9_number 54 = .ok (.invokestatic 64, 3) := by decide +kernel
theorem dX9_number_57 : decode cX9_number 57 = .ok (.ifCond .eq 47, 3) := by decide +kernel
theorem dX9_number_60 : decode cX9_number 60 = .ok (.aload_n 0, 1) := by decide +kernel
theorem dX9_number_61 : decode cX9_number 61 = .ok (.ldc 70, 2) := by decide +kernel
theorem dX9_number_63 : decode cX9_number 63 = .ok (.aload_n 0, 1) := by decide +kernel
theorem dX9_number_64 : decode cX9_number 64 = .ok (.getfield 67, 3) := by decide +kernel
theorem dX9_number_67 : decode cX9_number 67 = .ok (.bipush 10, 2) := by decide +kernel
theorem dX9_number_69 : decode cX9_number 69 = .ok (.imul, 1) := by decide +kernel
theorem dX9_number_70 : decode cX9_number 70 = .ok (.aload_n 0, 1) := by decide +kernel
theorem dX9_number_71 : decode cX9_number 71 = .ok (.aload_n 0, 1) := by decide +kernel
theorem dX9_number_72 : decode cX9_number 72 = .ok (.getfield 31, 3) := by decide +kernel
theorem dX9_number_75 : decode cX9_number 75 = .ok (.invokevirtual 52, 3) := by decide +kernel
theorem dX9_number_78 : decode cX9_number 78 = .ok (.iadd, 1) := by decide +kernel
theorem dX9_number_79 : decode cX9_number 79 = .ok (.bipush 48, 2) := by decide +kernel
theorem dX9_number_81 : decode cX9_number 81 = .ok (.isub, 1) := by decide +kernel
theorem dX9_number_82 : decode cX9_number 82 = .ok (.invokestatic 22, 3) := by decide +kernel
theorem dX9_number_85 : decode cX9_number 85 = .ok (.putfield 67, 3) := by decide +kernel
theorem dX9_number_88 : decode cX9_number 88 = .ok (.aload_n 0, 1) := by decide +kernel
theorem dX9_number_89 : decode cX9_number 89 = .ok (.dup, 1) := by decide +kernel
theorem dX9_number_90 : decode cX9_number 90 = .ok (.getfield 31, 3) := by decide +kernel
theorem dX9_number_93 : decode cX9_number 93 = .ok (.iconst 1, 1) := by decide +kernel
theorem dX9_number_94 : decode cX9_number 94 = .ok (.iadd, 1) := by decide +kernel
theorem dX9_number_95 : decode cX9_number 95 = .ok (.putfield 31, 3) := by decide +kernel
theorem dX9_number_98 : decode cX9_number 98 = .ok (.iinc 3 1, 3) := by decide +kernel
theorem dX9_number_101 : decode cX9_number 101 = .ok (.goto (-63), 3) := by decide +kernel
theorem dX9_number_104 : decode cX9_number 104 = .ok (.aload_n 0, 1) := by decide +kernel
theorem dX9_number_105 : decode cX9_number 105 = .ok (.getfield 67, 3) := by decide +kernel
theorem dX9_number_108 : decode cX9_number 108 = .ok (.iload_n 1, 1) := by decide +kernel
theorem dX9_number_109 : decode cX9_number 109 = .ok (.iload_n 2, 1) := by decide +kernel
theorem dX9_number_110 : decode cX9_number 110 = .ok (.invokestatic 71, 3) := by decide +kernel
theorem dX9_number_113 : decode cX9_number 113 = .ok (.ifCond .ne 15, 3) := by decide +kernel
theorem dX9_number_116 : decode cX9_number 116 = .ok (.aload_n 0, 1) := by decide +kernel
theorem dX9_number_117 : decode cX9_number 117 = .ok (.iconst 2, 1) := by decide +kernel
theorem dX9_number_118 : decode cX9_number 118 = .ok (.aload_n 0, 1) := by decide +kernel
theorem dX9_number_119 : decode cX9_number 119 = .ok (.getfield 49, 3) := by decide +kernel
theorem dX9_number_122 : decode cX9_number 122 = .ok (.invokevirtual 41, 3) := by decide +kernel
theorem dX9_number_125 : decode cX9_number 125 = .ok (.ifCond .eq 7, 3) := by decide +kernel
theorem dX9_number_128 : decode cX9_number 128 = .ok (.iconst 1, 1) := by decide +kernel
theorem dX9_number_129 : decode cX9_number 129 = .ok (.goto 4, 3) := by decide +kernel
theorem dX9_number_132 : decode cX9_number 132 = .ok (.iconst 0, 1) := by decide +kernel
theorem dX9_number_133 : decode cX9_number 133 = .ok (.ireturn, 1) := by decide +kernel
theorem dX9_byteAt_0 : decode cX9_byteAt 0 = .ok (.iload_n 1, 1) := by decide +kernel
theorem dX9_byteAt_1 : decode cX9_byteAt 1 = .ok (.ifCond .lt 33, 3) := by decide +kernel
theorem dX9_byteAt_4 : decode cX9_byteAt 4 = .ok (.iload_n 1, 1) := by decide +kernel
theorem dX9_byteAt_5 : decode cX9_byteAt 5 = .ok (.aload_n 0, 1) := by decide +kernel
theorem dX9_byteAt_6 : decode cX9_byteAt 6 = .ok (.getfield 28, 3) := by decide +kernel
theorem dX9_byteAt_9 : decode cX9_byteAt 9 = .ok (.if_icmp .ge 25, 3) := by decide +kernel
theorem dX9_byteAt_12 : decode cX9_byteAt 12 = .ok (.iload_n 1, 1) := by decide +kernel
theorem dX9_byteAt_13 : decode cX9_byteAt 13 = .ok (.aload_n 0, 1) := by decide +kernel
theorem dX9_byteAt_14 : decode cX9_byteAt 14 = .ok (.getfield 9, 3) := by decide +kernel
theorem dX9_byteAt_17 : decode cX9_byteAt 17 = .ok (.arraylength, 1) := by decide +kernel
theorem dX9_byteAt_18 : decode cX9_byteAt 18 = .ok (.if_icmp .ge 16, 3) := by decide +kernel
theorem dX9_byteAt_21 : decode cX9_byteAt 21 = .ok (.aload_n 0, 1) := by decide +kernel
theorem dX9_byteAt_22 : decode cX9_byteAt 22 = .ok (.getfield 9, 3) := by decide +kernel
theorem dX9_byteAt_25 : decode cX9_byteAt 25 = .ok (.iload_n 1, 1) := by decide +kernel
theorem dX9_byteAt_26 : decode cX9_byteAt 26 = .ok (.baload, 1) := by decide +kernel
theorem dX9_byteAt_27 : decode cX9_byteAt 27 = .ok (.sipush 255, 3) := by decide +kernel
theorem dX9_byteAt_30 : decode cX9_byteAt 30 = .ok (.iand, 1) := by decide +kernel
theorem dX9_byteAt_31 : decode cX9_byteAt 31 = .ok (.goto 4, 3) := by decide +kernel
theorem dX9_byteAt_34 : decode cX9_byteAt 34 = .ok (.iconst (-1), 1) := by decide +kernel
theorem dX9_byteAt_35 : decode cX9_byteAt 35 = .ok (.ireturn, 1) := by decide +kernel
theorem dX9_isDigit_0 : decode cX9_isDigit 0 = .ok (.iload_n 0, 1) := by decide +kernel
theorem dX9_isDigit_1 : decode cX9_isDigit 1 = .ok (.bipush 48, 2) := by decide +kernel
theorem dX9_isDigit_3 : decode cX9_isDigit 3 = .ok (.if_icmp .lt 13, 3) := by decide +kernel
theorem dX9_isDigit_6 : decode cX9_isDigit 6 = .ok (.iload_n 0, 1) := by decide +kernel
theorem dX9_isDigit_7 : decode cX9_isDigit 7 = .ok (.bipush 57, 2) := by decide +kernel
theorem dX9_isDigit_9 : decode cX9_isDigit 9 = .ok (.if_icmp .gt 7, 3) := by decide +kernel
theorem dX9_isDigit_12 : decode cX9_isDigit 12 = .ok (.iconst 1, 1) := by decide +kernel
theorem dX9_isDigit_13 : decode cX9_isDigit 13 = .ok (.goto 4, 3) := by decide +kernel
theorem dX9_isDigit_16 : decode cX9_isDigit 16 = .ok (.iconst 0, 1) := by decide +kernel
theorem dX9_isDigit_17 : decode cX9_isDigit 17 = .ok (.ireturn, 1) := by decide +kernel
theorem dX9_isLetter_0 : decode cX9_isLetter 0 = .ok (.iload_n 0, 1) := by decide +kernel
theorem dX9_isLetter_1 : decode cX9_isLetter 1 = .ok (.bipush 97, 2) := by decide +kernel
theorem dX9_isLetter_3 : decode cX9_isLetter 3 = .ok (.if_icmp .lt 13, 3) := by decide +kernel
theorem dX9_isLetter_6 : decode cX9_isLetter 6 = .ok (.iload_n 0, 1) := by decide +kernel
theorem dX9_isLetter_7 : decode cX9_isLetter 7 = .ok (.bipush 122, 2) := by decide +kernel
theorem dX9_isLetter_9 : decode cX9_isLetter 9 = .ok (.if_icmp .gt 7, 3) := by decide +kernel
theorem dX9_isLetter_12 : decode cX9_isLetter 12 = .ok (.iconst 1, 1) := by decide +kernel
theorem dX9_isLetter_13 : decode cX9_isLetter 13 = .ok (.goto 4, 3) := by decide +kernel
theorem dX9_isLetter_16 : decode cX9_isLetter 16 = .ok (.iconst 0, 1) := by decide +kernel
theorem dX9_isLetter_17 : decode cX9_isLetter 17 = .ok (.ireturn, 1) := by decide +kernel
theorem dX10_init_0 : decode cX10_init 0 = .ok (.aload_n 0, 1) := by decide +kernel
theorem dX10_init_1 : decode cX10_init 1 = .ok (.invokespecial 3, 3) := by decide +kernel
theorem dX10_init_4 : decode cX10_init 4 = .ok (.aload_n 0, 1) := by decide +kernel
theorem dX10_init_5 : decode cX10_init 5 = .ok (.sipush 150, 3) := by decide +kernel
theorem dX10_init_8 : decode cX10_init 8 = .ok (.newarray .int, 2) := by decide +kernel
theorem dX10_init_10 : decode cX10_init 10 = .ok (.putfield 9, 3) := by decide +kernel
theorem dX10_init_13 : decode cX10_init 13 = .ok (.aload_n 0, 1) := by decide +kernel
theorem dX10_init_14 : decode cX10_init 14 = .ok (.sipush 150, 3) := by decide +kernel
theorem dX10_init_17 : decode cX10_init 17 = .ok (.newarray .int, 2) := by decide +kernel
theorem dX10_init_19 : decode cX10_init 19 = .ok (.putfield 15, 3) := by decide +kernel
theorem dX10_init_22 : decode cX10_init 22 = .ok (.aload_n 0, 1) := by decide +kernel
theorem dX10_init_23 : decode cX10_init 23 = .ok (.sipush 150, 3) := by decide +kernel
theorem dX10_init_26 : decode cX10_init 26 = .ok (.newarray .int, 2) := by decide +kernel
theorem dX10_init_28 : decode cX10_init 28 = .ok (.putfield 18, 3) := by decide +kernel
theorem dX10_init_31 : decode cX10_init 31 = .ok (.return_, 1) := by decide +kernel
theorem dX10_read_0 : decode cX10_read 0 = .ok (.aload_n 0, 1) := by decide +kernel
theorem dX10_read_1 : decode cX10_read 1 = .ok (.iconst 0, 1) := by decide +kernel
theorem dX10_read_2 : decode cX10_read 2 = .ok (.putfield 21, 3) := by decide +kernel
theorem dX10_read_5 : decode cX10_read 5 = .ok (.aload_n 0, 1) := by decide +kernel
theorem dX10_read_6 : decode cX10_read 6 = .ok (.iload_n 2, 1) := by decide +kernel
theorem dX10_read_7 : decode cX10_read 7 = .ok (.putfield 25, 3) := by decide +kernel
theorem dX10_read_10 : decode cX10_read 10 = .ok (.aload_n 0, 1) := by decide +kernel
theorem dX10_read_11 : decode cX10_read 11 = .ok (.aload_n 1, 1) := by decide +kernel
theorem dX10_read_12 : decode cX10_read 12 = .ok (.iconst 0, 1) := by decide +kernel
theorem dX10_read_13 : decode cX10_read 13 = .ok (.invokevirtual 28, 3) := by decide +kernel
theorem dX10_read_16 : decode cX10_read 16 = .ok (.ireturn, 1) := by decide +kernel
theorem dX10_readSteps_0 : decode cX10_readSteps 0 = .ok (.iconst 0, 1) := by decide +kernel
theorem dX10_readSteps_1 : decode cX10_readSteps 1 = .ok (.istore_n 3, 1) := by decide +kernel
theorem dX10_readSteps_2 : decode cX10_readSteps 2 = .ok (.iload_n 3, 1) := by decide +kernel
theorem dX10_readSteps_3 : decode cX10_readSteps 3 = .ok (.sipush 150, 3) := by decide +kernel
theorem dX10_readSteps_6 : decode cX10_readSteps 6 = .ok (.if_icmp .ge 57, 3) := by decide +kernel
theorem dX10_readSteps_9 : decode cX10_readSteps 9 = .ok (.aload_n 1, 1) := by decide +kernel
theorem dX10_readSteps_10 : decode cX10_readSteps 10 = .ok (.invokevirtual 32, 3) := by decide +kernel
theorem dX10_readSteps_13 : decode cX10_readSteps 13 = .ok (.istore 4, 2) := by decide +kernel
theorem dX10_readSteps_15 : decode cX10_readSteps 15 = .ok (.iload_n 2, 1) := by decide +kernel
theorem dX10_readSteps_16 : decode cX10_readSteps 16 = .ok (.ifCond .ne 12, 3) := by decide +kernel
theorem dX10_readSteps_19 : decode cX10_readSteps 19 = .ok (.iload 4, 2) := by decide +kernel
theorem dX10_readSteps_21 : decode cX10_readSteps 21 = .ok (.iconst (-1), 1) := by decide +kernel
theorem dX10_readSteps_22 : decode cX10_readSteps 22 = .ok (.if_icmp .ne 15, 3) := by decide +kernel
theorem dX10_readSteps_25 : decode cX10_readSteps 25 = .ok (.goto 10, 3) := by decide +kernel
theorem dX10_readSteps_28 : decode cX10_readSteps 28 = .ok (.iload 4, 2) := by decide +kernel
theorem dX10_readSteps_30 : decode cX10_readSteps 30 = .ok (.bipush 93, 2) := by decide +kernel
theorem dX10_readSteps_32 : decode cX10_readSteps 32 = .ok (.if_icmp .ne 5, 3) := by decide +kernel
theorem dX10_readSteps_35 : decode cX10_readSteps 35 = .ok (.iconst 1, 1) := by decide +kernel
theorem dX10_readSteps_36 : decode cX10_readSteps 36 = .ok (.ireturn, 1) := by decide +kernel
theorem dX10_readSteps_37 : decode cX10_readSteps 37 = .ok (.aload_n 0, 1) := by decide +kernel
theorem dX10_readSteps_38 : decode cX10_readSteps 38 = .ok (.aload_n 1, 1) := by decide +kernel
theorem dX10_readSteps_39 : decode cX10_readSteps 39 = .ok (.iload_n 2, 1) := by decide +kernel
theorem dX10_readSteps_40 : decode cX10_readSteps 40 = .ok (.invokevirtual 38, 3) := by decide +kernel
theorem dX10_readSteps_43 : decode cX10_readSteps 43 = .ok (.ifCond .eq 12, 3) := by decide +kernel
theorem dX10_readSteps_46 : decode cX10_readSteps 46 = .ok (.aload_n 1, 1) := by decide +kernel
theorem dX10_readSteps_47 : decode cX10_readSteps 47 = .ok (.bipush 59, 2) := by decide +kernel
theorem dX10_readSteps_49 : decode cX10_readSteps 49 = .ok (.invokevirtual 41, 3) := by decide +kernel
theorem dX10_readSteps_52 : decode cX10_readSteps 52 = .ok (.ifCond .ne 5, 3) := by decide +kernel
theorem dX10_readSteps_55 : decode cX10_readSteps 55 = .ok (.iconst 0, 1) := by decide +kernel
theorem dX10_readSteps_56 : decode cX10_readSteps 56 = .ok (.ireturn, 1) := by decide +kernel
theorem dX10_readSteps_57 : decode cX10_readSteps 57 = .ok (.iinc 3 1, 3) := by decide +kernel
theorem dX10_readSteps_60 : decode cX10_readSteps 60 = .ok (.goto (-58), 3) := by decide +kernel
theorem dX10_readSteps_63 : decode cX10_readSteps 63 = .ok (.iconst 1, 1) := by decide +kernel
theorem dX10_readSteps_64 : decode cX10_readSteps 64 = .ok (.ireturn, 1) := by decide +kernel
theorem dX10_readStep_0 : decode cX10_readStep 0 = .ok (.aload_n 1, 1) := by decide +kernel
theorem dX10_readStep_1 : decode cX10_readStep 1 = .ok (.invokevirtual 45, 3) := by decide +kernel
theorem dX10_readStep_4 : decode cX10_readStep 4 = .ok (.ifCond .ne 5, 3) := by decide +kernel
theorem dX10_readStep_7 : decode cX10_readStep 7 = .ok (.iconst 0, 1) := by decide +kernel
theorem dX10_readStep_8 : decode cX10_readStep 8 = .ok (.ireturn, 1) := by decide +kernel
theorem dX10_readStep_9 : decode cX10_readStep 9 = .ok (.aload_n 1, 1) := by decide +kernel
theorem dX10_readStep_10 : decode cX10_readStep 10 = .ok (.invokestatic 49, 3) := by decide +kernel
theorem dX10_readStep_13 : decode cX10_readStep 13 = .ok (.istore_n 3, 1) := by decide +kernel
theorem dX10_readStep_14 : decode cX10_readStep 14 = .ok (.iload_n 3, 1) := by decide +kernel
theorem dX10_readStep_15 : decode cX10_readStep 15 = .ok (.iconst (-1), 1) := by decide +kernel
theorem dX10_readStep_16 : decode cX10_readStep 16 = .ok (.if_icmp .ne 13, 3) := by decide +kernel
theorem dX10_readStep_19 : decode cX10_readStep 19 = .ok (.aload_n 1, 1) := by decide +kernel
theorem dX10_readStep_20 : decode cX10_readStep 20 = .ok (.iconst 1, 1) := by decide +kernel
theorem dX10_readStep_21 : decode cX10_readStep 21 = .ok (.aload_n 1, 1) := by decide +kernel
theorem dX10_readStep_22 : decode cX10_readStep 22 = .ok (.getfield 53, 3) := by decide +kernel
theorem dX10_readStep_25 : decode cX10_readStep 25 = .ok (.invokevirtual 56, 3) := by decide +kernel
theorem dX10_readStep_28 : decode cX10_readStep 28 = .ok (.ireturn, 1) := by decide +kernel
theorem dX10_readStep_29 : decode cX10_readStep 29 = .ok (.iload_n 3, 1) := by decide +kernel
theorem dX10_readStep_30 : decode cX10_readStep 30 = .ok (.bipush 10, 2) := by decide +kernel
theorem dX10_readStep_32 : decode cX10_readStep 32 = .ok (.if_icmp .ne 10, 3) := by decide +kernel
theorem dX10_readStep_35 : decode cX10_readStep 35 = .ok (.aload_n 0, 1) := by decide +kernel
theorem dX10_readStep_36 : decode cX10_readStep 36 = .ok (.aload_n 1, 1) := by decide +kernel
theorem dX10_readStep_37 : decode cX10_readStep 37 = .ok (.iload_n 2, 1) := by decide +kernel
theorem dX10_readStep_38 : decode cX10_readStep 38 = .ok (.invokevirtual 60, 3) := by decide +kernel
theorem dX10_readStep_41 : decode cX10_readStep 41 = .ok (.ireturn, 1) := by decide +kernel
theorem dX10_readStep_42 : decode cX10_readStep 42 = .ok (.iconst 0, 1) := by decide +kernel
theorem dX10_readStep_43 : decode cX10_readStep 43 = .ok (.istore 4, 2) := by decide +kernel
theorem dX10_readStep_45 : decode cX10_readStep 45 = .ok (.iload_n 3, 1) := by decide +kernel
theorem dX10_readStep_46 : decode cX10_readStep 46 = .ok (.bipush 8, 2) := by decide +kernel
theorem dX10_readStep_48 : decode cX10_readStep 48 = .ok (.if_icmp .eq 42, 3) := by decide +kernel
theorem dX10_readStep_51 : decode cX10_readStep 51 = .ok (.iload_n 3, 1) := by decide +kernel
theorem dX10_readStep_52 : decode cX10_readStep 52 = .ok (.bipush 9, 2) := by decide +kernel
theorem dX10_readStep_54 : decode cX10_readStep 54 = .ok (.if_icmp .eq 36, 3) := by decide +kernel
theorem dX10_readStep_57 : decode cX10_readStep 57 = .ok (.aload_n 1, 1) := by decide +kernel
theorem dX10_readStep_58 : decode cX10_readStep 58 = .ok (.iconst 0, 1) := by decide +kernel
theorem dX10_readStep_59 : decode cX10_readStep 59 = .ok (.iload_n 3, 1) := by decide +kernel
theorem dX10_readStep_60 : decode cX10_readStep 60 = .ok (.bipush 7, 2) := by decide +kernel
theorem dX10_readStep_62 : decode cX10_readStep 62 = .ok (.if_icmp .ne 8, 3) := by decide +kernel
theorem dX10_readStep_65 : decode cX10_readStep 65 = .ok (.bipush 63, 2) := by decide +kernel
theorem dX10_readStep_67 : decode cX10_readStep 67 = .ok (.goto 9, 3) := by decide +kernel
theorem dX10_readStep_70 : decode cX10_readStep 70 = .ok (.aload_n 0, 1) := by decide +kernel
theorem dX10_readStep_71 : decode cX10_readStep 71 = .ok (.getfield 25, 3) := by decide +kernel
theorem dX10_readStep_74 : decode cX10_readStep 74 = .ok (.iconst 1, 1) := by decide +kernel
theorem dX10_readStep_75 : decode cX10_readStep 75 = .ok (.isub, 1) := by decide +kernel
theorem dX10_readStep_76 : decode cX10_readStep 76 = .ok (.invokevirtual 63, 3) := by decide +kernel
theorem dX10_readStep_79 : decode cX10_readStep 79 = .ok (.ifCond .ne 5, 3) := by decide +kernel
theorem dX10_readStep_82 : decode cX10_readStep 82 = .ok (.iconst 0, 1) := by decide +kernel
theorem dX10_readStep_83 : decode cX10_readStep 83 = .ok (.ireturn, 1) := by decide +kernel
theorem dX10_readStep_84 : decode cX10_readStep 84 = .ok (.aload_n 1, 1) := by decide +kernel
theorem dX10_readStep_85 : decode cX10_readStep 85 = .ok (.getfield 66, 3) := by decide +kernel
theorem dX10_readStep_88 : decode cX10_readStep 88 = .ok (.istore 4, 2) := by decide +kernel
theorem dX10_readStep_90 : decode cX10_readStep 90 = .ok (.iload_n 3, 1) := by decide +kernel
theorem dX10_readStep_91 : decode cX10_readStep 91 = .ok (.ifCond .ne 16, 3) := by decide +kernel
theorem dX10_readStep_94 : decode cX10_readStep 94 = .ok (.aload_n 1, 1) := by decide +kernel
theorem dX10_readStep_95 : decode cX10_readStep 95 = .ok (.iconst 0, 1) := by decide +kernel
theorem dX10_readStep_96 : decode cX10_readStep 96 = .ok (.sipush 999, 3) := by decide +kernel
theorem dX10_readStep_99 : decode cX10_readStep 99 = .ok (.invokevirtual 63, 3) := by decide +kernel
theorem dX10_readStep_102 : decode cX10_readStep 102 = .ok (.ifCond .ne 5, 3) := by decide +kernel
theorem dX10_readStep_105 : decode cX10_readStep 105 = .ok (.iconst 0, 1) := by decide +kernel
theorem dX10_readStep_106 : decode cX10_readStep 106 = .ok (.ireturn, 1) := by decide +kernel
theorem dX10_readStep_107 : decode cX10_readStep 107 = .ok (.aload_n 0, 1) := by decide +kernel
theorem dX10_readStep_108 : decode cX10_readStep 108 = .ok (.iload_n 3, 1) := by decide +kernel
theorem dX10_readStep_109 : decode cX10_readStep 109 = .ok (.iload 4, 2) := by decide +kernel
theorem dX10_readStep_111 : decode cX10_readStep 111 = .ok (.iload_n 3, 1) := by decide +kernel
theorem dX10_readStep_112 : decode cX10_readStep 112 = .ok (.ifCond .ne 10, 3) := by decide +kernel
theorem dX10_readStep_115 : decode cX10_readStep 115 = .ok (.aload_n 1, 1) := by decide +kernel
theorem dX10_readStep_116 : decode cX10_readStep 116 = .ok (.getfield 66, 3) := by decide +kernel
theorem dX10_readStep_119 : decode cX10_readStep 119 = .ok (.goto 4, 3) := by decide +kernel
theorem dX10_readStep_122 : decode cX10_readStep 122 = .ok (.iconst 0, 1) := by decide +kernel
theorem dX10_readStep_123 : decode cX10_readStep 123 = .ok (.invokevirtual 69, 3) := by decide +kernel
theorem dX10_readStep_126 : decode cX10_readStep 126 = .ok (.iconst 1, 1) := by decide +kernel
theorem dX10_readStep_127 : decode cX10_readStep 127 = .ok (.ireturn, 1) := by decide +kernel
theorem dX10_readAgain_0 : decode cX10_readAgain 0 = .ok (.iload_n 2, 1) := by decide +kernel
theorem dX10_readAgain_1 : decode cX10_readAgain 1 = .ok (.bipush 6, 2) := by decide +kernel
theorem dX10_readAgain_3 : decode cX10_readAgain 3 = .ok (.if_icmp .lt 13, 3) := by decide +kernel
theorem dX10_readAgain_6 : decode cX10_readAgain 6 = .ok (.aload_n 1, 1) := by decide +kernel
theorem dX10_readAgain_7 : decode cX10_readAgain 7 = .ok (.iconst 3, 1) := by decide +kernel
theorem dX10_readAgain_8 : decode cX10_readAgain 8 = .ok (.aload_n 1, 1) := by decide +kernel
theorem dX10_readAgain_9 : decode cX10_readAgain 9 = .ok (.getfield 53, 3) := by decide +kernel
theorem dX10_readAgain_12 : decode cX10_readAgain 12 = .ok (.invokevirtual 56, 3) := by decide +kernel
theorem dX10_readAgain_15 : decode cX10_readAgain 15 = .ok (.ireturn, 1) := by decide +kernel
theorem dX10_readAgain_16 : decode cX10_readAgain 16 = .ok (.aload_n 1, 1) := by decide +kernel
theorem dX10_readAgain_17 : decode cX10_readAgain 17 = .ok (.iconst 0, 1) := by decide +kernel
theorem dX10_readAgain_18 : decode cX10_readAgain 18 = .ok (.bipush 60, 2) := by decide +kernel
theorem dX10_readAgain_20 : decode cX10_readAgain 20 = .ok (.invokevirtual 63, 3) := by decide +kernel
theorem dX10_readAgain_23 : decode cX10_readAgain 23 = .ok (.ifCond .ne 5, 3) := by decide +kernel
theorem dX10_readAgain_26 : decode cX10_readAgain 26 = .ok (.iconst 0, 1) := by decide +kernel
theorem dX10_readAgain_27 : decode cX10_readAgain 27 = .ok (.ireturn, 1) := by decide +kernel
theorem dX10_readAgain_28 : decode cX10_readAgain 28 = .ok (.aload_n 0, 1) := by decide +kernel
theorem dX10_readAgain_29 : decode cX10_readAgain 29 = .ok (.getfield 21, 3) := by decide +kernel
theorem dX10_readAgain_32 : decode cX10_readAgain 32 = .ok (.istore_n 3, 1) := by decide +kernel
theorem dX10_readAgain_33 : decode cX10_readAgain 33 = .ok (.aload_n 0, 1) := by decide +kernel
theorem dX10_readAgain_34 : decode cX10_readAgain 34 = .ok (.bipush 10, 2) := by decide +kernel
theorem dX10_readAgain_36 : decode cX10_readAgain 36 = .ok (.aload_n 1, 1) := by decide +kernel
theorem dX10_readAgain_37 : decode cX10_readAgain 37 = .ok (.getfield 66, 3) := by decide +kernel
theorem dX10_readAgain_40 : decode cX10_readAgain 40 = .ok (.iconst 0, 1) := by decide +kernel
theorem dX10_readAgain_41 : decode cX10_readAgain 41 = .ok (.invokevirtual 69, 3) := by decide +kernel
theorem dX10_readAgain_44 : decode cX10_readAgain 44 = .ok (.aload_n 1, 1) := by decide +kernel
theorem dX10_readAgain_45 : decode cX10_readAgain 45 = .ok (.bipush 91, 2) := by decide +kernel
theorem dX10_readAgain_47 : decode cX10_readAgain 47 = .ok (.invokevirtual 41, 3) := by decide +kernel
theorem dX10_readAgain_50 : decode cX10_readAgain 50 = .ok (.ifCond .eq 23, 3) := by decide +kernel
theorem dX10_readAgain_53 : decode cX10_readAgain 53 = .ok (.aload_n 0, 1) := by decide +kernel
theorem dX10_readAgain_54 : decode cX10_readAgain 54 = .ok (.aload_n 1, 1) := by decide +kernel
theorem dX10_readAgain_55 : decode cX10_readAgain 55 = .ok (.iload_n 2, 1) := by decide +kernel
theorem dX10_readAgain_56 : decode cX10_readAgain 56 = .ok (.iconst 1, 1) := by decide +kernel
theorem dX10_readAgain_57 : decode cX10_readAgain 57 = .ok (.iadd, 1) := by decide +kernel
theorem dX10_readAgain_58 : decode cX10_readAgain 58 = .ok (.invokevirtual 28, 3) := by decide +kernel
theorem dX10_readAgain_61 : decode cX10_readAgain 61 = .ok (.ifCond .eq 12, 3) := by decide +kernel
theorem dX10_readAgain_64 : decode cX10_readAgain 64 = .ok (.aload_n 1, 1) := by decide +kernel
theorem dX10_readAgain_65 : decode cX10_readAgain 65 = .ok (.bipush 93, 2) := by decide +kernel
theorem dX10_readAgain_67 : decode cX10_readAgain 67 = .ok (.invokevirtual 41, 3) := by decide +kernel
theorem dX10_readAgain_70 : decode cX10_readAgain 70 = .ok (.ifCond .ne 5, 3) := by decide +kernel
theorem dX10_readAgain_73 : decode cX10_readAgain 73 = .ok (.iconst 0, 1) := by decide +kernel
theorem dX10_readAgain_74 : decode cX10_readAgain 74 = .ok (.ireturn, 1) := by decide +kernel
theorem dX10_readAgain_75 : decode cX10_readAgain 75 = .ok (.iload_n 3, 1) := by decide +kernel
theorem dX10_readAgain_76 : decode cX10_readAgain 76 = .ok (.aload_n 0, 1) := by decide +kernel
theorem dX10_readAgain_77 : decode cX10_readAgain 77 = .ok (.getfield 18, 3) := by decide +kernel
theorem dX10_readAgain_80 : decode cX10_readAgain 80 = .ok (.arraylength, 1) := by decide +kernel
theorem dX10_readAgain_81 : decode cX10_readAgain 81 = .ok (.if_icmp .ge 13, 3) := by decide +kernel
theorem dX10_readAgain_84 : decode cX10_readAgain 84 = .ok (.aload_n 0, 1) := by decide +kernel
theorem dX10_readAgain_85 : decode cX10_readAgain 85 = .ok (.getfield 18, 3) := by decide +kernel
theorem dX10_readAgain_88 : decode cX10_readAgain 88 = .ok (.iload_n 3, 1) := by decide +kernel
theorem dX10_readAgain_89 : decode cX10_readAgain 89 = .ok (.aload_n 0, 1) := by decide +kernel
theorem dX10_readAgain_90 : decode cX10_readAgain 90 = .ok (.getfield 21, 3) := by decide +kernel
theorem dX10_readAgain_93 : decode cX10_readAgain 93 = .ok (.iastore, 1) := by decide +kernel
theorem dX10_readAgain_94 : decode cX10_readAgain 94 = .ok (.iconst 1, 1) := by decide +kernel
theorem dX10_readAgain_95 : decode cX10_readAgain 95 = .ok (.ireturn, 1) := by decide +kernel
theorem dX10_kindOf_0 : decode cX10_kindOf 0 = .ok (.aload_n 0, 1) := by decide +kernel
theorem dX10_kindOf_1 : decode cX10_kindOf 1 = .ok (.ldc 73, 2) := by decide +kernel
theorem dX10_kindOf_3 : decode cX10_kindOf 3 = .ok (.invokevirtual 75, 3) := by decide +kernel
theorem dX10_kindOf_6 : decode cX10_kindOf 6 = .ok (.ifCond .eq 5, 3) := by decide +kernel
theorem dX10_kindOf_9 : decode cX10_kindOf 9 = .ok (.iconst 0, 1) := by decide +kernel
theorem dX10_kindOf_10 : decode cX10_kindOf 10 = .ok (.ireturn, 1) := by decide +kernel
theorem dX10_kindOf_11 : decode cX10_kindOf 11 = .ok (.aload_n 0, 1) := by decide +kernel
theorem dX10_kindOf_12 : decode cX10_kindOf 12 = .ok (.ldc 79, 2) := by decide +kernel
theorem dX10_kindOf_14 : decode cX10_kindOf 14 = .ok (.invokevirtual 75, 3) := by decide +kernel
theorem dX10_kindOf_17 : decode cX10_kindOf 17 = .ok (.ifCond .eq 5, 3) := by decide +kernel
theorem dX10_kindOf_20 : decode cX10_kindOf 20 = .ok (.iconst 1, 1) := by decide +kernel
theorem dX10_kindOf_21 : decode cX10_kindOf 21 = .ok (.ireturn, 1) := by decide +kernel
theorem dX10_kindOf_22 : decode cX10_kindOf 22 = .ok (.aload_n 0, 1) := by decide +kernel
theorem dX10_kindOf_23 : decode cX10_kindOf 23 = .ok (.ldc 81, 2) := by decide +kernel
theorem dX10_kindOf_25 : decode cX10_kindOf 25 = .ok (.invokevirtual 75, 3) := by decide +kernel
theorem dX10_kindOf_28 : decode cX10_kindOf 28 = .ok (.ifCond .eq 5, 3) := by decide +kernel
theorem dX10_kindOf_31 : decode cX10_kindOf 31 = .ok (.iconst 2, 1) := by decide +kernel
theorem dX10_kindOf_32 : decode cX10_kindOf 32 = .ok (.ireturn, 1) := by decide +kernel
theorem dX10_kindOf_33 : decode cX10_kindOf 33 = .ok (.aload_n 0, 1) := by decide +kernel
theorem dX10_kindOf_34 : decode cX10_kindOf 34 = .ok (.ldc 83, 2) := by decide +kernel
theorem dX10_kindOf_36 : decode cX10_kindOf 36 = .ok (.invokevirtual 75, 3) := by decide +kernel
theorem dX10_kindOf_39 : decode cX10_kindOf 39 = .ok (.ifCond .eq 5, 3) := by decide +kernel
theorem dX10_kindOf_42 : decode cX10_kindOf 42 = .ok (.iconst 3, 1) := by decide +kernel
theorem dX10_kindOf_43 : decode cX10_kindOf 43 = .ok (.ireturn, 1) := by decide +kernel
theorem dX10_kindOf_44 : decode cX10_kindOf 44 = .ok (.aload_n 0, 1) := by decide +kernel
theorem dX10_kindOf_45 : decode cX10_kindOf 45 = .ok (.ldc 85, 2) := by decide +kernel
theorem dX10_kindOf_47 : decode cX10_kindOf 47 = .ok (.invokevirtual 75, 3) := by decide +kernel
theorem dX10_kindOf_50 : decode cX10_kindOf 50 = .ok (.ifCond .eq 5, 3) := by decide +kernel
theorem dX10_kindOf_53 : decode cX10_kindOf 53 = .ok (.iconst 4, 1) := by decide +kernel
theorem dX10_kindOf_54 : decode cX10_kindOf 54 = .ok (.ireturn, 1) := by decide +kernel
theorem dX10_kindOf_55 : decode cX10_kindOf 55 = .ok (.aload_n 0, 1) := by decide +kernel
theorem dX10_kindOf_56 : decode cX10_kindOf 56 = .ok (.ldc 87, 2) := by decide +kernel
theorem dX10_kindOf_58 : decode cX10_kindOf 58 = .ok (.invokevirtual 75, 3) := by decide +kernel
theorem dX10_kindOf_61 : decode cX10_kindOf 61 = .ok (.ifCond .eq 5, 3) := by decide +kernel
theorem dX10_kindOf_64 : decode cX10_kindOf 64 = .ok (.iconst 5, 1) := by decide +kernel
theorem dX10_kindOf_65 : decode cX10_kindOf 65 = .ok (.ireturn, 1) := by decide +kernel
theorem dX10_kindOf_66 : decode cX10_kindOf 66 = .ok (.aload_n 0, 1) := by decide +kernel
theorem dX10_kindOf_67 : decode cX10_kindOf 67 = .ok (.ldc 89, 2) := by decide +kernel
theorem dX10_kindOf_69 : decode cX10_kindOf 69 = .ok (.invokevirtual 75, 3) := by decide +kernel
theorem dX10_kindOf_72 : decode cX10_kindOf 72 = .ok (.ifCond .eq 6, 3) := by decide +kernel
theorem dX10_kindOf_75 : decode cX10_kindOf 75 = .ok (.bipush 6, 2) := by decide +kernel
theorem dX10_kindOf_77 : decode cX10_kindOf 77 = .ok (.ireturn, 1) := by decide +kernel
theorem dX10_kindOf_78 : decode cX10_kindOf 78 = .ok (.aload_n 0, 1) := by decide +kernel
theorem dX10_kindOf_79 : decode cX10_kindOf 79 = .ok (.ldc 91, 2) := by decide +kernel
theorem dX10_kindOf_81 : decode cX10_kindOf 81 = .ok (.invokevirtual 75, 3) := by decide +kernel
theorem dX10_kindOf_84 : decode cX10_kindOf 84 = .ok (.ifCond .eq 6, 3) := by decide +kernel
theorem dX10_kindOf_87 : decode cX10_kindOf 87 = .ok (.bipush 7, 2) := by decide +kernel
theorem dX10_kindOf_89 : decode cX10_kindOf 89 = .ok (.ireturn, 1) := by decide +kernel
theorem dX10_kindOf_90 : decode cX10_kindOf 90 = .ok (.aload_n 0, 1) := by decide +kernel
theorem dX10_kindOf_91 : decode cX10_kindOf 91 = .ok (.ldc 93, 2) := by decide +kernel
theorem dX10_kindOf_93 : decode cX10_kindOf 93 = .ok (.invokevirtual 75, 3) := by decide +kernel
theorem dX10_kindOf_96 : decode cX10_kindOf 96 = .ok (.ifCond .eq 6, 3) := by decide +kernel
theorem dX10_kindOf_99 : decode cX10_kindOf 99 = .ok (.bipush 8, 2) := by decide +kernel
theorem dX10_kindOf_101 : decode cX10_kindOf 101 = .ok (.ireturn, 1) := by decide +kernel
theorem dX10_kindOf_102 : decode cX10_kindOf 102 = .ok (.aload_n 0, 1) := by decide +kernel
theorem dX10_kindOf_103 : decode cX10_kindOf 103 = .ok (.ldc 95, 2) := by decide +kernel
theorem dX10_kindOf_105 : decode cX10_kindOf 105 = .ok (.invokevirtual 75, 3) := by decide +kernel
theorem dX10_kindOf_108 : decode cX10_kindOf 108 = .ok (.ifCond .eq 6, 3) := by decide +kernel
theorem dX10_kindOf_111 : decode cX10_kindOf 111 = .ok (.bipush 9, 2) := by decide +kernel
theorem dX10_kindOf_113 : decode cX10_kindOf 113 = .ok (.ireturn, 1) := by decide +kernel
theorem dX10_kindOf_114 : decode cX10_kindOf 114 = .ok (.aload_n 0, 1) := by decide +kernel
theorem dX10_kindOf_115 : decode cX10_kindOf 115 = .ok (.ldc 97, 2) := by decide +kernel
theorem dX10_kindOf_117 : decode cX10_kindOf 117 = .ok (.invokevirtual 75, 3) := by decide +kernel
theorem dX10_kindOf_120 : decode cX10_kindOf 120 = .ok (.ifCond .eq 8, 3) := by decide +kernel
theorem dX10_kindOf_123 : decode cX10_kindOf 123 = .ok (.bipush 10, 2) := by decide +kernel
theorem dX10_kindOf_125 : decode cX10_kindOf 125 = .ok (.goto 4, 3) := by decide +kernel
theorem dX10_kindOf_128 : decode cX10_kindOf 128 = .ok (.iconst (-1), 1) := by decide +kernel
theorem dX10_kindOf_129 : decode cX10_kindOf 129 = .ok (.ireturn, 1) := by decide +kernel
theorem dX10_emit_0 : decode cX10_emit 0 = .ok (.aload_n 0, 1) := by decide +kernel
theorem dX10_emit_1 : decode cX10_emit 1 = .ok (.getfield 21, 3) := by decide +kernel
theorem dX10_emit_4 : decode cX10_emit 4 = .ok (.aload_n 0, 1) := by decide +kernel
theorem dX10_emit_5 : decode cX10_emit 5 = .ok (.getfield 9, 3) := by decide +kernel
theorem dX10_emit_8 : decode cX10_emit 8 = .ok (.arraylength, 1) := by decide +kernel
theorem dX10_emit_9 : decode cX10_emit 9 = .ok (.if_icmp .ge 43, 3) := by decide +kernel
theorem dX10_emit_12 : decode cX10_emit 12 = .ok (.aload_n 0, 1) := by decide +kernel
theorem dX10_emit_13 : decode cX10_emit 13 = .ok (.getfield 9, 3) := by decide +kernel
theorem dX10_emit_16 : decode cX10_emit 16 = .ok (.aload_n 0, 1) := by decide +kernel
theorem dX10_emit_17 : decode cX10_emit 17 = .ok (.getfield 21, 3) := by decide +kernel
theorem dX10_emit_20 : decode cX10_emit 20 = .ok (.iload_n 1, 1) := by decide +kernel
theorem dX10_emit_21 : decode cX10_emit 21 = .ok (.iastore, 1) := by decide +kernel
theorem dX10_emit_22 : decode cX10_emit 22 = .ok (.aload_n 0, 1) := by decide +kernel
theorem dX10_emit_23 : decode cX10_emit 23 = .ok (.getfield 15, 3) := by decide +kernel
theorem dX10_emit_26 : decode cX10_emit 26 = .ok (.aload_n 0, 1) := by decide +kernel
theorem dX10_emit_27 : decode cX10_emit 27 = .ok (.getfield 21, 3) := by decide +kernel
theorem dX10_emit_30 : decode cX10_emit 30 = .ok (.iload_n 2, 1) := by decide +kernel
theorem dX10_emit_31 : decode cX10_emit 31 = .ok (.iastore, 1) := by decide +kernel
theorem dX10_emit_32 : decode cX10_emit 32 = .ok (.aload_n 0, 1) := by decide +kernel
theorem dX10_emit_33 : decode cX10_emit 33 = .ok (.getfield 18, 3) := by decide +kernel
theorem dX10_emit_36 : decode cX10_emit 36 = .ok (.aload_n 0, 1) := by decide +kernel
theorem dX10_emit_37 : decode cX10_emit 37 = .ok (.getfield 21, 3) := by decide +kernel
theorem dX10_emit_40 : decode cX10_emit 40 = .ok (.iload_n 3, 1) := by decide +kernel
theorem dX10_emit_41 : decode cX10_emit 41 = .ok (.iastore, 1) := by decide +kernel
theorem dX10_emit_42 : decode cX10_emit 42 = .ok (.aload_n 0, 1) := by decide +kernel
theorem dX10_emit_43 : decode cX10_emit 43 = .ok (.dup, 1) := by decide +kernel
theorem dX10_emit_44 : decode cX10_emit 44 = .ok (.getfield 21, 3) := by decide +kernel
theorem dX10_emit_47 : decode cX10_emit 47 = .ok (.iconst 1, 1) := by decide +kernel
theorem dX10_emit_48 : decode cX10_emit 48 = .ok (.iadd, 1) := by decide +kernel
theorem dX10_emit_49 : decode cX10_emit 49 = .ok (.putfield 21, 3) := by decide +kernel
theorem dX10_emit_52 : decode cX10_emit 52 = .ok (.return_, 1) := by decide +kernel
theorem dX10_begin_0 : decode cX10_begin 0 = .ok (.aload_n 0, 1) := by decide +kernel
theorem dX10_begin_1 : decode cX10_begin 1 = .ok (.iconst 0, 1) := by decide +kernel
theorem dX10_begin_2 : decode cX10_begin 2 = .ok (.putfield 99, 3) := by decide +kernel
theorem dX10_begin_5 : decode cX10_begin 5 = .ok (.aload_n 0, 1) := by decide +kernel
theorem dX10_begin_6 : decode cX10_begin 6 = .ok (.iconst 0, 1) := by decide +kernel
theorem dX10_begin_7 : decode cX10_begin 7 = .ok (.putfield 102, 3) := by decide +kernel
theorem dX10_begin_10 : decode cX10_begin 10 = .ok (.aload_n 0, 1) := by decide +kernel
theorem dX10_begin_11 : decode cX10_begin 11 = .ok (.iconst 0, 1) := by decide +kernel
theorem dX10_begin_12 : decode cX10_begin 12 = .ok (.putfield 105, 3) := by decide +kernel
theorem dX10_begin_15 : decode cX10_begin 15 = .ok (.return_, 1) := by decide +kernel
theorem dX10_run_0 : decode cX10_run 0 = .ok (.iload_n 3, 1) := by decide +kernel
theorem dX10_run_1 : decode cX10_run 1 = .ok (.istore 6, 2) := by decide +kernel
theorem dX10_run_3 : decode cX10_run 3 = .ok (.iload_n 3, 1) := by decide +kernel
theorem dX10_run_4 : decode cX10_run 4 = .ok (.istore 7, 2) := by decide +kernel
theorem dX10_run_6 : decode cX10_run 6 = .ok (.iload 7, 2) := by decide +kernel
theorem dX10_run_8 : decode cX10_run 8 = .ok (.iload 4, 2) := by decide +kernel
theorem dX10_run_10 : decode cX10_run 10 = .ok (.if_icmp .ge 150, 3) := by decide +kernel
theorem dX10_run_13 : decode cX10_run 13 = .ok (.iload 6, 2) := by decide +kernel
theorem dX10_run_15 : decode cX10_run 15 = .ok (.ifCond .lt 145, 3) := by decide +kernel
theorem dX10_run_18 : decode cX10_run 18 = .ok (.iload 6, 2) := by decide +kernel
theorem dX10_run_20 : decode cX10_run 20 = .ok (.iload 4, 2) := by decide +kernel
theorem dX10_run_22 : decode cX10_run 22 = .ok (.if_icmp .ge 138, 3) := by decide +kernel
theorem dX10_run_25 : decode cX10_run 25 = .ok (.iload 6, 2) := by decide +kernel
theorem dX10_run_27 : decode cX10_run 27 = .ok (.aload_n 0, 1) := by decide +kernel
theorem dX10_run_28 : decode cX10_run 28 = .ok (.getfield 9, 3) := by decide +kernel
theorem dX10_run_31 : decode cX10_run 31 = .ok (.arraylength, 1) := by decide +kernel
theorem dX10_run_32 : decode cX10_run 32 = .ok (.if_icmp .ge 128, 3) := by decide +kernel
theorem dX10_run_35 : decode cX10_run 35 = .ok (.aload_n 0, 1) := by decide +kernel
theorem dX10_run_36 : decode cX10_run 36 = .ok (.getfield 99, 3) := by decide +kernel
theorem dX10_run_39 : decode cX10_run 39 = .ok (.sipush 200, 3) := by decide +kernel
theorem dX10_run_42 : decode cX10_run 42 = .ok (.if_icmp .ge 10, 3) := by decide +kernel
theorem dX10_run_45 : decode cX10_run 45 = .ok (.iload 5, 2) := by decide +kernel
theorem dX10_run_47 : decode cX10_run 47 = .ok (.bipush 6, 2) := by decide +kernel
theorem dX10_run_49 : decode cX10_run 49 = .ok (.if_icmp .le 4, 3) := by decide +kernel
theorem dX10_run_52 : decode cX10_run 52 = .ok (.return_, 1) := by decide +kernel
theorem dX10_run_53 : decode cX10_run 53 = .ok (.aload_n 0, 1) := by decide +kernel
theorem dX10_run_54 : decode cX10_run 54 = .ok (.dup, 1) := by decide +kernel
theorem dX10_run_55 : decode cX10_run 55 = .ok (.getfield 99, 3) := by decide +kernel
theorem dX10_run_58 : decode cX10_run 58 = .ok (.iconst 1, 1) := by decide +kernel
theorem dX10_run_59 : decode cX10_run 59 = .ok (.iadd, 1) := by decide +kernel
theorem dX10_run_60 : decode cX10_run 60 = .ok (.putfield 99, 3) := by decide +kernel
theorem dX10_run_63 : decode cX10_run 63 = .ok (.aload_n 0, 1) := by decide +kernel
theorem dX10_run_64 : decode cX10_run 64 = .ok (.getfield 9, 3) := by decide +kernel
theorem dX10_run_67 : decode cX10_run 67 = .ok (.iload 6, 2) := by decide +kernel
theorem dX10_run_69 : decode cX10_run 69 = .ok (.iaload, 1) := by decide +kernel
theorem dX10_run_70 : decode cX10_run 70 = .ok (.bipush 10, 2) := by decide +kernel
theorem dX10_run_72 : decode cX10_run 72 = .ok (.if_icmp .eq 21, 3) := by decide +kernel
theorem dX10_run_75 : decode cX10_run 75 = .ok (.aload_n 0, 1) := by decide +kernel
theorem dX10_run_76 : decode cX10_run 76 = .ok (.aload_n 0, 1) := by decide +kernel
theorem dX10_run_77 : decode cX10_run 77 = .ok (.aload_n 1, 1) := by decide +kernel
theorem dX10_run_78 : decode cX10_run 78 = .ok (.aload_n 2, 1) := by decide +kernel
theorem dX10_run_79 : decode cX10_run 79 = .ok (.iload 6, 2) := by decide +kernel
theorem dX10_run_81 : decode cX10_run 81 = .ok (.invokevirtual 108, 3) := by decide +kernel
theorem dX10_run_84 : decode cX10_run 84 = .ok (.invokevirtual 112, 3) := by decide +kernel
theorem dX10_run_87 : decode cX10_run 87 = .ok (.iinc 6 1, 3) := by decide +kernel
theorem dX10_run_90 : decode cX10_run 90 = .ok (.goto 64, 3) := by decide +kernel
theorem dX10_run_93 : decode cX10_run 93 = .ok (.iconst 0, 1) := by decide +kernel
theorem dX10_run_94 : decode cX10_run 94 = .ok (.istore 8, 2) := by decide +kernel
theorem dX10_run_96 : decode cX10_run 96 = .ok (.iload 8, 2) := by decide +kernel
theorem dX10_run_98 : decode cX10_run 98 = .ok (.aload_n 0, 1) := by decide +kernel
theorem dX10_run_99 : decode cX10_run 99 = .ok (.getfield 15, 3) := by decide +kernel
theorem dX10_run_102 : decode cX10_run 102 = .ok (.iload 6, 2) := by decide +kernel
theorem dX10_run_104 : decode cX10_run 104 = .ok (.iaload, 1) := by decide +kernel
theorem dX10_run_105 : decode cX10_run 105 = .ok (.if_icmp .ge 40, 3) := by decide +kernel
theorem dX10_run_108 : decode cX10_run 108 = .ok (.aload_n 0, 1) := by decide +kernel
theorem dX10_run_109 : decode cX10_run 109 = .ok (.getfield 99, 3) := by decide +kernel
theorem dX10_run_112 : decode cX10_run 112 = .ok (.sipush 200, 3) := by decide +kernel
theorem dX10_run_115 : decode cX10_run 115 = .ok (.if_icmp .ge 30, 3) := by decide +kernel
theorem dX10_run_118 : decode cX10_run 118 = .ok (.aload_n 0, 1) := by decide +kernel
theorem dX10_run_119 : decode cX10_run 119 = .ok (.aload_n 1, 1) := by decide +kernel
theorem dX10_run_120 : decode cX10_run 120 = .ok (.aload_n 2, 1) := by decide +kernel
theorem dX10_run_121 : decode cX10_run 121 = .ok (.iload 6, 2) := by decide +kernel
theorem dX10_run_123 : decode cX10_run 123 = .ok (.iconst 1, 1) := by decide +kernel
theorem dX10_run_124 : decode cX10_run 124 = .ok (.iadd, 1) := by decide +kernel
theorem dX10_run_125 : decode cX10_run 125 = .ok (.aload_n 0, 1) := by decide +kernel
theorem dX10_run_126 : decode cX10_run 126 = .ok (.getfield 18, 3) := by decide +kernel
theorem dX10_run_129 : decode cX10_run 129 = .ok (.iload 6, 2) := by decide +kernel
theorem dX10_run_131 : decode cX10_run 131 = .ok (.iaload, 1) := by decide +kernel
theorem dX10_run_132 : decode cX10_run 132 = .ok (.iload 5, 2) := by decide +kernel
theorem dX10_run_134 : decode cX10_run 134 = .ok (.iconst 1, 1) := by decide +kernel
theorem dX10_run_135 : decode cX10_run 135 = .ok (.iadd, 1) := by decide +kernel
theorem dX10_run_136 : decode cX10_run 136 = .ok (.invokevirtual 116, 3) := by decide +kernel
theorem dX10_run_139 : decode cX10_run 139 = .ok (.iinc 8 1, 3) := by decide +kernel
theorem dX10_run_142 : decode cX10_run 142 = .ok (.goto (-46), 3) := by decide +kernel
theorem dX10_run_145 : decode cX10_run 145 = .ok (.aload_n 0, 1) := by decide +kernel
theorem dX10_run_146 : decode cX10_run 146 = .ok (.getfield 18, 3) := by decide +kernel
theorem dX10_run_149 : decode cX10_run 149 = .ok (.iload 6, 2) := by decide +kernel
theorem dX10_run_151 : decode cX10_run 151 = .ok (.iaload, 1) := by decide +kernel
theorem dX10_run_152 : decode cX10_run 152 = .ok (.istore 6, 2) := by decide +kernel
theorem dX10_run_154 : decode cX10_run 154 = .ok (.iinc 7 1, 3) := by decide +kernel
theorem dX10_run_157 : decode cX10_run 157 = .ok (.goto (-151), 3) := by decide +kernel
theorem dX10_run_160 : decode cX10_run 160 = .ok (.return_, 1) := by decide +kernel
theorem dX10_score_0 : decode cX10_score 0 = .ok (.iload_n 1, 1) := by decide +kernel
theorem dX10_score_1 : decode cX10_score 1 = .ok (.ifCond .eq 16, 3) := by decide +kernel
theorem dX10_score_4 : decode cX10_score 4 = .ok (.aload_n 0, 1) := by decide +kernel
theorem dX10_score_5 : decode cX10_score 5 = .ok (.dup, 1) := by decide +kernel
theorem dX10_score_6 : decode cX10_score 6 = .ok (.getfield 102, 3) := by decide +kernel
theorem dX10_score_9 : decode cX10_score 9 = .ok (.iconst 1, 1) := by decide +kernel
theorem dX10_score_10 : decode cX10_score 10 = .ok (.iadd, 1) := by decide +kernel
theorem dX10_score_11 : decode cX10_score 11 = .ok (.putfield 102, 3) := by decide +kernel
theorem dX10_score_14 : decode cX10_score 14 = .ok (.goto 13, 3) := by decide +kernel
theorem dX10_score_17 : decode cX10_score 17 = .ok (.aload_n 0, 1) := by decide +kernel
theorem dX10_score_18 : decode cX10_score 18 = .ok (.dup, 1) := by decide +kernel
theorem dX10_score_19 : decode cX10_score 19 = .ok (.getfield 105, 3) := by decide +kernel
theorem dX10_score_22 : decode cX10_score 22 = .ok (.iconst 1, 1) := by decide +kernel
theorem dX10_score_23 : decode cX10_score 23 = .ok (.iadd, 1) := by decide +kernel
theorem dX10_score_24 : decode cX10_score 24 = .ok (.putfield 105, 3) := by decide +kernel
theorem dX10_score_27 : decode cX10_score 27 = .ok (.return_, 1) := by decide +kernel
theorem dX10_doStep_0 : decode cX10_doStep 0 = .ok (.iload_n 3, 1) := by decide +kernel
theorem dX10_doStep_1 : decode cX10_doStep 1 = .ok (.ifCond .lt 12, 3) := by decide +kernel
theorem dX10_doStep_4 : decode cX10_doStep 4 = .ok (.iload_n 3, 1) := by decide +kernel
theorem dX10_doStep_5 : decode cX10_doStep 5 = .ok (.aload_n 0, 1) := by decide +kernel
theorem dX10_doStep_6 : decode cX10_doStep 6 = .ok (.getfield 9, 3) := by decide +kernel
theorem dX10_doStep_9 : decode cX10_doStep 9 = .ok (.arraylength, 1) := by decide +kernel
theorem dX10_doStep_10 : decode cX10_doStep 10 = .ok (.if_icmp .lt 5, 3) := by decide +kernel
theorem dX10_doStep_13 : decode cX10_doStep 13 = .ok (.iconst 0, 1) := by decide +kernel
theorem dX10_doStep_14 : decode cX10_doStep 14 = .ok (.ireturn, 1) := by decide +kernel
theorem dX10_doStep_15 : decode cX10_doStep 15 = .ok (.aload_n 0, 1) := by decide +kernel
theorem dX10_doStep_16 : decode cX10_doStep 16 = .ok (.getfield 15, 3) := by decide +kernel
theorem dX10_doStep_19 : decode cX10_doStep 19 = .ok (.iload_n 3, 1) := by decide +kernel
theorem dX10_doStep_20 : decode cX10_doStep 20 = .ok (.iaload, 1) := by decide +kernel
theorem dX10_doStep_21 : decode cX10_doStep 21 = .ok (.istore 4, 2) := by decide +kernel
theorem dX10_doStep_23 : decode cX10_doStep 23 = .ok (.aload_n 0, 1) := by decide +kernel
theorem dX10_doStep_24 : decode cX10_doStep 24 = .ok (.getfield 9, 3) := by decide +kernel
theorem dX10_doStep_27 : decode cX10_doStep 27 = .ok (.iload_n 3, 1) := by decide +kernel
theorem dX10_doStep_28 : decode cX10_doStep 28 = .ok (.iaload, 1) := by decide +kernel
theorem dX10_doStep_29 : decode cX10_doStep 29 = .ok (.tableswitch 123 0 8 #[51, 68, 75, 82, 89, 96, 103, 110, 117], 51) := by decide +kernel
theorem dX10_doStep_80 : decode cX10_doStep 80 = .ok (.aload_n 1, 1) := by decide +kernel
theorem dX10_doStep_81 : decode cX10_doStep 81 = .ok (.iload 4, 2) := by decide +kernel
theorem dX10_doStep_83 : decode cX10_doStep 83 = .ok (.aload_n 0, 1) := by decide +kernel
theorem dX10_doStep_84 : decode cX10_doStep 84 = .ok (.getfield 18, 3) := by decide +kernel
theorem dX10_doStep_87 : decode cX10_doStep 87 = .ok (.iload_n 3, 1) := by decide +kernel
theorem dX10_doStep_88 : decode cX10_doStep 88 = .ok (.iaload, 1) := by decide +kernel
theorem dX10_doStep_89 : decode cX10_doStep 89 = .ok (.aload_n 2, 1) := by decide +kernel
theorem dX10_doStep_90 : decode cX10_doStep 90 = .ok (.invokevirtual 120, 3) := by decide +kernel
theorem dX10_doStep_93 : decode cX10_doStep 93 = .ok (.invokevirtual 125, 3) := by decide +kernel
theorem dX10_doStep_96 : decode cX10_doStep 96 = .ok (.ireturn, 1) := by decide +kernel
theorem dX10_doStep_97 : decode cX10_doStep 97 = .ok (.aload_n 1, 1) := by decide +kernel
theorem dX10_doStep_98 : decode cX10_doStep 98 = .ok (.iload 4, 2) := by decide +kernel
theorem dX10_doStep_100 : decode cX10_doStep 100 = .ok (.invokevirtual 130, 3) := by decide +kernel
theorem dX10_doStep_103 : decode cX10_doStep 103 = .ok (.ireturn, 1) := by decide +kernel
theorem dX10_doStep_104 : decode cX10_doStep 104 = .ok (.aload_n 1, 1) := by decide +kernel
theorem dX10_doStep_105 : decode cX10_doStep 105 = .ok (.iload 4, 2) := by decide +kernel
theorem dX10_doStep_107 : decode cX10_doStep 107 = .ok (.invokevirtual 133, 3) := by decide +kernel
theorem dX10_doStep_110 : decode cX10_doStep 110 = .ok (.ireturn, 1) := by decide +kernel
theorem dX10_doStep_111 : decode cX10_doStep 111 = .ok (.aload_n 1, 1) := by decide +kernel
theorem dX10_doStep_112 : decode cX10_doStep 112 = .ok (.iload 4, 2) := by decide +kernel
theorem dX10_doStep_114 : decode cX10_doStep 114 = .ok (.invokevirtual 135, 3) := by decide +kernel
theorem dX10_doStep_117 : decode cX10_doStep 117 = .ok (.ireturn, 1) := by decide +kernel
theorem dX10_doStep_118 : decode cX10_doStep 118 = .ok (.aload_n 1, 1) := by decide +kernel
theorem dX10_doStep_119 : decode cX10_doStep 119 = .ok (.iload 4, 2) := by decide +kernel
theorem dX10_doStep_121 : decode cX10_doStep 121 = .ok (.invokevirtual 137, 3) := by decide +kernel
theorem dX10_doStep_124 : decode cX10_doStep 124 = .ok (.ireturn, 1) := by decide +kernel
theorem dX10_doStep_125 : decode cX10_doStep 125 = .ok (.aload_n 1, 1) := by decide +kernel
theorem dX10_doStep_126 : decode cX10_doStep 126 = .ok (.iload 4, 2) := by decide +kernel
theorem dX10_doStep_128 : decode cX10_doStep 128 = .ok (.invokevirtual 139, 3) := by decide +kernel
theorem dX10_doStep_131 : decode cX10_doStep 131 = .ok (.ireturn, 1) := by decide +kernel
theorem dX10_doStep_132 : decode cX10_doStep 132 = .ok (.aload_n 1, 1) := by decide +kernel
theorem dX10_doStep_133 : decode cX10_doStep 133 = .ok (.iload 4, 2) := by decide +kernel
theorem dX10_doStep_135 : decode cX10_doStep 135 = .ok (.invokevirtual 141, 3) := by decide +kernel
theorem dX10_doStep_138 : decode cX10_doStep 138 = .ok (.ireturn, 1) := by decide +kernel
theorem dX10_doStep_139 : decode cX10_doStep 139 = .ok (.aload_n 1, 1) := by decide +kernel
theorem dX10_doStep_140 : decode cX10_doStep 140 = .ok (.iload 4, 2) := by decide +kernel
theorem dX10_doStep_142 : decode cX10_doStep 142 = .ok (.invokevirtual 143, 3) := by decide +kernel
theorem dX10_doStep_145 : decode cX10_doStep 145 = .ok (.ireturn, 1) := by decide +kernel
theorem dX10_doStep_146 : decode cX10_doStep 146 = .ok (.aload_n 2, 1) := by decide +kernel
theorem dX10_doStep_147 : decode cX10_doStep 147 = .ok (.aload_n 1, 1) := by decide +kernel
theorem dX10_doStep_148 : decode cX10_doStep 148 = .ok (.invokevirtual 145, 3) := by decide +kernel
theorem dX10_doStep_151 : decode cX10_doStep 151 = .ok (.ireturn, 1) := by decide +kernel
theorem dX10_doStep_152 : decode cX10_doStep 152 = .ok (.aload_n 2, 1) := by decide +kernel
theorem dX10_doStep_153 : decode cX10_doStep 153 = .ok (.aload_n 1, 1) := by decide +kernel
theorem dX10_doStep_154 : decode cX10_doStep 154 = .ok (.invokevirtual 148, 3) := by decide +kernel
theorem dX10_doStep_157 : decode cX10_doStep 157 = .ok (.ireturn, 1) := by decide +kernel
theorem dX11_init_0 : decode cX11_init 0 = .ok (.aload_n 0, 1) := by decide +kernel
theorem dX11_init_1 : decode cX11_init 1 = .ok (.invokespecial 1, 3) := by decide +kernel
theorem dX11_init_4 : decode cX11_init 4 = .ok (.aload_n 0, 1) := by decide +kernel
theorem dX11_init_5 : decode cX11_init 5 = .ok (.new 7, 3) := by decide +kernel
theorem dX11_init_8 : decode cX11_init 8 = .ok (.dup, 1) := by decide +kernel
theorem dX11_init_9 : decode cX11_init 9 = .ok (.invokespecial 9, 3) := by decide +kernel
theorem dX11_init_12 : decode cX11_init 12 = .ok (.putfield 10, 3) := by decide +kernel
theorem dX11_init_15 : decode cX11_init 15 = .ok (.aload_n 0, 1) := by decide +kernel
theorem dX11_init_16 : decode cX11_init 16 = .ok (.new 16, 3) := by decide +kernel
theorem dX11_init_19 : decode cX11_init 19 = .ok (.dup, 1) := by decide +kernel
theorem dX11_init_20 : decode cX11_init 20 = .ok (.invokespecial 18, 3) := by decide +kernel
theorem dX11_init_23 : decode cX11_init 23 = .ok (.putfield 19, 3) := by decide +kernel
theorem dX11_init_26 : decode cX11_init 26 = .ok (.aload_n 0, 1) := by decide +kernel
theorem dX11_init_27 : decode cX11_init 27 = .ok (.new 23, 3) := by decide +kernel
theorem dX11_init_30 : decode cX11_init 30 = .ok (.dup, 1) := by decide +kernel
theorem dX11_init_31 : decode cX11_init 31 = .ok (.invokespecial 25, 3) := by decide +kernel
theorem dX11_init_34 : decode cX11_init 34 = .ok (.putfield 26, 3) := by decide +kernel
theorem dX11_init_37 : decode cX11_init 37 = .ok (.aload_n 0, 1) := by decide +kernel
theorem dX11_init_38 : decode cX11_init 38 = .ok (.new 30, 3) := by decide +kernel
theorem dX11_init_41 : decode cX11_init 41 = .ok (.dup, 1) := by decide +kernel
theorem dX11_init_42 : decode cX11_init 42 = .ok (.invokespecial 32, 3) := by decide +kernel
theorem dX11_init_45 : decode cX11_init 45 = .ok (.putfield 33, 3) := by decide +kernel
theorem dX11_init_48 : decode cX11_init 48 = .ok (.aload_n 0, 1) := by decide +kernel
theorem dX11_init_49 : decode cX11_init 49 = .ok (.new 37, 3) := by decide +kernel
theorem dX11_init_52 : decode cX11_init 52 = .ok (.dup, 1) := by decide +kernel
theorem dX11_init_53 : decode cX11_init 53 = .ok (.invokespecial 39, 3) := by decide +kernel
theorem dX11_init_56 : decode cX11_init 56 = .ok (.putfield 40, 3) := by decide +kernel
theorem dX11_init_59 : decode cX11_init 59 = .ok (.aload_n 0, 1) := by decide +kernel
theorem dX11_init_60 : decode cX11_init 60 = .ok (.new 44, 3) := by decide +kernel
theorem dX11_init_63 : decode cX11_init 63 = .ok (.dup, 1) := by decide +kernel
theorem dX11_init_64 : decode cX11_init 64 = .ok (.aload_n 0, 1) := by decide +kernel
theorem dX11_init_65 : decode cX11_init 65 = .ok (.getfield 19, 3) := by decide +kernel
theorem dX11_init_68 : decode cX11_init 68 = .ok (.aload_n 0, 1) := by decide +kernel
theorem dX11_init_69 : decode cX11_init 69 = .ok (.getfield 26, 3) := by decide +kernel
theorem dX11_init_72 : decode cX11_init 72 = .ok (.invokespecial 46, 3) := by decide +kernel
theorem dX11_init_75 : decode cX11_init 75 = .ok (.putfield 49, 3) := by decide +kernel
theorem dX11_init_78 : decode cX11_init 78 = .ok (.aload_n 0, 1) := by decide +kernel
theorem dX11_init_79 : decode cX11_init 79 = .ok (.new 53, 3) := by decide +kernel
theorem dX11_init_82 : decode cX11_init 82 = .ok (.dup, 1) := by decide +kernel
theorem dX11_init_83 : decode cX11_init 83 = .ok (.invokespecial 55, 3) := by decide +kernel
theorem dX11_init_86 : decode cX11_init 86 = .ok (.putfield 56, 3) := by decide +kernel
theorem dX11_init_89 : decode cX11_init 89 = .ok (.aload_n 0, 1) := by decide +kernel
theorem dX11_init_90 : decode cX11_init 90 = .ok (.new 53, 3) := by decide +kernel
theorem dX11_init_93 : decode cX11_init 93 = .ok (.dup, 1) := by decide +kernel
theorem dX11_init_94 : decode cX11_init 94 = .ok (.invokespecial 55, 3) := by decide +kernel
theorem dX11_init_97 : decode cX11_init 97 = .ok (.putfield 60, 3) := by decide +kernel
theorem dX11_init_100 : decode cX11_init 100 = .ok (.aload_n 0, 1) := by decide +kernel
theorem dX11_init_101 : decode cX11_init 101 = .ok (.new 63, 3) := by decide +kernel
theorem dX11_init_104 : decode cX11_init 104 = .ok (.dup, 1) := by decide +kernel
theorem dX11_init_105 : decode cX11_init 105 = .ok (.invokespecial 65, 3) := by decide +kernel
theorem dX11_init_108 : decode cX11_init 108 = .ok (.putfield 66, 3) := by decide +kernel
theorem dX11_init_111 : decode cX11_init 111 = .ok (.aload_n 0, 1) := by decide +kernel
theorem dX11_init_112 : decode cX11_init 112 = .ok (.iconst 3, 1) := by decide +kernel
theorem dX11_init_113 : decode cX11_init 113 = .ok (.anewarray 70, 3) := by decide +kernel
theorem dX11_init_116 : decode cX11_init 116 = .ok (.putfield 72, 3) := by decide +kernel
theorem dX11_init_119 : decode cX11_init 119 = .ok (.aload_n 0, 1) := by decide +kernel
theorem dX11_init_120 : decode cX11_init 120 = .ok (.new 76, 3) := by decide +kernel
theorem dX11_init_123 : decode cX11_init 123 = .ok (.dup, 1) := by decide +kernel
theorem dX11_init_124 : decode cX11_init 124 = .ok (.invokespecial 78, 3) := by decide +kernel
theorem dX11_init_127 : decode cX11_init 127 = .ok (.putfield 79, 3) := by decide +kernel
theorem dX11_init_130 : decode cX11_init 130 = .ok (.aload_n 0, 1) := by decide +kernel
theorem dX11_init_131 : decode cX11_init 131 = .ok (.new 83, 3) := by decide +kernel
theorem dX11_init_134 : decode cX11_init 134 = .ok (.dup, 1) := by decide +kernel
theorem dX11_init_135 : decode cX11_init 135 = .ok (.invokespecial 85, 3) := by decide +kernel
theorem dX11_init_138 : decode cX11_init 138 = .ok (.putfield 86, 3) := by decide +kernel
theorem dX11_init_141 : decode cX11_init 141 = .ok (.aload_n 0, 1) := by decide +kernel
theorem dX11_init_142 : decode cX11_init 142 = .ok (.iconst 4, 1) := by decide +kernel
theorem dX11_init_143 : decode cX11_init 143 = .ok (.newarray .int, 2) := by decide +kernel
theorem dX11_init_145 : decode cX11_init 145 = .ok (.putfield 90, 3) := by decide +kernel
theorem dX11_init_148 : decode cX11_init 148 = .ok (.aload_n 0, 1) := by decide +kernel
theorem dX11_init_149 : decode cX11_init 149 = .ok (.getfield 56, 3) := by decide +kernel
theorem dX11_init_152 : decode cX11_init 152 = .ok (.iconst 0, 1) := by decide +kernel
theorem dX11_init_153 : decode cX11_init 153 = .ok (.iconst 0, 1) := by decide +kernel
theorem dX11_init_154 : decode cX11_init 154 = .ok (.invokevirtual 94, 3) := by decide +kernel
theorem dX11_init_157 : decode cX11_init 157 = .ok (.return_, 1) := by decide +kernel
theorem dX11_feed_0 : decode cX11_feed 0 = .ok (.aload_n 0, 1) := by decide +kernel
theorem dX11_feed_1 : decode cX11_feed 1 = .ok (.getfield 10, 3) := by decide +kernel
theorem dX11_feed_4 : decode cX11_feed 4 = .ok (.invokevirtual 98, 3) := by decide +kernel
theorem dX11_feed_7 : decode cX11_feed 7 = .ok (.ifCond .ne 5, 3) := by decide +kernel
theorem dX11_feed_10 : decode cX11_feed 10 = .ok (.iconst (-1), 1) := by decide +kernel
theorem dX11_feed_11 : decode cX11_feed 11 = .ok (.ireturn, 1) := by decide +kernel
theorem dX11_feed_12 : decode cX11_feed 12 = .ok (.aload_n 0, 1) := by decide +kernel
theorem dX11_feed_13 : decode cX11_feed 13 = .ok (.getfield 10, 3) := by decide +kernel
theorem dX11_feed_16 : decode cX11_feed 16 = .ok (.iload_n 1, 1) := by decide +kernel
theorem dX11_feed_17 : decode cX11_feed 17 = .ok (.invokevirtual 102, 3) := by decide +kernel
theorem dX11_feed_20 : decode cX11_feed 20 = .ok (.aload_n 0, 1) := by decide +kernel
theorem dX11_feed_21 : decode cX11_feed 21 = .ok (.getfield 10, 3) := by decide +kernel
theorem dX11_feed_24 : decode cX11_feed 24 = .ok (.iload_n 2, 1) := by decide +kernel
theorem dX11_feed_25 : decode cX11_feed 25 = .ok (.invokevirtual 102, 3) := by decide +kernel
theorem dX11_feed_28 : decode cX11_feed 28 = .ok (.aload_n 0, 1) := by decide +kernel
theorem dX11_feed_29 : decode cX11_feed 29 = .ok (.getfield 10, 3) := by decide +kernel
theorem dX11_feed_32 : decode cX11_feed 32 = .ok (.iload_n 3, 1) := by decide +kernel
theorem dX11_feed_33 : decode cX11_feed 33 = .ok (.invokevirtual 102, 3) := by decide +kernel
theorem dX11_feed_36 : decode cX11_feed 36 = .ok (.aload_n 0, 1) := by decide +kernel
theorem dX11_feed_37 : decode cX11_feed 37 = .ok (.getfield 10, 3) := by decide +kernel
theorem dX11_feed_40 : decode cX11_feed 40 = .ok (.iload 4, 2) := by decide +kernel
theorem dX11_feed_42 : decode cX11_feed 42 = .ok (.invokevirtual 102, 3) := by decide +kernel
theorem dX11_feed_45 : decode cX11_feed 45 = .ok (.aload_n 0, 1) := by decide +kernel
theorem dX11_feed_46 : decode cX11_feed 46 = .ok (.getfield 10, 3) := by decide +kernel
theorem dX11_feed_49 : decode cX11_feed 49 = .ok (.iload 5, 2) := by decide +kernel
theorem dX11_feed_51 : decode cX11_feed 51 = .ok (.invokevirtual 102, 3) := by decide +kernel
theorem dX11_feed_54 : decode cX11_feed 54 = .ok (.aload_n 0, 1) := by decide +kernel
theorem dX11_feed_55 : decode cX11_feed 55 = .ok (.getfield 10, 3) := by decide +kernel
theorem dX11_feed_58 : decode cX11_feed 58 = .ok (.getfield 106, 3) := by decide +kernel
theorem dX11_feed_61 : decode cX11_feed 61 = .ok (.ireturn, 1) := by decide +kernel
theorem dX11_group_0 : decode cX11_group 0 = .ok (.aload_n 0, 1) := by decide +kernel
theorem dX11_group_1 : decode cX11_group 1 = .ok (.iload_n 1, 1) := by decide +kernel
theorem dX11_group_2 : decode cX11_group 2 = .ok (.sipush 600, 3) := by decide +kernel
theorem dX11_group_5 : decode cX11_group 5 = .ok (.invokevirtual 110, 3) := by decide +kernel
theorem dX11_group_8 : decode cX11_group 8 = .ok (.aload_n 0, 1) := by decide +kernel
theorem dX11_group_9 : decode cX11_group 9 = .ok (.getfield 10, 3) := by decide +kernel
theorem dX11_group_12 : decode cX11_group 12 = .ok (.iload_n 1, 1) := by decide +kernel
theorem dX11_group_13 : decode cX11_group 13 = .ok (.invokevirtual 113, 3) := by decide +kernel
theorem dX11_group_16 : decode cX11_group 16 = .ok (.aload_n 0, 1) := by decide +kernel
theorem dX11_group_17 : decode cX11_group 17 = .ok (.getfield 19, 3) := by decide +kernel
theorem dX11_group_20 : decode cX11_group 20 = .ok (.aload_n 0, 1) := by decide +kernel
theorem dX11_group_21 : decode cX11_group 21 = .ok (.getfield 10, 3) := by decide +kernel
theorem dX11_group_24 : decode cX11_group 24 = .ok (.invokevirtual 116, 3) := by decide +kernel
theorem dX11_group_27 : decode cX11_group 27 = .ok (.ifCond .ne 14, 3) := by decide +kernel
theorem dX11_group_30 : decode cX11_group 30 = .ok (.aload_n 0, 1) := by decide +kernel
theorem dX11_group_31 : decode cX11_group 31 = .ok (.getfield 10, 3) := by decide +kernel
theorem dX11_group_34 : decode cX11_group 34 = .ok (.getfield 120, 3) := by decide +kernel
theorem dX11_group_37 : decode cX11_group 37 = .ok (.bipush 10, 2) := by decide +kernel
theorem dX11_group_39 : decode cX11_group 39 = .ok (.isub, 1) := by decide +kernel
theorem dX11_group_40 : decode cX11_group 40 = .ok (.ireturn, 1) := by decide +kernel
theorem dX11_group_41 : decode cX11_group 41 = .ok (.aload_n 0, 1) := by decide +kernel
theorem dX11_group_42 : decode cX11_group 42 = .ok (.getfield 26, 3) := by decide +kernel
theorem dX11_group_45 : decode cX11_group 45 = .ok (.invokevirtual 123, 3) := by decide +kernel
theorem dX11_group_48 : decode cX11_group 48 = .ok (.aload_n 0, 1) := by decide +kernel
theorem dX11_group_49 : decode cX11_group 49 = .ok (.getfield 40, 3) := by decide +kernel
theorem dX11_group_52 : decode cX11_group 52 = .ok (.invokevirtual 126, 3) := by decide +kernel
theorem dX11_group_55 : decode cX11_group 55 = .ok (.aload_n 0, 1) := by decide +kernel
theorem dX11_group_56 : decode cX11_group 56 = .ok (.getfield 66, 3) := by decide +kernel
theorem dX11_group_59 : decode cX11_group 59 = .ok (.invokevirtual 127, 3) := by decide +kernel
theorem dX11_group_62 : decode cX11_group 62 = .ok (.aload_n 0, 1) := by decide +kernel
theorem dX11_group_63 : decode cX11_group 63 = .ok (.iconst 0, 1) := by decide +kernel
theorem dX11_group_64 : decode cX11_group 64 = .ok (.putfield 128, 3) := by decide +kernel
theorem dX11_group_67 : decode cX11_group 67 = .ok (.aload_n 0, 1) := by decide +kernel
theorem dX11_group_68 : decode cX11_group 68 = .ok (.iconst 0, 1) := by decide +kernel
theorem dX11_group_69 : decode cX11_group 69 = .ok (.putfield 131, 3) := by decide +kernel
theorem dX11_group_72 : decode cX11_group 72 = .ok (.aload_n 0, 1) := by decide +kernel
theorem dX11_group_73 : decode cX11_group 73 = .ok (.getfield 56, 3) := by decide +kernel
theorem dX11_group_76 : decode cX11_group 76 = .ok (.aload_n 0, 1) := by decide +kernel
theorem dX11_group_77 : decode cX11_group 77 = .ok (.getfield 19, 3) := by decide +kernel
theorem dX11_group_80 : decode cX11_group 80 = .ok (.getfield 134, 3) := by decide +kernel
theorem dX11_group_83 : decode cX11_group 83 = .ok (.aload_n 0, 1) := by decide +kernel
theorem dX11_group_84 : decode cX11_group 84 = .ok (.getfield 19, 3) := by decide +kernel
theorem dX11_group_87 : decode cX11_group 87 = .ok (.getfield 137, 3) := by decide +kernel
theorem dX11_group_90 : decode cX11_group 90 = .ok (.invokevirtual 94, 3) := by decide +kernel
theorem dX11_group_93 : decode cX11_group 93 = .ok (.aload_n 0, 1) := by decide +kernel
theorem dX11_group_94 : decode cX11_group 94 = .ok (.getfield 19, 3) := by decide +kernel
theorem dX11_group_97 : decode cX11_group 97 = .ok (.getfield 134, 3) := by decide +kernel
theorem dX11_group_100 : decode cX11_group 100 = .ok (.ireturn, 1) := by decide +kernel
theorem dX11_law_0 : decode cX11_law 0 = .ok (.aload_n 0, 1) := by decide +kernel
theorem dX11_law_1 : decode cX11_law 1 = .ok (.iload_n 1, 1) := by decide +kernel
theorem dX11_law_2 : decode cX11_law 2 = .ok (.sipush 150, 3) := by decide +kernel
theorem dX11_law_5 : decode cX11_law 5 = .ok (.invokevirtual 110, 3) := by decide +kernel
theorem dX11_law_8 : decode cX11_law 8 = .ok (.aload_n 0, 1) := by decide +kernel
theorem dX11_law_9 : decode cX11_law 9 = .ok (.getfield 10, 3) := by decide +kernel
theorem dX11_law_12 : decode cX11_law 12 = .ok (.iload_n 1, 1) := by decide +kernel
theorem dX11_law_13 : decode cX11_law 13 = .ok (.invokevirtual 113, 3) := by decide +kernel
theorem dX11_law_16 : decode cX11_law 16 = .ok (.aload_n 0, 1) := by decide +kernel
theorem dX11_law_17 : decode cX11_law 17 = .ok (.getfield 26, 3) := by decide +kernel
theorem dX11_law_20 : decode cX11_law 20 = .ok (.aload_n 0, 1) := by decide +kernel
theorem dX11_law_21 : decode cX11_law 21 = .ok (.getfield 10, 3) := by decide +kernel
theorem dX11_law_24 : decode cX11_law 24 = .ok (.invokevirtual 140, 3) := by decide +kernel
theorem dX11_law_27 : decode cX11_law 27 = .ok (.ifCond .eq 7, 3) := by decide +kernel
theorem dX11_law_30 : decode cX11_law 30 = .ok (.iconst 1, 1) := by decide +kernel
theorem dX11_law_31 : decode cX11_law 31 = .ok (.goto 13, 3) := by decide +kernel
theorem dX11_law_34 : decode cX11_law 34 = .ok (.aload_n 0, 1) := by decide +kernel
theorem dX11_law_35 : decode cX11_law 35 = .ok (.getfield 10, 3) := by decide +kernel
theorem dX11_law_38 : decode cX11_law 38 = .ok (.getfield 120, 3) := by decide +kernel
theorem dX11_law_41 : decode cX11_law 41 = .ok (.bipush 10, 2) := by decide +kernel
theorem dX11_law_43 : decode cX11_law 43 = .ok (.isub, 1) := by decide +kernel
theorem dX11_law_44 : decode cX11_law 44 = .ok (.ireturn, 1) := by decide +kernel
theorem dX11_work_0 : decode cX11_work 0 = .ok (.aload_n 0, 1) := by decide +kernel
theorem dX11_work_1 : decode cX11_work 1 = .ok (.iload_n 1, 1) := by decide +kernel
theorem dX11_work_2 : decode cX11_work 2 = .ok (.sipush 150, 3) := by decide +kernel
theorem dX11_work_5 : decode cX11_work 5 = .ok (.invokevirtual 110, 3) := by decide +kernel
theorem dX11_work_8 : decode cX11_work 8 = .ok (.aload_n 0, 1) := by decide +kernel
theorem dX11_work_9 : decode cX11_work 9 = .ok (.getfield 66, 3) := by decide +kernel
theorem dX11_work_12 : decode cX11_work 12 = .ok (.invokevirtual 141, 3) := by decide +kernel
theorem dX11_work_15 : decode cX11_work 15 = .ok (.ifCond .eq 14, 3) := by decide +kernel
theorem dX11_work_18 : decode cX11_work 18 = .ok (.aload_n 0, 1) := by decide +kernel
theorem dX11_work_19 : decode cX11_work 19 = .ok (.getfield 10, 3) := by decide +kernel
theorem dX11_work_22 : decode cX11_work 22 = .ok (.iconst 0, 1) := by decide +kernel
theorem dX11_work_23 : decode cX11_work 23 = .ok (.invokevirtual 113, 3) := by decide +kernel
theorem dX11_work_26 : decode cX11_work 26 = .ok (.bipush (-20), 2) := by decide +kernel
theorem dX11_work_28 : decode cX11_work 28 = .ok (.ireturn, 1) := by decide +kernel
theorem dX11_work_29 : decode cX11_work 29 = .ok (.aload_n 0, 1) := by decide +kernel
theorem dX11_work_30 : decode cX11_work 30 = .ok (.getfield 10, 3) := by decide +kernel
theorem dX11_work_33 : decode cX11_work 33 = .ok (.iload_n 1, 1) := by decide +kernel
theorem dX11_work_34 : decode cX11_work 34 = .ok (.invokevirtual 113, 3) := by decide +kernel
theorem dX11_work_37 : decode cX11_work 37 = .ok (.aload_n 0, 1) := by decide +kernel
theorem dX11_work_38 : decode cX11_work 38 = .ok (.getfield 33, 3) := by decide +kernel
theorem dX11_work_41 : decode cX11_work 41 = .ok (.aload_n 0, 1) := by decide +kernel
theorem dX11_work_42 : decode cX11_work 42 = .ok (.getfield 10, 3) := by decide +kernel
theorem dX11_work_45 : decode cX11_work 45 = .ok (.aload_n 0, 1) := by decide +kernel
theorem dX11_work_46 : decode cX11_work 46 = .ok (.getfield 19, 3) := by decide +kernel
theorem dX11_work_49 : decode cX11_work 49 = .ok (.getfield 134, 3) := by decide +kernel
theorem dX11_work_52 : decode cX11_work 52 = .ok (.invokevirtual 144, 3) := by decide +kernel
theorem dX11_work_55 : decode cX11_work 55 = .ok (.ifCond .ne 14, 3) := by decide +kernel
theorem dX11_work_58 : decode cX11_work 58 = .ok (.aload_n 0, 1) := by decide +kernel
theorem dX11_work_59 : decode cX11_work 59 = .ok (.getfield 10, 3) := by decide +kernel
theorem dX11_work_62 : decode cX11_work 62 = .ok (.getfield 120, 3) := by decide +kernel
theorem dX11_work_65 : decode cX11_work 65 = .ok (.bipush 10, 2) := by decide +kernel
theorem dX11_work_67 : decode cX11_work 67 = .ok (.isub, 1) := by decide +kernel
theorem dX11_work_68 : decode cX11_work 68 = .ok (.ireturn, 1) := by decide +kernel
theorem dX11_work_69 : decode cX11_work 69 = .ok (.aload_n 0, 1) := by decide +kernel
theorem dX11_work_70 : decode cX11_work 70 = .ok (.getfield 66, 3) := by decide +kernel
theorem dX11_work_73 : decode cX11_work 73 = .ok (.aload_n 0, 1) := by decide +kernel
theorem dX11_work_74 : decode cX11_work 74 = .ok (.getfield 56, 3) := by decide +kernel
theorem dX11_work_77 : decode cX11_work 77 = .ok (.invokevirtual 147, 3) := by decide +kernel
theorem dX11_work_80 : decode cX11_work 80 = .ok (.aload_n 0, 1) := by decide +kernel
theorem dX11_work_81 : decode cX11_work 81 = .ok (.getfield 33, 3) := by decide +kernel
theorem dX11_work_84 : decode cX11_work 84 = .ok (.invokevirtual 151, 3) := by decide +kernel
theorem dX11_work_87 : decode cX11_work 87 = .ok (.aload_n 0, 1) := by decide +kernel
theorem dX11_work_88 : decode cX11_work 88 = .ok (.getfield 33, 3) := by decide +kernel
theorem dX11_work_91 : decode cX11_work 91 = .ok (.aload_n 0, 1) := by decide +kernel
theorem dX11_work_92 : decode cX11_work 92 = .ok (.getfield 56, 3) := by decide +kernel
theorem dX11_work_95 : decode cX11_work 95 = .ok (.aload_n 0, 1) := by decide +kernel
theorem dX11_work_96 : decode cX11_work 96 = .ok (.getfield 49, 3) := by decide +kernel
theorem dX11_work_99 : decode cX11_work 99 = .ok (.iconst 0, 1) := by decide +kernel
theorem dX11_work_100 : decode cX11_work 100 = .ok (.aload_n 0, 1) := by decide +kernel
theorem dX11_work_101 : decode cX11_work 101 = .ok (.getfield 33, 3) := by decide +kernel
theorem dX11_work_104 : decode cX11_work 104 = .ok (.getfield 153, 3) := by decide +kernel
theorem dX11_work_107 : decode cX11_work 107 = .ok (.iconst 0, 1) := by decide +kernel
theorem dX11_work_108 : decode cX11_work 108 = .ok (.invokevirtual 156, 3) := by decide +kernel
theorem dX11_work_111 : decode cX11_work 111 = .ok (.aload_n 0, 1) := by decide +kernel
theorem dX11_work_112 : decode cX11_work 112 = .ok (.aload_n 0, 1) := by decide +kernel
theorem dX11_work_113 : decode cX11_work 113 = .ok (.getfield 33, 3) := by decide +kernel
theorem dX11_work_116 : decode cX11_work 116 = .ok (.getfield 160, 3) := by decide +kernel
theorem dX11_work_119 : decode cX11_work 119 = .ok (.putfield 131, 3) := by decide +kernel
theorem dX11_work_122 : decode cX11_work 122 = .ok (.aload_n 0, 1) := by decide +kernel
theorem dX11_work_123 : decode cX11_work 123 = .ok (.getfield 33, 3) := by decide +kernel
theorem dX11_work_126 : decode cX11_work 126 = .ok (.getfield 163, 3) := by decide +kernel
theorem dX11_work_129 : decode cX11_work 129 = .ok (.ireturn, 1) := by decide +kernel
theorem dX11_book_0 : decode cX11_book 0 = .ok (.aload_n 0, 1) := by decide +kernel
theorem dX11_book_1 : decode cX11_book 1 = .ok (.iload_n 1, 1) := by decide +kernel
theorem dX11_book_2 : decode cX11_book 2 = .ok (.bipush 60, 2) := by decide +kernel
theorem dX11_book_4 : decode cX11_book 4 = .ok (.invokevirtual 110, 3) := by decide +kernel
theorem dX11_book_7 : decode cX11_book 7 = .ok (.aload_n 0, 1) := by decide +kernel
theorem dX11_book_8 : decode cX11_book 8 = .ok (.getfield 10, 3) := by decide +kernel
theorem dX11_book_11 : decode cX11_book 11 = .ok (.iload_n 1, 1) := by decide +kernel
theorem dX11_book_12 : decode cX11_book 12 = .ok (.invokevirtual 113, 3) := by decide +kernel
theorem dX11_book_15 : decode cX11_book 15 = .ok (.aload_n 0, 1) := by decide +kernel
theorem dX11_book_16 : decode cX11_book 16 = .ok (.getfield 40, 3) := by decide +kernel
theorem dX11_book_19 : decode cX11_book 19 = .ok (.aload_n 0, 1) := by decide +kernel
theorem dX11_book_20 : decode cX11_book 20 = .ok (.getfield 10, 3) := by decide +kernel
theorem dX11_book_23 : decode cX11_book 23 = .ok (.aload_n 0, 1) := by decide +kernel
theorem dX11_book_24 : decode cX11_book 24 = .ok (.getfield 19, 3) := by decide +kernel
theorem dX11_book_27 : decode cX11_book 27 = .ok (.getfield 134, 3) := by decide +kernel
theorem dX11_book_30 : decode cX11_book 30 = .ok (.invokevirtual 166, 3) := by decide +kernel
theorem dX11_book_33 : decode cX11_book 33 = .ok (.ifCond .eq 13, 3) := by decide +kernel
theorem dX11_book_36 : decode cX11_book 36 = .ok (.aload_n 0, 1) := by decide +kernel
theorem dX11_book_37 : decode cX11_book 37 = .ok (.getfield 40, 3) := by decide +kernel
theorem dX11_book_40 : decode cX11_book 40 = .ok (.getfield 167, 3) := by decide +kernel
theorem dX11_book_43 : decode cX11_book 43 = .ok (.goto 13, 3) := by decide +kernel
theorem dX11_book_46 : decode cX11_book 46 = .ok (.aload_n 0, 1) := by decide +kernel
theorem dX11_book_47 : decode cX11_book 47 = .ok (.getfield 10, 3) := by decide +kernel
theorem dX11_book_50 : decode cX11_book 50 = .ok (.getfield 120, 3) := by decide +kernel
theorem dX11_book_53 : decode cX11_book 53 = .ok (.bipush 10, 2) := by decide +kernel
theorem dX11_book_55 : decode cX11_book 55 = .ok (.isub, 1) := by decide +kernel
theorem dX11_book_56 : decode cX11_book 56 = .ok (.ireturn, 1) := by decide +kernel
theorem dX11_fault_0 : decode cX11_fault 0 = .ok (.aload_n 0, 1) := by decide +kernel
theorem dX11_fault_1 : decode cX11_fault 1 = .ok (.getfield 10, 3) := by decide +kernel
theorem dX11_fault_4 : decode cX11_fault 4 = .ok (.getfield 168, 3) := by decide +kernel
theorem dX11_fault_7 : decode cX11_fault 7 = .ok (.ireturn, 1) := by decide +kernel
theorem dX11_undo_0 : decode cX11_undo 0 = .ok (.aload_n 0, 1) := by decide +kernel
theorem dX11_undo_1 : decode cX11_undo 1 = .ok (.getfield 66, 3) := by decide +kernel
theorem dX11_undo_4 : decode cX11_undo 4 = .ok (.aload_n 0, 1) := by decide +kernel
theorem dX11_undo_5 : decode cX11_undo 5 = .ok (.getfield 56, 3) := by decide +kernel
theorem dX11_undo_8 : decode cX11_undo 8 = .ok (.invokevirtual 171, 3) := by decide +kernel
theorem dX11_undo_11 : decode cX11_undo 11 = .ok (.ifCond .ne 5, 3) := by decide +kernel
theorem dX11_undo_14 : decode cX11_undo 14 = .ok (.iconst (-1), 1) := by decide +kernel
theorem dX11_undo_15 : decode cX11_undo 15 = .ok (.ireturn, 1) := by decide +kernel
theorem dX11_undo_16 : decode cX11_undo 16 = .ok (.aload_n 0, 1) := by decide +kernel
theorem dX11_undo_17 : decode cX11_undo 17 = .ok (.iconst 0, 1) := by decide +kernel
theorem dX11_undo_18 : decode cX11_undo 18 = .ok (.putfield 131, 3) := by decide +kernel
theorem dX11_undo_21 : decode cX11_undo 21 = .ok (.aload_n 0, 1) := by decide +kernel
theorem dX11_undo_22 : decode cX11_undo 22 = .ok (.getfield 66, 3) := by decide +kernel
theorem dX11_undo_25 : decode cX11_undo 25 = .ok (.getfield 175, 3) := by decide +kernel
theorem dX11_undo_28 : decode cX11_undo 28 = .ok (.ireturn, 1) := by decide +kernel
theorem dX11_told_0 : decode cX11_told 0 = .ok (.aload_n 0, 1) := by decide +kernel
theorem dX11_told_1 : decode cX11_told 1 = .ok (.iload_n 1, 1) := by decide +kernel
theorem dX11_told_2 : decode cX11_told 2 = .ok (.iconst 0, 1) := by decide +kernel
theorem dX11_told_3 : decode cX11_told 3 = .ok (.bipush 11, 2) := by decide +kernel
theorem dX11_told_5 : decode cX11_told 5 = .ok (.invokestatic 178, 3) := by decide +kernel
theorem dX11_told_8 : decode cX11_told 8 = .ok (.invokevirtual 182, 3) := by decide +kernel
theorem dX11_told_11 : decode cX11_told 11 = .ok (.iload_n 1, 1) := by decide +kernel
theorem dX11_told_12 : decode cX11_told 12 = .ok (.tableswitch 145 0 10 #[60, 68, 76, 84, 92, 100, 108, 116, 124, 132, 140], 60) := by decide +kernel
theorem dX11_told_72 : decode cX11_told 72 = .ok (.aload_n 0, 1) := by decide +kernel
theorem dX11_told_73 : decode cX11_told 73 = .ok (.getfield 19, 3) := by decide +kernel
theorem dX11_told_76 : decode cX11_told 76 = .ok (.getfield 134, 3) := by decide +kernel
theorem dX11_told_79 : decode cX11_told 79 = .ok (.ireturn, 1) := by decide +kernel
theorem dX11_told_80 : decode cX11_told 80 = .ok (.aload_n 0, 1) := by decide +kernel
theorem dX11_told_81 : decode cX11_told 81 = .ok (.getfield 56, 3) := by decide +kernel
theorem dX11_told_84 : decode cX11_told 84 = .ok (.getfield 186, 3) := by decide +kernel
theorem dX11_told_87 : decode cX11_told 87 = .ok (.ireturn, 1) := by decide +kernel
theorem dX11_told_88 : decode cX11_told 88 = .ok (.aload_n 0, 1) := by decide +kernel
theorem dX11_told_89 : decode cX11_told 89 = .ok (.getfield 56, 3) := by decide +kernel
theorem dX11_told_92 : decode cX11_told 92 = .ok (.getfield 189, 3) := by decide +kernel
theorem dX11_told_95 : decode cX11_told 95 = .ok (.ireturn, 1) := by decide +kernel
theorem dX11_told_96 : decode cX11_told 96 = .ok (.aload_n 0, 1) := by decide +kernel
theorem dX11_told_97 : decode cX11_told 97 = .ok (.getfield 56, 3) := by decide +kernel
theorem dX11_told_100 : decode cX11_told 100 = .ok (.getfield 192, 3) := by decide +kernel
theorem dX11_told_103 : decode cX11_told 103 = .ok (.ireturn, 1) := by decide +kernel
theorem dX11_told_104 : decode cX11_told 104 = .ok (.aload_n 0, 1) := by decide +kernel
theorem dX11_told_105 : decode cX11_told 105 = .ok (.getfield 56, 3) := by decide +kernel
theorem dX11_told_108 : decode cX11_told 108 = .ok (.getfield 195, 3) := by decide +kernel
theorem dX11_told_111 : decode cX11_told 111 = .ok (.ireturn, 1) := by decide +kernel
theorem dX11_told_112 : decode cX11_told 112 = .ok (.aload_n 0, 1) := by decide +kernel
theorem dX11_told_113 : decode cX11_told 113 = .ok (.getfield 56, 3) := by decide +kernel
theorem dX11_told_116 : decode cX11_told 116 = .ok (.getfield 198, 3) := by decide +kernel
theorem dX11_told_119 : decode cX11_told 119 = .ok (.ireturn, 1) := by decide +kernel
theorem dX11_told_120 : decode cX11_told 120 = .ok (.aload_n 0, 1) := by decide +kernel
theorem dX11_told_121 : decode cX11_told 121 = .ok (.getfield 56, 3) := by decide +kernel
theorem dX11_told_124 : decode cX11_told 124 = .ok (.getfield 201, 3) := by decide +kernel
theorem dX11_told_127 : decode cX11_told 127 = .ok (.ireturn, 1) := by decide +kernel
theorem dX11_told_128 : decode cX11_told 128 = .ok (.aload_n 0, 1) := by decide +kernel
theorem dX11_told_129 : decode cX11_told 129 = .ok (.getfield 56, 3) := by decide +kernel
theorem dX11_told_132 : decode cX11_told 132 = .ok (.getfield 204, 3) := by decide +kernel
theorem dX11_told_135 : decode cX11_told 135 = .ok (.ireturn, 1) := by decide +kernel
theorem dX11_told_136 : decode cX11_told 136 = .ok (.aload_n 0, 1) := by decide +kernel
theorem dX11_told_137 : decode cX11_told 137 = .ok (.getfield 56, 3) := by decide +kernel
theorem dX11_told_140 : decode cX11_told 140 = .ok (.invokevirtual 207, 3) := by decide +kernel
theorem dX11_told_143 : decode cX11_told 143 = .ok (.ireturn, 1) := by decide +kernel
theorem dX11_told_144 : decode cX11_told 144 = .ok (.aload_n 0, 1) := by decide +kernel
theorem dX11_told_145 : decode cX11_told 145 = .ok (.getfield 40, 3) := by decide +kernel
theorem dX11_told_148 : decode cX11_told 148 = .ok (.getfield 167, 3) := by decide +kernel
theorem dX11_told_151 : decode cX11_told 151 = .ok (.ireturn, 1) := by decide +kernel
theorem dX11_told_152 : decode cX11_told 152 = .ok (.aload_n 0, 1) := by decide +kernel
theorem dX11_told_153 : decode cX11_told 153 = .ok (.getfield 131, 3) := by decide +kernel
theorem dX11_told_156 : decode cX11_told 156 = .ok (.ireturn, 1) := by decide +kernel
theorem dX11_told_157 : decode cX11_told 157 = .ok (.aload_n 0, 1) := by decide +kernel
theorem dX11_told_158 : decode cX11_told 158 = .ok (.getfield 19, 3) := by decide +kernel
theorem dX11_told_161 : decode cX11_told 161 = .ok (.getfield 211, 3) := by decide +kernel
theorem dX11_told_164 : decode cX11_told 164 = .ok (.ireturn, 1) := by decide +kernel
theorem dX11_member_0 : decode cX11_member 0 = .ok (.aload_n 0, 1) := by decide +kernel
theorem dX11_member_1 : decode cX11_member 1 = .ok (.iload_n 1, 1) := by decide +kernel
theorem dX11_member_2 : decode cX11_member 2 = .ok (.invokevirtual 214, 3) := by decide +kernel
theorem dX11_member_5 : decode cX11_member 5 = .ok (.aload_n 0, 1) := by decide +kernel
theorem dX11_member_6 : decode cX11_member 6 = .ok (.iload_n 2, 1) := by decide +kernel
theorem dX11_member_7 : decode cX11_member 7 = .ok (.iconst 0, 1) := by decide +kernel
theorem dX11_member_8 : decode cX11_member 8 = .ok (.bipush 6, 2) := by decide +kernel
theorem dX11_member_10 : decode cX11_member 10 = .ok (.invokestatic 178, 3) := by decide +kernel
theorem dX11_member_13 : decode cX11_member 13 = .ok (.invokevirtual 182, 3) := by decide +kernel
theorem dX11_member_16 : decode cX11_member 16 = .ok (.iload_n 2, 1) := by decide +kernel
theorem dX11_member_17 : decode cX11_member 17 = .ok (.tableswitch 137 0 5 #[39, 56, 66, 79, 92, 102], 39) := by decide +kernel
theorem dX11_member_56 : decode cX11_member 56 = .ok (.aload_n 0, 1) := by decide +kernel
theorem dX11_member_57 : decode cX11_member 57 = .ok (.getfield 56, 3) := by decide +kernel
theorem dX11_member_60 : decode cX11_member 60 = .ok (.iload_n 1, 1) := by decide +kernel
theorem dX11_member_61 : decode cX11_member 61 = .ok (.invokevirtual 217, 3) := by decide +kernel
theorem dX11_member_64 : decode cX11_member 64 = .ok (.ifCond .eq 7, 3) := by decide +kernel
theorem dX11_member_67 : decode cX11_member 67 = .ok (.iconst 1, 1) := by decide +kernel
theorem dX11_member_68 : decode cX11_member 68 = .ok (.goto 4, 3) := by decide +kernel
theorem dX11_member_71 : decode cX11_member 71 = .ok (.iconst 0, 1) := by decide +kernel
theorem dX11_member_72 : decode cX11_member 72 = .ok (.ireturn, 1) := by decide +kernel
theorem dX11_member_73 : decode cX11_member 73 = .ok (.aload_n 0, 1) := by decide +kernel
theorem dX11_member_74 : decode cX11_member 74 = .ok (.getfield 56, 3) := by decide +kernel
theorem dX11_member_77 : decode cX11_member 77 = .ok (.getfield 221, 3) := by decide +kernel
theorem dX11_member_80 : decode cX11_member 80 = .ok (.iload_n 1, 1) := by decide +kernel
theorem dX11_member_81 : decode cX11_member 81 = .ok (.iaload, 1) := by decide +kernel
theorem dX11_member_82 : decode cX11_member 82 = .ok (.ireturn, 1) := by decide +kernel
theorem dX11_member_83 : decode cX11_member 83 = .ok (.aload_n 0, 1) := by decide +kernel
theorem dX11_member_84 : decode cX11_member 84 = .ok (.getfield 56, 3) := by decide +kernel
theorem dX11_member_87 : decode cX11_member 87 = .ok (.getfield 224, 3) := by decide +kernel
theorem dX11_member_90 : decode cX11_member 90 = .ok (.iload_n 1, 1) := by decide +kernel
theorem dX11_member_91 : decode cX11_member 91 = .ok (.iaload, 1) := by decide +kernel
theorem dX11_member_92 : decode cX11_member 92 = .ok (.invokestatic 227, 3) := by decide +kernel
