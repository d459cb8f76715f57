theorem dX12_law_50 : decode cX12_law 50 = .ok (.aload_n 0, 1) := by decide +kernel
theorem dX12_law_51 : decode cX12_law 51 = .ok (.invokevirtual 194, 3) := by decide +kernel
theorem dX12_law_54 : decode cX12_law 54 = .ok (.aload_n 0, 1) := by decide +kernel
theorem dX12_law_55 : decode cX12_law 55 = .ok (.invokevirtual 92, 3) := by decide +kernel
theorem dX12_law_58 : decode cX12_law 58 = .ok (.aload_n 0, 1) := by decide +kernel
theorem dX12_law_59 : decode cX12_law 59 = .ok (.getfield 86, 3) := by decide +kernel
theorem dX12_law_62 : decode cX12_law 62 = .ok (.ifCond .ne 23, 3) := by decide +kernel
theorem dX12_law_65 : decode cX12_law 65 = .ok (.aload_n 0, 1) := by decide +kernel
theorem dX12_law_66 : decode cX12_law 66 = .ok (.getfield 79, 3) := by decide +kernel
theorem dX12_law_69 : decode cX12_law 69 = .ok (.aload_n 0, 1) := by decide +kernel
theorem dX12_law_70 : decode cX12_law 70 = .ok (.getfield 76, 3) := by decide +kernel
theorem dX12_law_73 : decode cX12_law 73 = .ok (.if_icmp .ge 12, 3) := by decide +kernel
theorem dX12_law_76 : decode cX12_law 76 = .ok (.aload_n 0, 1) := by decide +kernel
theorem dX12_law_77 : decode cX12_law 77 = .ok (.iconst 1, 1) := by decide +kernel
theorem dX12_law_78 : decode cX12_law 78 = .ok (.aload_n 0, 1) := by decide +kernel
theorem dX12_law_79 : decode cX12_law 79 = .ok (.getfield 79, 3) := by decide +kernel
theorem dX12_law_82 : decode cX12_law 82 = .ok (.invokevirtual 99, 3) := by decide +kernel
theorem dX12_law_85 : decode cX12_law 85 = .ok (.aload_n 0, 1) := by decide +kernel
theorem dX12_law_86 : decode cX12_law 86 = .ok (.getfield 86, 3) := by decide +kernel
theorem dX12_law_89 : decode cX12_law 89 = .ok (.ifCond .eq 8, 3) := by decide +kernel
theorem dX12_law_92 : decode cX12_law 92 = .ok (.aload_n 0, 1) := by decide +kernel
theorem dX12_law_93 : decode cX12_law 93 = .ok (.invokevirtual 150, 3) := by decide +kernel
theorem dX12_law_96 : decode cX12_law 96 = .ok (.ireturn, 1) := by decide +kernel
theorem dX12_law_97 : decode cX12_law 97 = .ok (.aload_n 0, 1) := by decide +kernel
theorem dX12_law_98 : decode cX12_law 98 = .ok (.iconst (-1), 1) := by decide +kernel
theorem dX12_law_99 : decode cX12_law 99 = .ok (.putfield 9, 3) := by decide +kernel
theorem dX12_law_102 : decode cX12_law 102 = .ok (.aload_n 0, 1) := by decide +kernel
theorem dX12_law_103 : decode cX12_law 103 = .ok (.aload_n 0, 1) := by decide +kernel
theorem dX12_law_104 : decode cX12_law 104 = .ok (.getfield 172, 3) := by decide +kernel
theorem dX12_law_107 : decode cX12_law 107 = .ok (.putfield 157, 3) := by decide +kernel
theorem dX12_law_110 : decode cX12_law 110 = .ok (.aload_n 0, 1) := by decide +kernel
theorem dX12_law_111 : decode cX12_law 111 = .ok (.getfield 31, 3) := by decide +kernel
theorem dX12_law_114 : decode cX12_law 114 = .ok (.aload_n 0, 1) := by decide +kernel
theorem dX12_law_115 : decode cX12_law 115 = .ok (.getfield 28, 3) := by decide +kernel
theorem dX12_law_118 : decode cX12_law 118 = .ok (.aload_n 0, 1) := by decide +kernel
theorem dX12_law_119 : decode cX12_law 119 = .ok (.getfield 157, 3) := by decide +kernel
theorem dX12_law_122 : decode cX12_law 122 = .ok (.invokestatic 200, 3) := by decide +kernel
theorem dX12_law_125 : decode cX12_law 125 = .ok (.iconst 1, 1) := by decide +kernel
theorem dX12_law_126 : decode cX12_law 126 = .ok (.ireturn, 1) := by decide +kernel
theorem dX12_by_0 : decode cX12_by 0 = .ok (.iload_n 0, 1) := by decide +kernel
theorem dX12_by_1 : decode cX12_by 1 = .ok (.tableswitch 96 2 7 #[39, 43, 47, 51, 73, 90], 39) := by decide +kernel
theorem dX12_by_40 : decode cX12_by 40 = .ok (.iload_n 1, 1) := by decide +kernel
theorem dX12_by_41 : decode cX12_by 41 = .ok (.iload_n 2, 1) := by decide +kernel
theorem dX12_by_42 : decode cX12_by 42 = .ok (.iadd, 1) := by decide +kernel
theorem dX12_by_43 : decode cX12_by 43 = .ok (.ireturn, 1) := by decide +kernel
theorem dX12_by_44 : decode cX12_by 44 = .ok (.iload_n 1, 1) := by decide +kernel
theorem dX12_by_45 : decode cX12_by 45 = .ok (.iload_n 2, 1) := by decide +kernel
theorem dX12_by_46 : decode cX12_by 46 = .ok (.isub, 1) := by decide +kernel
theorem dX12_by_47 : decode cX12_by 47 = .ok (.ireturn, 1) := by decide +kernel
theorem dX12_by_48 : decode cX12_by 48 = .ok (.iload_n 1, 1) := by decide +kernel
theorem dX12_by_49 : decode cX12_by 49 = .ok (.iload_n 2, 1) := by decide +kernel
theorem dX12_by_50 : decode cX12_by 50 = .ok (.imul, 1) := by decide +kernel
theorem dX12_by_51 : decode cX12_by 51 = .ok (.ireturn, 1) := by decide +kernel
theorem dX12_by_52 : decode cX12_by 52 = .ok (.iload_n 2, 1) := by decide +kernel
theorem dX12_by_53 : decode cX12_by 53 = .ok (.ifCond .ne 7, 3) := by decide +kernel
theorem dX12_by_56 : decode cX12_by 56 = .ok (.iconst 0, 1) := by decide +kernel
theorem dX12_by_57 : decode cX12_by 57 = .ok (.goto 16, 3) := by decide +kernel
theorem dX12_by_60 : decode cX12_by 60 = .ok (.iload_n 2, 1) := by decide +kernel
theorem dX12_by_61 : decode cX12_by 61 = .ok (.iconst (-1), 1) := by decide +kernel
theorem dX12_by_62 : decode cX12_by 62 = .ok (.if_icmp .ne 8, 3) := by decide +kernel
theorem dX12_by_65 : decode cX12_by 65 = .ok (.iload_n 1, 1) := by decide +kernel
theorem dX12_by_66 : decode cX12_by 66 = .ok (.ineg, 1) := by decide +kernel
theorem dX12_by_67 : decode cX12_by 67 = .ok (.goto 6, 3) := by decide +kernel
theorem dX12_by_70 : decode cX12_by 70 = .ok (.iload_n 1, 1) := by decide +kernel
theorem dX12_by_71 : decode cX12_by 71 = .ok (.iload_n 2, 1) := by decide +kernel
theorem dX12_by_72 : decode cX12_by 72 = .ok (.idiv, 1) := by decide +kernel
theorem dX12_by_73 : decode cX12_by 73 = .ok (.ireturn, 1) := by decide +kernel
theorem dX12_by_74 : decode cX12_by 74 = .ok (.iload_n 2, 1) := by decide +kernel
theorem dX12_by_75 : decode cX12_by 75 = .ok (.ifCond .eq 8, 3) := by decide +kernel
theorem dX12_by_78 : decode cX12_by 78 = .ok (.iload_n 2, 1) := by decide +kernel
theorem dX12_by_79 : decode cX12_by 79 = .ok (.iconst (-1), 1) := by decide +kernel
theorem dX12_by_80 : decode cX12_by 80 = .ok (.if_icmp .ne 7, 3) := by decide +kernel
theorem dX12_by_83 : decode cX12_by 83 = .ok (.iconst 0, 1) := by decide +kernel
theorem dX12_by_84 : decode cX12_by 84 = .ok (.goto 6, 3) := by decide +kernel
theorem dX12_by_87 : decode cX12_by 87 = .ok (.iload_n 1, 1) := by decide +kernel
theorem dX12_by_88 : decode cX12_by 88 = .ok (.iload_n 2, 1) := by decide +kernel
theorem dX12_by_89 : decode cX12_by 89 = .ok (.irem, 1) := by decide +kernel
theorem dX12_by_90 : decode cX12_by 90 = .ok (.ireturn, 1) := by decide +kernel
theorem dX12_by_91 : decode cX12_by 91 = .ok (.iload_n 1, 1) := by decide +kernel
theorem dX12_by_92 : decode cX12_by 92 = .ok (.iload_n 2, 1) := by decide +kernel
theorem dX12_by_93 : decode cX12_by 93 = .ok (.invokestatic 204, 3) := by decide +kernel
theorem dX12_by_96 : decode cX12_by 96 = .ok (.ireturn, 1) := by decide +kernel
theorem dX12_by_97 : decode cX12_by 97 = .ok (.iload_n 1, 1) := by decide +kernel
theorem dX12_by_98 : decode cX12_by 98 = .ok (.iload_n 2, 1) := by decide +kernel
theorem dX12_by_99 : decode cX12_by 99 = .ok (.invokestatic 207, 3) := by decide +kernel
theorem dX12_by_102 : decode cX12_by 102 = .ok (.ireturn, 1) := by decide +kernel
theorem dX12_byLaw_0 : decode cX12_byLaw 0 = .ok (.iconst 0, 1) := by decide +kernel
theorem dX12_byLaw_1 : decode cX12_byLaw 1 = .ok (.istore_n 1, 1) := by decide +kernel
theorem dX12_byLaw_2 : decode cX12_byLaw 2 = .ok (.aload_n 0, 1) := by decide +kernel
theorem dX12_byLaw_3 : decode cX12_byLaw 3 = .ok (.getfield 40, 3) := by decide +kernel
theorem dX12_byLaw_6 : decode cX12_byLaw 6 = .ok (.iconst 0, 1) := by decide +kernel
theorem dX12_byLaw_7 : decode cX12_byLaw 7 = .ok (.iconst 1, 1) := by decide +kernel
theorem dX12_byLaw_8 : decode cX12_byLaw 8 = .ok (.iastore, 1) := by decide +kernel
theorem dX12_byLaw_9 : decode cX12_byLaw 9 = .ok (.iconst 0, 1) := by decide +kernel
theorem dX12_byLaw_10 : decode cX12_byLaw 10 = .ok (.istore_n 2, 1) := by decide +kernel
theorem dX12_byLaw_11 : decode cX12_byLaw 11 = .ok (.iload_n 2, 1) := by decide +kernel
theorem dX12_byLaw_12 : decode cX12_byLaw 12 = .ok (.aload_n 0, 1) := by decide +kernel
theorem dX12_byLaw_13 : decode cX12_byLaw 13 = .ok (.getfield 157, 3) := by decide +kernel
theorem dX12_byLaw_16 : decode cX12_byLaw 16 = .ok (.if_icmp .ge 104, 3) := by decide +kernel
theorem dX12_byLaw_19 : decode cX12_byLaw 19 = .ok (.aload_n 0, 1) := by decide +kernel
theorem dX12_byLaw_20 : decode cX12_byLaw 20 = .ok (.getfield 28, 3) := by decide +kernel
theorem dX12_byLaw_23 : decode cX12_byLaw 23 = .ok (.iload_n 2, 1) := by decide +kernel
theorem dX12_byLaw_24 : decode cX12_byLaw 24 = .ok (.aaload, 1) := by decide +kernel
theorem dX12_byLaw_25 : decode cX12_byLaw 25 = .ok (.iconst 0, 1) := by decide +kernel
theorem dX12_byLaw_26 : decode cX12_byLaw 26 = .ok (.iaload, 1) := by decide +kernel
theorem dX12_byLaw_27 : decode cX12_byLaw 27 = .ok (.iconst 2, 1) := by decide +kernel
theorem dX12_byLaw_28 : decode cX12_byLaw 28 = .ok (.if_icmp .ge 50, 3) := by decide +kernel
theorem dX12_byLaw_31 : decode cX12_byLaw 31 = .ok (.aload_n 0, 1) := by decide +kernel
theorem dX12_byLaw_32 : decode cX12_byLaw 32 = .ok (.getfield 40, 3) := by decide +kernel
theorem dX12_byLaw_35 : decode cX12_byLaw 35 = .ok (.iload_n 1, 1) := by decide +kernel
theorem dX12_byLaw_36 : decode cX12_byLaw 36 = .ok (.aload_n 0, 1) := by decide +kernel
theorem dX12_byLaw_37 : decode cX12_byLaw 37 = .ok (.getfield 28, 3) := by decide +kernel
theorem dX12_byLaw_40 : decode cX12_byLaw 40 = .ok (.iload_n 2, 1) := by decide +kernel
theorem dX12_byLaw_41 : decode cX12_byLaw 41 = .ok (.aaload, 1) := by decide +kernel
theorem dX12_byLaw_42 : decode cX12_byLaw 42 = .ok (.iconst 0, 1) := by decide +kernel
theorem dX12_byLaw_43 : decode cX12_byLaw 43 = .ok (.iaload, 1) := by decide +kernel
theorem dX12_byLaw_44 : decode cX12_byLaw 44 = .ok (.ifCond .ne 14, 3) := by decide +kernel
theorem dX12_byLaw_47 : decode cX12_byLaw 47 = .ok (.aload_n 0, 1) := by decide +kernel
theorem dX12_byLaw_48 : decode cX12_byLaw 48 = .ok (.getfield 28, 3) := by decide +kernel
theorem dX12_byLaw_51 : decode cX12_byLaw 51 = .ok (.iload_n 2, 1) := by decide +kernel
theorem dX12_byLaw_52 : decode cX12_byLaw 52 = .ok (.aaload, 1) := by decide +kernel
theorem dX12_byLaw_53 : decode cX12_byLaw 53 = .ok (.iconst 1, 1) := by decide +kernel
theorem dX12_byLaw_54 : decode cX12_byLaw 54 = .ok (.iaload, 1) := by decide +kernel
theorem dX12_byLaw_55 : decode cX12_byLaw 55 = .ok (.goto 16, 3) := by decide +kernel
theorem dX12_byLaw_58 : decode cX12_byLaw 58 = .ok (.aload_n 0, 1) := by decide +kernel
theorem dX12_byLaw_59 : decode cX12_byLaw 59 = .ok (.getfield 43, 3) := by decide +kernel
theorem dX12_byLaw_62 : decode cX12_byLaw 62 = .ok (.aload_n 0, 1) := by decide +kernel
theorem dX12_byLaw_63 : decode cX12_byLaw 63 = .ok (.getfield 28, 3) := by decide +kernel
theorem dX12_byLaw_66 : decode cX12_byLaw 66 = .ok (.iload_n 2, 1) := by decide +kernel
theorem dX12_byLaw_67 : decode cX12_byLaw 67 = .ok (.aaload, 1) := by decide +kernel
theorem dX12_byLaw_68 : decode cX12_byLaw 68 = .ok (.iconst 1, 1) := by decide +kernel
theorem dX12_byLaw_69 : decode cX12_byLaw 69 = .ok (.iaload, 1) := by decide +kernel
theorem dX12_byLaw_70 : decode cX12_byLaw 70 = .ok (.iaload, 1) := by decide +kernel
theorem dX12_byLaw_71 : decode cX12_byLaw 71 = .ok (.iastore, 1) := by decide +kernel
theorem dX12_byLaw_72 : decode cX12_byLaw 72 = .ok (.iinc 1 1, 3) := by decide +kernel
theorem dX12_byLaw_75 : decode cX12_byLaw 75 = .ok (.goto 39, 3) := by decide +kernel
theorem dX12_byLaw_78 : decode cX12_byLaw 78 = .ok (.iinc 1 (-1), 3) := by decide +kernel
theorem dX12_byLaw_81 : decode cX12_byLaw 81 = .ok (.aload_n 0, 1) := by decide +kernel
theorem dX12_byLaw_82 : decode cX12_byLaw 82 = .ok (.getfield 40, 3) := by decide +kernel
theorem dX12_byLaw_85 : decode cX12_byLaw 85 = .ok (.iload_n 1, 1) := by decide +kernel
theorem dX12_byLaw_86 : decode cX12_byLaw 86 = .ok (.iconst 1, 1) := by decide +kernel
theorem dX12_byLaw_87 : decode cX12_byLaw 87 = .ok (.isub, 1) := by decide +kernel
theorem dX12_byLaw_88 : decode cX12_byLaw 88 = .ok (.aload_n 0, 1) := by decide +kernel
theorem dX12_byLaw_89 : decode cX12_byLaw 89 = .ok (.getfield 28, 3) := by decide +kernel
theorem dX12_byLaw_92 : decode cX12_byLaw 92 = .ok (.iload_n 2, 1) := by decide +kernel
theorem dX12_byLaw_93 : decode cX12_byLaw 93 = .ok (.aaload, 1) := by decide +kernel
theorem dX12_byLaw_94 : decode cX12_byLaw 94 = .ok (.iconst 0, 1) := by decide +kernel
theorem dX12_byLaw_95 : decode cX12_byLaw 95 = .ok (.iaload, 1) := by decide +kernel
theorem dX12_byLaw_96 : decode cX12_byLaw 96 = .ok (.aload_n 0, 1) := by decide +kernel
theorem dX12_byLaw_97 : decode cX12_byLaw 97 = .ok (.getfield 40, 3) := by decide +kernel
theorem dX12_byLaw_100 : decode cX12_byLaw 100 = .ok (.iload_n 1, 1) := by decide +kernel
theorem dX12_byLaw_101 : decode cX12_byLaw 101 = .ok (.iconst 1, 1) := by decide +kernel
theorem dX12_byLaw_102 : decode cX12_byLaw 102 = .ok (.isub, 1) := by decide +kernel
theorem dX12_byLaw_103 : decode cX12_byLaw 103 = .ok (.iaload, 1) := by decide +kernel
theorem dX12_byLaw_104 : decode cX12_byLaw 104 = .ok (.aload_n 0, 1) := by decide +kernel
theorem dX12_byLaw_105 : decode cX12_byLaw 105 = .ok (.getfield 40, 3) := by decide +kernel
theorem dX12_byLaw_108 : decode cX12_byLaw 108 = .ok (.iload_n 1, 1) := by decide +kernel
theorem dX12_byLaw_109 : decode cX12_byLaw 109 = .ok (.iaload, 1) := by decide +kernel
theorem dX12_byLaw_110 : decode cX12_byLaw 110 = .ok (.invokestatic 210, 3) := by decide +kernel
theorem dX12_byLaw_113 : decode cX12_byLaw 113 = .ok (.iastore, 1) := by decide +kernel
theorem dX12_byLaw_114 : decode cX12_byLaw 114 = .ok (.iinc 2 1, 3) := by decide +kernel
theorem dX12_byLaw_117 : decode cX12_byLaw 117 = .ok (.goto (-106), 3) := by decide +kernel
theorem dX12_byLaw_120 : decode cX12_byLaw 120 = .ok (.bipush 99, 2) := by decide +kernel
theorem dX12_byLaw_122 : decode cX12_byLaw 122 = .ok (.iconst 0, 1) := by decide +kernel
theorem dX12_byLaw_123 : decode cX12_byLaw 123 = .ok (.aload_n 0, 1) := by decide +kernel
theorem dX12_byLaw_124 : decode cX12_byLaw 124 = .ok (.getfield 40, 3) := by decide +kernel
theorem dX12_byLaw_127 : decode cX12_byLaw 127 = .ok (.iconst 0, 1) := by decide +kernel
theorem dX12_byLaw_128 : decode cX12_byLaw 128 = .ok (.iaload, 1) := by decide +kernel
theorem dX12_byLaw_129 : decode cX12_byLaw 129 = .ok (.invokestatic 207, 3) := by decide +kernel
theorem dX12_byLaw_132 : decode cX12_byLaw 132 = .ok (.invokestatic 204, 3) := by decide +kernel
theorem dX12_byLaw_135 : decode cX12_byLaw 135 = .ok (.ireturn, 1) := by decide +kernel
theorem dX12_stepHere_0 : decode cX12_stepHere 0 = .ok (.aload_n 0, 1) := by decide +kernel
theorem dX12_stepHere_1 : decode cX12_stepHere 1 = .ok (.bipush 19, 2) := by decide +kernel
theorem dX12_stepHere_3 : decode cX12_stepHere 3 = .ok (.iconst 5, 1) := by decide +kernel
theorem dX12_stepHere_4 : decode cX12_stepHere 4 = .ok (.bipush 14, 2) := by decide +kernel
theorem dX12_stepHere_6 : decode cX12_stepHere 6 = .ok (.iconst 4, 1) := by decide +kernel
theorem dX12_stepHere_7 : decode cX12_stepHere 7 = .ok (.iconst 0, 1) := by decide +kernel
theorem dX12_stepHere_8 : decode cX12_stepHere 8 = .ok (.iconst 0, 1) := by decide +kernel
theorem dX12_stepHere_9 : decode cX12_stepHere 9 = .ok (.invokevirtual 119, 3) := by decide +kernel
theorem dX12_stepHere_12 : decode cX12_stepHere 12 = .ok (.ifCond .eq 5, 3) := by decide +kernel
theorem dX12_stepHere_15 : decode cX12_stepHere 15 = .ok (.iconst 0, 1) := by decide +kernel
theorem dX12_stepHere_16 : decode cX12_stepHere 16 = .ok (.ireturn, 1) := by decide +kernel
theorem dX12_stepHere_17 : decode cX12_stepHere 17 = .ok (.aload_n 0, 1) := by decide +kernel
theorem dX12_stepHere_18 : decode cX12_stepHere 18 = .ok (.bipush 20, 2) := by decide +kernel
theorem dX12_stepHere_20 : decode cX12_stepHere 20 = .ok (.iconst 1, 1) := by decide +kernel
theorem dX12_stepHere_21 : decode cX12_stepHere 21 = .ok (.bipush 11, 2) := by decide +kernel
theorem dX12_stepHere_23 : decode cX12_stepHere 23 = .ok (.iconst 5, 1) := by decide +kernel
theorem dX12_stepHere_24 : decode cX12_stepHere 24 = .ok (.iconst 0, 1) := by decide +kernel
theorem dX12_stepHere_25 : decode cX12_stepHere 25 = .ok (.iconst 0, 1) := by decide +kernel
theorem dX12_stepHere_26 : decode cX12_stepHere 26 = .ok (.invokevirtual 119, 3) := by decide +kernel
theorem dX12_stepHere_29 : decode cX12_stepHere 29 = .ok (.ifCond .eq 5, 3) := by decide +kernel
theorem dX12_stepHere_32 : decode cX12_stepHere 32 = .ok (.iconst 1, 1) := by decide +kernel
theorem dX12_stepHere_33 : decode cX12_stepHere 33 = .ok (.ireturn, 1) := by decide +kernel
theorem dX12_stepHere_34 : decode cX12_stepHere 34 = .ok (.aload_n 0, 1) := by decide +kernel
theorem dX12_stepHere_35 : decode cX12_stepHere 35 = .ok (.bipush 12, 2) := by decide +kernel
theorem dX12_stepHere_37 : decode cX12_stepHere 37 = .ok (.bipush 15, 2) := by decide +kernel
theorem dX12_stepHere_39 : decode cX12_stepHere 39 = .ok (.bipush 19, 2) := by decide +kernel
theorem dX12_stepHere_41 : decode cX12_stepHere 41 = .ok (.iconst 5, 1) := by decide +kernel
theorem dX12_stepHere_42 : decode cX12_stepHere 42 = .ok (.iconst 0, 1) := by decide +kernel
theorem dX12_stepHere_43 : decode cX12_stepHere 43 = .ok (.iconst 0, 1) := by decide +kernel
theorem dX12_stepHere_44 : decode cX12_stepHere 44 = .ok (.invokevirtual 119, 3) := by decide +kernel
theorem dX12_stepHere_47 : decode cX12_stepHere 47 = .ok (.ifCond .eq 5, 3) := by decide +kernel
theorem dX12_stepHere_50 : decode cX12_stepHere 50 = .ok (.iconst 2, 1) := by decide +kernel
theorem dX12_stepHere_51 : decode cX12_stepHere 51 = .ok (.ireturn, 1) := by decide +kernel
theorem dX12_stepHere_52 : decode cX12_stepHere 52 = .ok (.aload_n 0, 1) := by decide +kernel
theorem dX12_stepHere_53 : decode cX12_stepHere 53 = .ok (.bipush 20, 2) := by decide +kernel
theorem dX12_stepHere_55 : decode cX12_stepHere 55 = .ok (.iconst 5, 1) := by decide +kernel
theorem dX12_stepHere_56 : decode cX12_stepHere 56 = .ok (.bipush 12, 2) := by decide +kernel
theorem dX12_stepHere_58 : decode cX12_stepHere 58 = .ok (.bipush 12, 2) := by decide +kernel
theorem dX12_stepHere_60 : decode cX12_stepHere 60 = .ok (.iconst 0, 1) := by decide +kernel
theorem dX12_stepHere_61 : decode cX12_stepHere 61 = .ok (.iconst 0, 1) := by decide +kernel
theorem dX12_stepHere_62 : decode cX12_stepHere 62 = .ok (.invokevirtual 119, 3) := by decide +kernel
theorem dX12_stepHere_65 : decode cX12_stepHere 65 = .ok (.ifCond .eq 5, 3) := by decide +kernel
theorem dX12_stepHere_68 : decode cX12_stepHere 68 = .ok (.iconst 3, 1) := by decide +kernel
theorem dX12_stepHere_69 : decode cX12_stepHere 69 = .ok (.ireturn, 1) := by decide +kernel
theorem dX12_stepHere_70 : decode cX12_stepHere 70 = .ok (.aload_n 0, 1) := by decide +kernel
theorem dX12_stepHere_71 : decode cX12_stepHere 71 = .ok (.bipush 20, 2) := by decide +kernel
theorem dX12_stepHere_73 : decode cX12_stepHere 73 = .ok (.bipush 18, 2) := by decide +kernel
theorem dX12_stepHere_75 : decode cX12_stepHere 75 = .ok (.bipush 9, 2) := by decide +kernel
theorem dX12_stepHere_77 : decode cX12_stepHere 77 = .ok (.bipush 13, 2) := by decide +kernel
theorem dX12_stepHere_79 : decode cX12_stepHere 79 = .ok (.iconst 0, 1) := by decide +kernel
theorem dX12_stepHere_80 : decode cX12_stepHere 80 = .ok (.iconst 0, 1) := by decide +kernel
theorem dX12_stepHere_81 : decode cX12_stepHere 81 = .ok (.invokevirtual 119, 3) := by decide +kernel
theorem dX12_stepHere_84 : decode cX12_stepHere 84 = .ok (.ifCond .eq 5, 3) := by decide +kernel
theorem dX12_stepHere_87 : decode cX12_stepHere 87 = .ok (.iconst 4, 1) := by decide +kernel
theorem dX12_stepHere_88 : decode cX12_stepHere 88 = .ok (.ireturn, 1) := by decide +kernel
theorem dX12_stepHere_89 : decode cX12_stepHere 89 = .ok (.aload_n 0, 1) := by decide +kernel
theorem dX12_stepHere_90 : decode cX12_stepHere 90 = .ok (.iconst 3, 1) := by decide +kernel
theorem dX12_stepHere_91 : decode cX12_stepHere 91 = .ok (.bipush 18, 2) := by decide +kernel
theorem dX12_stepHere_93 : decode cX12_stepHere 93 = .ok (.iconst 1, 1) := by decide +kernel
theorem dX12_stepHere_94 : decode cX12_stepHere 94 = .ok (.bipush 19, 2) := by decide +kernel
theorem dX12_stepHere_96 : decode cX12_stepHere 96 = .ok (.bipush 8, 2) := by decide +kernel
theorem dX12_stepHere_98 : decode cX12_stepHere 98 = .ok (.iconst 0, 1) := by decide +kernel
theorem dX12_stepHere_99 : decode cX12_stepHere 99 = .ok (.invokevirtual 119, 3) := by decide +kernel
theorem dX12_stepHere_102 : decode cX12_stepHere 102 = .ok (.ifCond .eq 5, 3) := by decide +kernel
theorem dX12_stepHere_105 : decode cX12_stepHere 105 = .ok (.iconst 5, 1) := by decide +kernel
theorem dX12_stepHere_106 : decode cX12_stepHere 106 = .ok (.ireturn, 1) := by decide +kernel
theorem dX12_stepHere_107 : decode cX12_stepHere 107 = .ok (.aload_n 0, 1) := by decide +kernel
theorem dX12_stepHere_108 : decode cX12_stepHere 108 = .ok (.bipush 10, 2) := by decide +kernel
theorem dX12_stepHere_110 : decode cX12_stepHere 110 = .ok (.bipush 15, 2) := by decide +kernel
theorem dX12_stepHere_112 : decode cX12_stepHere 112 = .ok (.bipush 9, 2) := by decide +kernel
theorem dX12_stepHere_114 : decode cX12_stepHere 114 = .ok (.bipush 14, 2) := by decide +kernel
theorem dX12_stepHere_116 : decode cX12_stepHere 116 = .ok (.iconst 0, 1) := by decide +kernel
theorem dX12_stepHere_117 : decode cX12_stepHere 117 = .ok (.iconst 0, 1) := by decide +kernel
theorem dX12_stepHere_118 : decode cX12_stepHere 118 = .ok (.invokevirtual 119, 3) := by decide +kernel
theorem dX12_stepHere_121 : decode cX12_stepHere 121 = .ok (.ifCond .eq 6, 3) := by decide +kernel
theorem dX12_stepHere_124 : decode cX12_stepHere 124 = .ok (.bipush 6, 2) := by decide +kernel
theorem dX12_stepHere_126 : decode cX12_stepHere 126 = .ok (.ireturn, 1) := by decide +kernel
theorem dX12_stepHere_127 : decode cX12_stepHere 127 = .ok (.aload_n 0, 1) := by decide +kernel
theorem dX12_stepHere_128 : decode cX12_stepHere 128 = .ok (.bipush 16, 2) := by decide +kernel
theorem dX12_stepHere_130 : decode cX12_stepHere 130 = .ok (.iconst 1, 1) := by decide +kernel
theorem dX12_stepHere_131 : decode cX12_stepHere 131 = .ok (.bipush 18, 2) := by decide +kernel
theorem dX12_stepHere_133 : decode cX12_stepHere 133 = .ok (.bipush 20, 2) := by decide +kernel
theorem dX12_stepHere_135 : decode cX12_stepHere 135 = .ok (.iconst 0, 1) := by decide +kernel
theorem dX12_stepHere_136 : decode cX12_stepHere 136 = .ok (.iconst 0, 1) := by decide +kernel
theorem dX12_stepHere_137 : decode cX12_stepHere 137 = .ok (.invokevirtual 119, 3) := by decide +kernel
theorem dX12_stepHere_140 : decode cX12_stepHere 140 = .ok (.ifCond .eq 6, 3) := by decide +kernel
theorem dX12_stepHere_143 : decode cX12_stepHere 143 = .ok (.bipush 7, 2) := by decide +kernel
theorem dX12_stepHere_145 : decode cX12_stepHere 145 = .ok (.ireturn, 1) := by decide +kernel
theorem dX12_stepHere_146 : decode cX12_stepHere 146 = .ok (.aload_n 0, 1) := by decide +kernel
theorem dX12_stepHere_147 : decode cX12_stepHere 147 = .ok (.bipush 8, 2) := by decide +kernel
theorem dX12_stepHere_149 : decode cX12_stepHere 149 = .ok (.bipush 15, 2) := by decide +kernel
theorem dX12_stepHere_151 : decode cX12_stepHere 151 = .ok (.bipush 12, 2) := by decide +kernel
theorem dX12_stepHere_153 : decode cX12_stepHere 153 = .ok (.iconst 4, 1) := by decide +kernel
theorem dX12_stepHere_154 : decode cX12_stepHere 154 = .ok (.iconst 0, 1) := by decide +kernel
theorem dX12_stepHere_155 : decode cX12_stepHere 155 = .ok (.iconst 0, 1) := by decide +kernel
theorem dX12_stepHere_156 : decode cX12_stepHere 156 = .ok (.invokevirtual 119, 3) := by decide +kernel
theorem dX12_stepHere_159 : decode cX12_stepHere 159 = .ok (.ifCond .eq 6, 3) := by decide +kernel
theorem dX12_stepHere_162 : decode cX12_stepHere 162 = .ok (.bipush 8, 2) := by decide +kernel
theorem dX12_stepHere_164 : decode cX12_stepHere 164 = .ok (.ireturn, 1) := by decide +kernel
theorem dX12_stepHere_165 : decode cX12_stepHere 165 = .ok (.aload_n 0, 1) := by decide +kernel
theorem dX12_stepHere_166 : decode cX12_stepHere 166 = .ok (.bipush 22, 2) := by decide +kernel
theorem dX12_stepHere_168 : decode cX12_stepHere 168 = .ok (.bipush 9, 2) := by decide +kernel
theorem dX12_stepHere_170 : decode cX12_stepHere 170 = .ok (.iconst 5, 1) := by decide +kernel
theorem dX12_stepHere_171 : decode cX12_stepHere 171 = .ok (.bipush 23, 2) := by decide +kernel
theorem dX12_stepHere_173 : decode cX12_stepHere 173 = .ok (.iconst 0, 1) := by decide +kernel
theorem dX12_stepHere_174 : decode cX12_stepHere 174 = .ok (.iconst 0, 1) := by decide +kernel
theorem dX12_stepHere_175 : decode cX12_stepHere 175 = .ok (.invokevirtual 119, 3) := by decide +kernel
theorem dX12_stepHere_178 : decode cX12_stepHere 178 = .ok (.ifCond .eq 6, 3) := by decide +kernel
theorem dX12_stepHere_181 : decode cX12_stepHere 181 = .ok (.bipush 9, 2) := by decide +kernel
theorem dX12_stepHere_183 : decode cX12_stepHere 183 = .ok (.ireturn, 1) := by decide +kernel
theorem dX12_stepHere_184 : decode cX12_stepHere 184 = .ok (.aload_n 0, 1) := by decide +kernel
theorem dX12_stepHere_185 : decode cX12_stepHere 185 = .ok (.iconst 1, 1) := by decide +kernel
theorem dX12_stepHere_186 : decode cX12_stepHere 186 = .ok (.bipush 7, 2) := by decide +kernel
theorem dX12_stepHere_188 : decode cX12_stepHere 188 = .ok (.iconst 1, 1) := by decide +kernel
theorem dX12_stepHere_189 : decode cX12_stepHere 189 = .ok (.bipush 9, 2) := by decide +kernel
theorem dX12_stepHere_191 : decode cX12_stepHere 191 = .ok (.bipush 14, 2) := by decide +kernel
theorem dX12_stepHere_193 : decode cX12_stepHere 193 = .ok (.iconst 0, 1) := by decide +kernel
theorem dX12_stepHere_194 : decode cX12_stepHere 194 = .ok (.invokevirtual 119, 3) := by decide +kernel
theorem dX12_stepHere_197 : decode cX12_stepHere 197 = .ok (.ifCond .eq 8, 3) := by decide +kernel
theorem dX12_stepHere_200 : decode cX12_stepHere 200 = .ok (.bipush 10, 2) := by decide +kernel
theorem dX12_stepHere_202 : decode cX12_stepHere 202 = .ok (.goto 4, 3) := by decide +kernel
theorem dX12_stepHere_205 : decode cX12_stepHere 205 = .ok (.iconst (-1), 1) := by decide +kernel
theorem dX12_stepHere_206 : decode cX12_stepHere 206 = .ok (.ireturn, 1) := by decide +kernel
theorem dX12_readsStep_0 : decode cX12_readsStep 0 = .ok (.aload_n 0, 1) := by decide +kernel
theorem dX12_readsStep_1 : decode cX12_readsStep 1 = .ok (.invokevirtual 214, 3) := by decide +kernel
theorem dX12_readsStep_4 : decode cX12_readsStep 4 = .ok (.istore_n 1, 1) := by decide +kernel
theorem dX12_readsStep_5 : decode cX12_readsStep 5 = .ok (.iload_n 1, 1) := by decide +kernel
theorem dX12_readsStep_6 : decode cX12_readsStep 6 = .ok (.iconst (-1), 1) := by decide +kernel
theorem dX12_readsStep_7 : decode cX12_readsStep 7 = .ok (.if_icmp .ne 12, 3) := by decide +kernel
theorem dX12_readsStep_10 : decode cX12_readsStep 10 = .ok (.aload_n 0, 1) := by decide +kernel
theorem dX12_readsStep_11 : decode cX12_readsStep 11 = .ok (.iconst 1, 1) := by decide +kernel
theorem dX12_readsStep_12 : decode cX12_readsStep 12 = .ok (.aload_n 0, 1) := by decide +kernel
theorem dX12_readsStep_13 : decode cX12_readsStep 13 = .ok (.getfield 79, 3) := by decide +kernel
theorem dX12_readsStep_16 : decode cX12_readsStep 16 = .ok (.invokevirtual 99, 3) := by decide +kernel
theorem dX12_readsStep_19 : decode cX12_readsStep 19 = .ok (.iload_n 1, 1) := by decide +kernel
theorem dX12_readsStep_20 : decode cX12_readsStep 20 = .ok (.bipush 10, 2) := by decide +kernel
theorem dX12_readsStep_22 : decode cX12_readsStep 22 = .ok (.if_icmp .ne 11, 3) := by decide +kernel
theorem dX12_readsStep_25 : decode cX12_readsStep 25 = .ok (.aload_n 0, 1) := by decide +kernel
theorem dX12_readsStep_26 : decode cX12_readsStep 26 = .ok (.invokevirtual 190, 3) := by decide +kernel
theorem dX12_readsStep_29 : decode cX12_readsStep 29 = .ok (.ifCond .ne 4, 3) := by decide +kernel
theorem dX12_readsStep_32 : decode cX12_readsStep 32 = .ok (.return_, 1) := by decide +kernel
theorem dX12_readsStep_33 : decode cX12_readsStep 33 = .ok (.aload_n 0, 1) := by decide +kernel
theorem dX12_readsStep_34 : decode cX12_readsStep 34 = .ok (.getfield 86, 3) := by decide +kernel
theorem dX12_readsStep_37 : decode cX12_readsStep 37 = .ok (.ifCond .eq 4, 3) := by decide +kernel
theorem dX12_readsStep_40 : decode cX12_readsStep 40 = .ok (.return_, 1) := by decide +kernel
theorem dX12_readsStep_41 : decode cX12_readsStep 41 = .ok (.aload_n 0, 1) := by decide +kernel
theorem dX12_readsStep_42 : decode cX12_readsStep 42 = .ok (.invokevirtual 123, 3) := by decide +kernel
theorem dX12_readsStep_45 : decode cX12_readsStep 45 = .ok (.aload_n 0, 1) := by decide +kernel
theorem dX12_readsStep_46 : decode cX12_readsStep 46 = .ok (.getfield 46, 3) := by decide +kernel
theorem dX12_readsStep_49 : decode cX12_readsStep 49 = .ok (.aload_n 0, 1) := by decide +kernel
theorem dX12_readsStep_50 : decode cX12_readsStep 50 = .ok (.getfield 217, 3) := by decide +kernel
theorem dX12_readsStep_53 : decode cX12_readsStep 53 = .ok (.aaload, 1) := by decide +kernel
theorem dX12_readsStep_54 : decode cX12_readsStep 54 = .ok (.astore_n 2, 1) := by decide +kernel
theorem dX12_readsStep_55 : decode cX12_readsStep 55 = .ok (.aload_n 0, 1) := by decide +kernel
theorem dX12_readsStep_56 : decode cX12_readsStep 56 = .ok (.dup, 1) := by decide +kernel
theorem dX12_readsStep_57 : decode cX12_readsStep 57 = .ok (.getfield 217, 3) := by decide +kernel
theorem dX12_readsStep_60 : decode cX12_readsStep 60 = .ok (.iconst 1, 1) := by decide +kernel
theorem dX12_readsStep_61 : decode cX12_readsStep 61 = .ok (.iadd, 1) := by decide +kernel
theorem dX12_readsStep_62 : decode cX12_readsStep 62 = .ok (.putfield 217, 3) := by decide +kernel
theorem dX12_readsStep_65 : decode cX12_readsStep 65 = .ok (.aload_n 2, 1) := by decide +kernel
theorem dX12_readsStep_66 : decode cX12_readsStep 66 = .ok (.iconst 0, 1) := by decide +kernel
theorem dX12_readsStep_67 : decode cX12_readsStep 67 = .ok (.iload_n 1, 1) := by decide +kernel
theorem dX12_readsStep_68 : decode cX12_readsStep 68 = .ok (.iastore, 1) := by decide +kernel
theorem dX12_readsStep_69 : decode cX12_readsStep 69 = .ok (.iload_n 1, 1) := by decide +kernel
theorem dX12_readsStep_70 : decode cX12_readsStep 70 = .ok (.bipush 7, 2) := by decide +kernel
theorem dX12_readsStep_72 : decode cX12_readsStep 72 = .ok (.if_icmp .ge 19, 3) := by decide +kernel
theorem dX12_readsStep_75 : decode cX12_readsStep 75 = .ok (.aload_n 2, 1) := by decide +kernel
theorem dX12_readsStep_76 : decode cX12_readsStep 76 = .ok (.iconst 1, 1) := by decide +kernel
theorem dX12_readsStep_77 : decode cX12_readsStep 77 = .ok (.aload_n 0, 1) := by decide +kernel
theorem dX12_readsStep_78 : decode cX12_readsStep 78 = .ok (.iconst 0, 1) := by decide +kernel
theorem dX12_readsStep_79 : decode cX12_readsStep 79 = .ok (.aload_n 0, 1) := by decide +kernel
theorem dX12_readsStep_80 : decode cX12_readsStep 80 = .ok (.getfield 23, 3) := by decide +kernel
theorem dX12_readsStep_83 : decode cX12_readsStep 83 = .ok (.iconst 0, 1) := by decide +kernel
theorem dX12_readsStep_84 : decode cX12_readsStep 84 = .ok (.iaload, 1) := by decide +kernel
theorem dX12_readsStep_85 : decode cX12_readsStep 85 = .ok (.iconst 1, 1) := by decide +kernel
theorem dX12_readsStep_86 : decode cX12_readsStep 86 = .ok (.isub, 1) := by decide +kernel
theorem dX12_readsStep_87 : decode cX12_readsStep 87 = .ok (.invokevirtual 132, 3) := by decide +kernel
theorem dX12_readsStep_90 : decode cX12_readsStep 90 = .ok (.iastore, 1) := by decide +kernel
theorem dX12_readsStep_91 : decode cX12_readsStep 91 = .ok (.iload_n 1, 1) := by decide +kernel
theorem dX12_readsStep_92 : decode cX12_readsStep 92 = .ok (.ifCond .ne 14, 3) := by decide +kernel
theorem dX12_readsStep_95 : decode cX12_readsStep 95 = .ok (.aload_n 2, 1) := by decide +kernel
theorem dX12_readsStep_96 : decode cX12_readsStep 96 = .ok (.iconst 2, 1) := by decide +kernel
theorem dX12_readsStep_97 : decode cX12_readsStep 97 = .ok (.aload_n 0, 1) := by decide +kernel
theorem dX12_readsStep_98 : decode cX12_readsStep 98 = .ok (.iconst 0, 1) := by decide +kernel
theorem dX12_readsStep_99 : decode cX12_readsStep 99 = .ok (.sipush 999, 3) := by decide +kernel
theorem dX12_readsStep_102 : decode cX12_readsStep 102 = .ok (.invokevirtual 132, 3) := by decide +kernel
theorem dX12_readsStep_105 : decode cX12_readsStep 105 = .ok (.iastore, 1) := by decide +kernel
theorem dX12_readsStep_106 : decode cX12_readsStep 106 = .ok (.iload_n 1, 1) := by decide +kernel
theorem dX12_readsStep_107 : decode cX12_readsStep 107 = .ok (.bipush 7, 2) := by decide +kernel
theorem dX12_readsStep_109 : decode cX12_readsStep 109 = .ok (.if_icmp .ne 13, 3) := by decide +kernel
theorem dX12_readsStep_112 : decode cX12_readsStep 112 = .ok (.aload_n 2, 1) := by decide +kernel
theorem dX12_readsStep_113 : decode cX12_readsStep 113 = .ok (.iconst 1, 1) := by decide +kernel
theorem dX12_readsStep_114 : decode cX12_readsStep 114 = .ok (.aload_n 0, 1) := by decide +kernel
theorem dX12_readsStep_115 : decode cX12_readsStep 115 = .ok (.iconst 0, 1) := by decide +kernel
theorem dX12_readsStep_116 : decode cX12_readsStep 116 = .ok (.bipush 63, 2) := by decide +kernel
theorem dX12_readsStep_118 : decode cX12_readsStep 118 = .ok (.invokevirtual 132, 3) := by decide +kernel
theorem dX12_readsStep_121 : decode cX12_readsStep 121 = .ok (.iastore, 1) := by decide +kernel
theorem dX12_readsStep_122 : decode cX12_readsStep 122 = .ok (.iload_n 1, 1) := by decide +kernel
theorem dX12_readsStep_123 : decode cX12_readsStep 123 = .ok (.bipush 10, 2) := by decide +kernel
theorem dX12_readsStep_125 : decode cX12_readsStep 125 = .ok (.if_icmp .ne 70, 3) := by decide +kernel
theorem dX12_readsStep_128 : decode cX12_readsStep 128 = .ok (.aload_n 2, 1) := by decide +kernel
theorem dX12_readsStep_129 : decode cX12_readsStep 129 = .ok (.iconst 1, 1) := by decide +kernel
theorem dX12_readsStep_130 : decode cX12_readsStep 130 = .ok (.aload_n 0, 1) := by decide +kernel
theorem dX12_readsStep_131 : decode cX12_readsStep 131 = .ok (.iconst 0, 1) := by decide +kernel
theorem dX12_readsStep_132 : decode cX12_readsStep 132 = .ok (.bipush 60, 2) := by decide +kernel
theorem dX12_readsStep_134 : decode cX12_readsStep 134 = .ok (.invokevirtual 132, 3) := by decide +kernel
theorem dX12_readsStep_137 : decode cX12_readsStep 137 = .ok (.iastore, 1) := by decide +kernel
theorem dX12_readsStep_138 : decode cX12_readsStep 138 = .ok (.aload_n 0, 1) := by decide +kernel
theorem dX12_readsStep_139 : decode cX12_readsStep 139 = .ok (.bipush 91, 2) := by decide +kernel
theorem dX12_readsStep_141 : decode cX12_readsStep 141 = .ok (.invokevirtual 136, 3) := by decide +kernel
theorem dX12_readsStep_144 : decode cX12_readsStep 144 = .ok (.aload_n 0, 1) := by decide +kernel
theorem dX12_readsStep_145 : decode cX12_readsStep 145 = .ok (.invokevirtual 92, 3) := by decide +kernel
theorem dX12_readsStep_148 : decode cX12_readsStep 148 = .ok (.aload_n 0, 1) := by decide +kernel
theorem dX12_readsStep_149 : decode cX12_readsStep 149 = .ok (.getfield 86, 3) := by decide +kernel
theorem dX12_readsStep_152 : decode cX12_readsStep 152 = .ok (.ifCond .ne 27, 3) := by decide +kernel
theorem dX12_readsStep_155 : decode cX12_readsStep 155 = .ok (.aload_n 0, 1) := by decide +kernel
theorem dX12_readsStep_156 : decode cX12_readsStep 156 = .ok (.aload_n 0, 1) := by decide +kernel
theorem dX12_readsStep_157 : decode cX12_readsStep 157 = .ok (.getfield 79, 3) := by decide +kernel
theorem dX12_readsStep_160 : decode cX12_readsStep 160 = .ok (.invokevirtual 82, 3) := by decide +kernel
theorem dX12_readsStep_163 : decode cX12_readsStep 163 = .ok (.bipush 93, 2) := by decide +kernel
theorem dX12_readsStep_165 : decode cX12_readsStep 165 = .ok (.if_icmp .eq 14, 3) := by decide +kernel
theorem dX12_readsStep_168 : decode cX12_readsStep 168 = .ok (.aload_n 0, 1) := by decide +kernel
theorem dX12_readsStep_169 : decode cX12_readsStep 169 = .ok (.invokevirtual 220, 3) := by decide +kernel
theorem dX12_readsStep_172 : decode cX12_readsStep 172 = .ok (.aload_n 0, 1) := by decide +kernel
theorem dX12_readsStep_173 : decode cX12_readsStep 173 = .ok (.invokevirtual 92, 3) := by decide +kernel
theorem dX12_readsStep_176 : decode cX12_readsStep 176 = .ok (.goto (-28), 3) := by decide +kernel
theorem dX12_readsStep_179 : decode cX12_readsStep 179 = .ok (.aload_n 0, 1) := by decide +kernel
theorem dX12_readsStep_180 : decode cX12_readsStep 180 = .ok (.bipush 93, 2) := by decide +kernel
theorem dX12_readsStep_182 : decode cX12_readsStep 182 = .ok (.invokevirtual 136, 3) := by decide +kernel
theorem dX12_readsStep_185 : decode cX12_readsStep 185 = .ok (.aload_n 0, 1) := by decide +kernel
theorem dX12_readsStep_186 : decode cX12_readsStep 186 = .ok (.dup, 1) := by decide +kernel
theorem dX12_readsStep_187 : decode cX12_readsStep 187 = .ok (.getfield 129, 3) := by decide +kernel
theorem dX12_readsStep_190 : decode cX12_readsStep 190 = .ok (.iconst 1, 1) := by decide +kernel
theorem dX12_readsStep_191 : decode cX12_readsStep 191 = .ok (.isub, 1) := by decide +kernel
theorem dX12_readsStep_192 : decode cX12_readsStep 192 = .ok (.putfield 129, 3) := by decide +kernel
theorem dX12_readsStep_195 : decode cX12_readsStep 195 = .ok (.aload_n 2, 1) := by decide +kernel
theorem dX12_readsStep_196 : decode cX12_readsStep 196 = .ok (.iconst 3, 1) := by decide +kernel
theorem dX12_readsStep_197 : decode cX12_readsStep 197 = .ok (.aload_n 0, 1) := by decide +kernel
theorem dX12_readsStep_198 : decode cX12_readsStep 198 = .ok (.getfield 217, 3) := by decide +kernel
theorem dX12_readsStep_201 : decode cX12_readsStep 201 = .ok (.iastore, 1) := by decide +kernel
theorem dX12_readsStep_202 : decode cX12_readsStep 202 = .ok (.aload_n 0, 1) := by decide +kernel
theorem dX12_readsStep_203 : decode cX12_readsStep 203 = .ok (.bipush 59, 2) := by decide +kernel
theorem dX12_readsStep_205 : decode cX12_readsStep 205 = .ok (.invokevirtual 136, 3) := by decide +kernel
theorem dX12_readsStep_208 : decode cX12_readsStep 208 = .ok (.return_, 1) := by decide +kernel
theorem dX12_book_0 : decode cX12_book 0 = .ok (.aload_n 0, 1) := by decide +kernel
theorem dX12_book_1 : decode cX12_book 1 = .ok (.iconst 0, 1) := by decide +kernel
theorem dX12_book_2 : decode cX12_book 2 = .ok (.putfield 70, 3) := by decide +kernel
theorem dX12_book_5 : decode cX12_book 5 = .ok (.aload_n 0, 1) := by decide +kernel
theorem dX12_book_6 : decode cX12_book 6 = .ok (.iload_n 1, 1) := by decide +kernel
theorem dX12_book_7 : decode cX12_book 7 = .ok (.iconst 0, 1) := by decide +kernel
theorem dX12_book_8 : decode cX12_book 8 = .ok (.aload_n 0, 1) := by decide +kernel
theorem dX12_book_9 : decode cX12_book 9 = .ok (.getfield 73, 3) := by decide +kernel
theorem dX12_book_12 : decode cX12_book 12 = .ok (.invokestatic 104, 3) := by decide +kernel
theorem dX12_book_15 : decode cX12_book 15 = .ok (.ifCond .eq 9, 3) := by decide +kernel
theorem dX12_book_18 : decode cX12_book 18 = .ok (.iload_n 1, 1) := by decide +kernel
theorem dX12_book_19 : decode cX12_book 19 = .ok (.bipush 60, 2) := by decide +kernel
theorem dX12_book_21 : decode cX12_book 21 = .ok (.if_icmp .le 7, 3) := by decide +kernel
theorem dX12_book_24 : decode cX12_book 24 = .ok (.iconst 1, 1) := by decide +kernel
theorem dX12_book_25 : decode cX12_book 25 = .ok (.goto 4, 3) := by decide +kernel
theorem dX12_book_28 : decode cX12_book 28 = .ok (.iconst 0, 1) := by decide +kernel
theorem dX12_book_29 : decode cX12_book 29 = .ok (.iconst 1, 1) := by decide +kernel
theorem dX12_book_30 : decode cX12_book 30 = .ok (.iconst 1, 1) := by decide +kernel
theorem dX12_book_31 : decode cX12_book 31 = .ok (.invokevirtual 140, 3) := by decide +kernel
theorem dX12_book_34 : decode cX12_book 34 = .ok (.ifCond .eq 5, 3) := by decide +kernel
theorem dX12_book_37 : decode cX12_book 37 = .ok (.iconst 0, 1) := by decide +kernel
theorem dX12_book_38 : decode cX12_book 38 = .ok (.ireturn, 1) := by decide +kernel
theorem dX12_book_39 : decode cX12_book 39 = .ok (.aload_n 0, 1) := by decide +kernel
theorem dX12_book_40 : decode cX12_book 40 = .ok (.iload_n 1, 1) := by decide +kernel
theorem dX12_book_41 : decode cX12_book 41 = .ok (.invokevirtual 144, 3) := by decide +kernel
theorem dX12_book_44 : decode cX12_book 44 = .ok (.iconst 0, 1) := by decide +kernel
theorem dX12_book_45 : decode cX12_book 45 = .ok (.istore_n 2, 1) := by decide +kernel
theorem dX12_book_46 : decode cX12_book 46 = .ok (.iconst 0, 1) := by decide +kernel
theorem dX12_book_47 : decode cX12_book 47 = .ok (.istore_n 3, 1) := by decide +kernel
theorem dX12_book_48 : decode cX12_book 48 = .ok (.aload_n 0, 1) := by decide +kernel
theorem dX12_book_49 : decode cX12_book 49 = .ok (.getfield 86, 3) := by decide +kernel
theorem dX12_book_52 : decode cX12_book 52 = .ok (.ifCond .ne 120, 3) := by decide +kernel
theorem dX12_book_55 : decode cX12_book 55 = .ok (.aload_n 0, 1) := by decide +kernel
theorem dX12_book_56 : decode cX12_book 56 = .ok (.getfield 79, 3) := by decide +kernel
theorem dX12_book_59 : decode cX12_book 59 = .ok (.aload_n 0, 1) := by decide +kernel
theorem dX12_book_60 : decode cX12_book 60 = .ok (.getfield 76, 3) := by decide +kernel
theorem dX12_book_63 : decode cX12_book 63 = .ok (.if_icmp .ge 109, 3) := by decide +kernel
theorem dX12_book_66 : decode cX12_book 66 = .ok (.aload_n 0, 1) := by decide +kernel
theorem dX12_book_67 : decode cX12_book 67 = .ok (.invokevirtual 92, 3) := by decide +kernel
theorem dX12_book_70 : decode cX12_book 70 = .ok (.aload_n 0, 1) := by decide +kernel
theorem dX12_book_71 : decode cX12_book 71 = .ok (.getfield 79, 3) := by decide +kernel
theorem dX12_book_74 : decode cX12_book 74 = .ok (.istore 4, 2) := by decide +kernel
theorem dX12_book_76 : decode cX12_book 76 = .ok (.aload_n 0, 1) := by decide +kernel
theorem dX12_book_77 : decode cX12_book 77 = .ok (.iconst 0, 1) := by decide +kernel
theorem dX12_book_78 : decode cX12_book 78 = .ok (.aload_n 0, 1) := by decide +kernel
theorem dX12_book_79 : decode cX12_book 79 = .ok (.getfield 23, 3) := by decide +kernel
theorem dX12_book_82 : decode cX12_book 82 = .ok (.iconst 0, 1) := by decide +kernel
theorem dX12_book_83 : decode cX12_book 83 = .ok (.iaload, 1) := by decide +kernel
theorem dX12_book_84 : decode cX12_book 84 = .ok (.iconst 1, 1) := by decide +kernel
theorem dX12_book_85 : decode cX12_book 85 = .ok (.isub, 1) := by decide +kernel
theorem dX12_book_86 : decode cX12_book 86 = .ok (.invokevirtual 132, 3) := by decide +kernel
theorem dX12_book_89 : decode cX12_book 89 = .ok (.istore 5, 2) := by decide +kernel
theorem dX12_book_91 : decode cX12_book 91 = .ok (.aload_n 0, 1) := by decide +kernel
theorem dX12_book_92 : decode cX12_book 92 = .ok (.getfield 86, 3) := by decide +kernel
theorem dX12_book_95 : decode cX12_book 95 = .ok (.ifCond .ne 19, 3) := by decide +kernel
theorem dX12_book_98 : decode cX12_book 98 = .ok (.iload_n 3, 1) := by decide +kernel
theorem dX12_book_99 : decode cX12_book 99 = .ok (.iload 5, 2) := by decide +kernel
theorem dX12_book_101 : decode cX12_book 101 = .ok (.invokestatic 153, 3) := by decide +kernel
theorem dX12_book_104 : decode cX12_book 104 = .ok (.ifCond .eq 10, 3) := by decide +kernel
theorem dX12_book_107 : decode cX12_book 107 = .ok (.aload_n 0, 1) := by decide +kernel
theorem dX12_book_108 : decode cX12_book 108 = .ok (.iconst 2, 1) := by decide +kernel
theorem dX12_book_109 : decode cX12_book 109 = .ok (.iload 4, 2) := by decide +kernel
theorem dX12_book_111 : decode cX12_book 111 = .ok (.invokevirtual 99, 3) := by decide +kernel
theorem dX12_book_114 : decode cX12_book 114 = .ok (.aload_n 0, 1) := by decide +kernel
theorem dX12_book_115 : decode cX12_book 115 = .ok (.iconst 0, 1) := by decide +kernel
theorem dX12_book_116 : decode cX12_book 116 = .ok (.iconst 1, 1) := by decide +kernel
theorem dX12_book_117 : decode cX12_book 117 = .ok (.invokevirtual 132, 3) := by decide +kernel
theorem dX12_book_120 : decode cX12_book 120 = .ok (.istore 6, 2) := by decide +kernel
theorem dX12_book_122 : decode cX12_book 122 = .ok (.aload_n 0, 1) := by decide +kernel
theorem dX12_book_123 : decode cX12_book 123 = .ok (.bipush 59, 2) := by decide +kernel
theorem dX12_book_125 : decode cX12_book 125 = .ok (.invokevirtual 136, 3) := by decide +kernel
theorem dX12_book_128 : decode cX12_book 128 = .ok (.aload_n 0, 1) := by decide +kernel
theorem dX12_book_129 : decode cX12_book 129 = .ok (.getfield 86, 3) := by decide +kernel
theorem dX12_book_132 : decode cX12_book 132 = .ok (.ifCond .ne 33, 3) := by decide +kernel
theorem dX12_book_135 : decode cX12_book 135 = .ok (.iload_n 3, 1) := by decide +kernel
theorem dX12_book_136 : decode cX12_book 136 = .ok (.iconst 1, 1) := by decide +kernel
theorem dX12_book_137 : decode cX12_book 137 = .ok (.iload 5, 2) := by decide +kernel
theorem dX12_book_139 : decode cX12_book 139 = .ok (.ishl, 1) := by decide +kernel
theorem dX12_book_140 : decode cX12_book 140 = .ok (.ior, 1) := by decide +kernel
theorem dX12_book_141 : decode cX12_book 141 = .ok (.istore_n 3, 1) := by decide +kernel
theorem dX12_book_142 : decode cX12_book 142 = .ok (.aload_n 0, 1) := by decide +kernel
theorem dX12_book_143 : decode cX12_book 143 = .ok (.getfield 37, 3) := by decide +kernel
theorem dX12_book_146 : decode cX12_book 146 = .ok (.iload_n 2, 1) := by decide +kernel
theorem dX12_book_147 : decode cX12_book 147 = .ok (.aaload, 1) := by decide +kernel
theorem dX12_book_148 : decode cX12_book 148 = .ok (.iconst 0, 1) := by decide +kernel
theorem dX12_book_149 : decode cX12_book 149 = .ok (.iload 5, 2) := by decide +kernel
theorem dX12_book_151 : decode cX12_book 151 = .ok (.iastore, 1) := by decide +kernel
theorem dX12_book_152 : decode cX12_book 152 = .ok (.aload_n 0, 1) := by decide +kernel
theorem dX12_book_153 : decode cX12_book 153 = .ok (.getfield 37, 3) := by decide +kernel
theorem dX12_book_156 : decode cX12_book 156 = .ok (.iload_n 2, 1) := by decide +kernel
theorem dX12_book_157 : decode cX12_book 157 = .ok (.aaload, 1) := by decide +kernel
theorem dX12_book_158 : decode cX12_book 158 = .ok (.iconst 1, 1) := by decide +kernel
theorem dX12_book_159 : decode cX12_book 159 = .ok (.iload 6, 2) := by decide +kernel
theorem dX12_book_161 : decode cX12_book 161 = .ok (.iastore, 1) := by decide +kernel
theorem dX12_book_162 : decode cX12_book 162 = .ok (.iinc 2 1, 3) := by decide +kernel
theorem dX12_book_165 : decode cX12_book 165 = .ok (.aload_n 0, 1) := by decide +kernel
theorem dX12_book_166 : decode cX12_book 166 = .ok (.invokevirtual 92, 3) := by decide +kernel
theorem dX12_book_169 : decode cX12_book 169 = .ok (.goto (-121), 3) := by decide +kernel
theorem dX12_book_172 : decode cX12_book 172 = .ok (.aload_n 0, 1) := by decide +kernel
theorem dX12_book_173 : decode cX12_book 173 = .ok (.getfield 86, 3) := by decide +kernel
theorem dX12_book_176 : decode cX12_book 176 = .ok (.ifCond .eq 8, 3) := by decide +kernel
theorem dX12_book_179 : decode cX12_book 179 = .ok (.aload_n 0, 1) := by decide +kernel
theorem dX12_book_180 : decode cX12_book 180 = .ok (.invokevirtual 150, 3) := by decide +kernel
theorem dX12_book_183 : decode cX12_book 183 = .ok (.ireturn, 1) := by decide +kernel
theorem dX12_book_184 : decode cX12_book 184 = .ok (.aload_n 0, 1) := by decide +kernel
theorem dX12_book_185 : decode cX12_book 185 = .ok (.iconst (-1), 1) := by decide +kernel
theorem dX12_book_186 : decode cX12_book 186 = .ok (.putfield 9, 3) := by decide +kernel
theorem dX12_book_189 : decode cX12_book 189 = .ok (.aload_n 0, 1) := by decide +kernel
theorem dX12_book_190 : decode cX12_book 190 = .ok (.iload_n 2, 1) := by decide +kernel
theorem dX12_book_191 : decode cX12_book 191 = .ok (.putfield 160, 3) := by decide +kernel
theorem dX12_book_194 : decode cX12_book 194 = .ok (.aload_n 0, 1) := by decide +kernel
theorem dX12_book_195 : decode cX12_book 195 = .ok (.getfield 37, 3) := by decide +kernel
theorem dX12_book_198 : decode cX12_book 198 = .ok (.aload_n 0, 1) := by decide +kernel
theorem dX12_book_199 : decode cX12_book 199 = .ok (.getfield 34, 3) := by decide +kernel
theorem dX12_book_202 : decode cX12_book 202 = .ok (.iload_n 2, 1) := by decide +kernel
theorem dX12_book_203 : decode cX12_book 203 = .ok (.invokestatic 200, 3) := by decide +kernel
theorem dX12_book_206 : decode cX12_book 206 = .ok (.iload_n 2, 1) := by decide +kernel
theorem dX12_book_207 : decode cX12_book 207 = .ok (.ireturn, 1) := by decide +kernel
theorem dX12_fault_0 : decode cX12_fault 0 = .ok (.aload_n 0, 1) := by decide +kernel
theorem dX12_fault_1 : decode cX12_fault 1 = .ok (.iconst 0, 1) := by decide +kernel
theorem dX12_fault_2 : decode cX12_fault 2 = .ok (.putfield 70, 3) := by decide +kernel
theorem dX12_fault_5 : decode cX12_fault 5 = .ok (.aload_n 0, 1) := by decide +kernel
theorem dX12_fault_6 : decode cX12_fault 6 = .ok (.getfield 9, 3) := by decide +kernel
theorem dX12_fault_9 : decode cX12_fault 9 = .ok (.ireturn, 1) := by decide +kernel
theorem dX12_wide_0 : decode cX12_wide 0 = .ok (.aload_n 0, 1) := by decide +kernel
theorem dX12_wide_1 : decode cX12_wide 1 = .ok (.iload_n 1, 1) := by decide +kernel
theorem dX12_wide_2 : decode cX12_wide 2 = .ok (.iaload, 1) := by decide +kernel
theorem dX12_wide_3 : decode cX12_wide 3 = .ok (.i2l, 1) := by decide +kernel
theorem dX12_wide_4 : decode cX12_wide 4 = .ok (.bipush 32, 2) := by decide +kernel
theorem dX12_wide_6 : decode cX12_wide 6 = .ok (.lshl, 1) := by decide +kernel
theorem dX12_wide_7 : decode cX12_wide 7 = .ok (.aload_n 0, 1) := by decide +kernel
theorem dX12_wide_8 : decode cX12_wide 8 = .ok (.iload_n 1, 1) := by decide +kernel
theorem dX12_wide_9 : decode cX12_wide 9 = .ok (.iconst 1, 1) := by decide +kernel
theorem dX12_wide_10 : decode cX12_wide 10 = .ok (.iadd, 1) := by decide +kernel
theorem dX12_wide_11 : decode cX12_wide 11 = .ok (.iaload, 1) := by decide +kernel
theorem dX12_wide_12 : decode cX12_wide 12 = .ok (.i2l, 1) := by decide +kernel
theorem dX12_wide_13 : decode cX12_wide 13 = .ok (.ldc2_w 223, 3) := by decide +kernel
theorem dX12_wide_16 : decode cX12_wide 16 = .ok (.land, 1) := by decide +kernel
theorem dX12_wide_17 : decode cX12_wide 17 = .ok (.lor, 1) := by decide +kernel
theorem dX12_wide_18 : decode cX12_wide 18 = .ok (.lreturn, 1) := by decide +kernel
theorem dX12_widens_0 : decode cX12_widens 0 = .ok (.aload_n 0, 1) := by decide +kernel
theorem dX12_widens_1 : decode cX12_widens 1 = .ok (.iload_n 1, 1) := by decide +kernel
theorem dX12_widens_2 : decode cX12_widens 2 = .ok (.lload_n 2, 1) := by decide +kernel
theorem dX12_widens_3 : decode cX12_widens 3 = .ok (.bipush 32, 2) := by decide +kernel
theorem dX12_widens_5 : decode cX12_widens 5 = .ok (.lshr, 1) := by decide +kernel
theorem dX12_widens_6 : decode cX12_widens 6 = .ok (.l2i, 1) := by decide +kernel
theorem dX12_widens_7 : decode cX12_widens 7 = .ok (.iastore, 1) := by decide +kernel
theorem dX12_widens_8 : decode cX12_widens 8 = .ok (.aload_n 0, 1) := by decide +kernel
theorem dX12_widens_9 : decode cX12_widens 9 = .ok (.iload_n 1, 1) := by decide +kernel
theorem dX12_widens_10 : decode cX12_widens 10 = .ok (.iconst 1, 1) := by decide +kernel
theorem dX12_widens_11 : decode cX12_widens 11 = .ok (.iadd, 1) := by decide +kernel
theorem dX12_widens_12 : decode cX12_widens 12 = .ok (.lload_n 2, 1) := by decide +kernel
theorem dX12_widens_13 : decode cX12_widens 13 = .ok (.l2i, 1) := by decide +kernel
theorem dX12_widens_14 : decode cX12_widens 14 = .ok (.iastore, 1) := by decide +kernel
theorem dX12_widens_15 : decode cX12_widens 15 = .ok (.return_, 1) := by decide +kernel
theorem dX12_entryOf_0 : decode cX12_entryOf 0 = .ok (.sipush 200, 3) := by decide +kernel
theorem dX12_entryOf_3 : decode cX12_entryOf 3 = .ok (.iconst 2, 1) := by decide +kernel
theorem dX12_entryOf_4 : decode cX12_entryOf 4 = .ok (.bipush 64, 2) := by decide +kernel
theorem dX12_entryOf_6 : decode cX12_entryOf 6 = .ok (.iload_n 0, 1) := by decide +kernel
theorem dX12_entryOf_7 : decode cX12_entryOf 7 = .ok (.imul, 1) := by decide +kernel
theorem dX12_entryOf_8 : decode cX12_entryOf 8 = .ok (.iload_n 1, 1) := by decide +kernel
theorem dX12_entryOf_9 : decode cX12_entryOf 9 = .ok (.iadd, 1) := by decide +kernel
theorem dX12_entryOf_10 : decode cX12_entryOf 10 = .ok (.imul, 1) := by decide +kernel
theorem dX12_entryOf_11 : decode cX12_entryOf 11 = .ok (.iadd, 1) := by decide +kernel
theorem dX12_entryOf_12 : decode cX12_entryOf 12 = .ok (.ireturn, 1) := by decide +kernel
theorem dX12_logs_0 : decode cX12_logs 0 = .ok (.aload_n 0, 1) := by decide +kernel
theorem dX12_logs_1 : decode cX12_logs 1 = .ok (.bipush 6, 2) := by decide +kernel
theorem dX12_logs_3 : decode cX12_logs 3 = .ok (.iload_n 1, 1) := by decide +kernel
theorem dX12_logs_4 : decode cX12_logs 4 = .ok (.iadd, 1) := by decide +kernel
theorem dX12_logs_5 : decode cX12_logs 5 = .ok (.iaload, 1) := by decide +kernel
theorem dX12_logs_6 : decode cX12_logs 6 = .ok (.bipush 64, 2) := by decide +kernel
theorem dX12_logs_8 : decode cX12_logs 8 = .ok (.if_icmp .lt 4, 3) := by decide +kernel
theorem dX12_logs_11 : decode cX12_logs 11 = .ok (.return_, 1) := by decide +kernel
theorem dX12_logs_12 : decode cX12_logs 12 = .ok (.aload_n 0, 1) := by decide +kernel
theorem dX12_logs_13 : decode cX12_logs 13 = .ok (.iload_n 1, 1) := by decide +kernel
theorem dX12_logs_14 : decode cX12_logs 14 = .ok (.aload_n 0, 1) := by decide +kernel
theorem dX12_logs_15 : decode cX12_logs 15 = .ok (.bipush 6, 2) := by decide +kernel
theorem dX12_logs_17 : decode cX12_logs 17 = .ok (.iload_n 1, 1) := by decide +kernel
theorem dX12_logs_18 : decode cX12_logs 18 = .ok (.iadd, 1) := by decide +kernel
theorem dX12_logs_19 : decode cX12_logs 19 = .ok (.iaload, 1) := by decide +kernel
theorem dX12_logs_20 : decode cX12_logs 20 = .ok (.invokestatic 225, 3) := by decide +kernel
theorem dX12_logs_23 : decode cX12_logs 23 = .ok (.aload_n 0, 1) := by decide +kernel
theorem dX12_logs_24 : decode cX12_logs 24 = .ok (.sipush 188, 3) := by decide +kernel
theorem dX12_logs_27 : decode cX12_logs 27 = .ok (.iconst 2, 1) := by decide +kernel
theorem dX12_logs_28 : decode cX12_logs 28 = .ok (.iload_n 1, 1) := by decide +kernel
theorem dX12_logs_29 : decode cX12_logs 29 = .ok (.imul, 1) := by decide +kernel
theorem dX12_logs_30 : decode cX12_logs 30 = .ok (.iadd, 1) := by decide +kernel
theorem dX12_logs_31 : decode cX12_logs 31 = .ok (.invokestatic 228, 3) := by decide +kernel
theorem dX12_logs_34 : decode cX12_logs 34 = .ok (.invokestatic 232, 3) := by decide +kernel
theorem dX12_logs_37 : decode cX12_logs 37 = .ok (.aload_n 0, 1) := by decide +kernel
theorem dX12_logs_38 : decode cX12_logs 38 = .ok (.bipush 6, 2) := by decide +kernel
theorem dX12_logs_40 : decode cX12_logs 40 = .ok (.iload_n 1, 1) := by decide +kernel
theorem dX12_logs_41 : decode cX12_logs 41 = .ok (.iadd, 1) := by decide +kernel
theorem dX12_logs_42 : decode cX12_logs 42 = .ok (.dup2, 1) := by decide +kernel
theorem dX12_logs_43 : decode cX12_logs 43 = .ok (.iaload, 1) := by decide +kernel
theorem dX12_logs_44 : decode cX12_logs 44 = .ok (.iconst 1, 1) := by decide +kernel
theorem dX12_logs_45 : decode cX12_logs 45 = .ok (.iadd, 1) := by decide +kernel
theorem dX12_logs_46 : decode cX12_logs 46 = .ok (.iastore, 1) := by decide +kernel
theorem dX12_logs_47 : decode cX12_logs 47 = .ok (.return_, 1) := by decide +kernel
theorem dX12_ones_0 : decode cX12_ones 0 = .ok (.iconst 0, 1) := by decide +kernel
theorem dX12_ones_1 : decode cX12_ones 1 = .ok (.istore_n 1, 1) := by decide +kernel
theorem dX12_ones_2 : decode cX12_ones 2 = .ok (.iconst 0, 1) := by decide +kernel
theorem dX12_ones_3 : decode cX12_ones 3 = .ok (.istore_n 2, 1) := by decide +kernel
theorem dX12_ones_4 : decode cX12_ones 4 = .ok (.iload_n 2, 1) := by decide +kernel
theorem dX12_ones_5 : decode cX12_ones 5 = .ok (.bipush 30, 2) := by decide +kernel
theorem dX12_ones_7 : decode cX12_ones 7 = .ok (.if_icmp .ge 17, 3) := by decide +kernel
theorem dX12_ones_10 : decode cX12_ones 10 = .ok (.iload_n 1, 1) := by decide +kernel
theorem dX12_ones_11 : decode cX12_ones 11 = .ok (.iload_n 0, 1) := by decide +kernel
theorem dX12_ones_12 : decode cX12_ones 12 = .ok (.iload_n 2, 1) := by decide +kernel
theorem dX12_ones_13 : decode cX12_ones 13 = .ok (.ishr, 1) := by decide +kernel
theorem dX12_ones_14 : decode cX12_ones 14 = .ok (.iconst 1, 1) := by decide +kernel
theorem dX12_ones_15 : decode cX12_ones 15 = .ok (.iand, 1) := by decide +kernel
theorem dX12_ones_16 : decode cX12_ones 16 = .ok (.iadd, 1) := by decide +kernel
theorem dX12_ones_17 : decode cX12_ones 17 = .ok (.istore_n 1, 1) := by decide +kernel
theorem dX12_ones_18 : decode cX12_ones 18 = .ok (.iinc 2 1, 3) := by decide +kernel
theorem dX12_ones_21 : decode cX12_ones 21 = .ok (.goto (-17), 3) := by decide +kernel
theorem dX12_ones_24 : decode cX12_ones 24 = .ok (.iload_n 1, 1) := by decide +kernel
theorem dX12_ones_25 : decode cX12_ones 25 = .ok (.ireturn, 1) := by decide +kernel
theorem dX12_isInside_0 : decode cX12_isInside 0 = .ok (.aload_n 0, 1) := by decide +kernel
theorem dX12_isInside_1 : decode cX12_isInside 1 = .ok (.sipush 184, 3) := by decide +kernel
theorem dX12_isInside_4 : decode cX12_isInside 4 = .ok (.iaload, 1) := by decide +kernel
theorem dX12_isInside_5 : decode cX12_isInside 5 = .ok (.iload_n 1, 1) := by decide +kernel
theorem dX12_isInside_6 : decode cX12_isInside 6 = .ok (.invokestatic 153, 3) := by decide +kernel
theorem dX12_isInside_9 : decode cX12_isInside 9 = .ok (.ifCond .eq 19, 3) := by decide +kernel
theorem dX12_isInside_12 : decode cX12_isInside 12 = .ok (.aload_n 0, 1) := by decide +kernel
theorem dX12_isInside_13 : decode cX12_isInside 13 = .ok (.sipush 183, 3) := by decide +kernel
theorem dX12_isInside_16 : decode cX12_isInside 16 = .ok (.iaload, 1) := by decide +kernel
theorem dX12_isInside_17 : decode cX12_isInside 17 = .ok (.iload_n 1, 1) := by decide +kernel
theorem dX12_isInside_18 : decode cX12_isInside 18 = .ok (.invokestatic 153, 3) := by decide +kernel
theorem dX12_isInside_21 : decode cX12_isInside 21 = .ok (.ifCond .eq 7, 3) := by decide +kernel
theorem dX12_isInside_24 : decode cX12_isInside 24 = .ok (.iconst 1, 1) := by decide +kernel
theorem dX12_isInside_25 : decode cX12_isInside 25 = .ok (.goto 4, 3) := by decide +kernel
theorem dX12_isInside_28 : decode cX12_isInside 28 = .ok (.iconst 0, 1) := by decide +kernel
theorem dX12_isInside_29 : decode cX12_isInside 29 = .ok (.ireturn, 1) := by decide +kernel
theorem dX12_reaches_0 : decode cX12_reaches 0 = .ok (.iload_n 0, 1) := by decide +kernel
theorem dX12_reaches_1 : decode cX12_reaches 1 = .ok (.iload_n 1, 1) := by decide +kernel
theorem dX12_reaches_2 : decode cX12_reaches 2 = .ok (.invokestatic 153, 3) := by decide +kernel
theorem dX12_reaches_5 : decode cX12_reaches 5 = .ok (.iload_n 0, 1) := by decide +kernel
theorem dX12_reaches_6 : decode cX12_reaches 6 = .ok (.iload_n 2, 1) := by decide +kernel
theorem dX12_reaches_7 : decode cX12_reaches 7 = .ok (.invokestatic 153, 3) := by decide +kernel
theorem dX12_reaches_10 : decode cX12_reaches 10 = .ok (.if_icmp .ne 7, 3) := by decide +kernel
theorem dX12_reaches_13 : decode cX12_reaches 13 = .ok (.iconst 1, 1) := by decide +kernel
theorem dX12_reaches_14 : decode cX12_reaches 14 = .ok (.goto 4, 3) := by decide +kernel
theorem dX12_reaches_17 : decode cX12_reaches 17 = .ok (.iconst 0, 1) := by decide +kernel
theorem dX12_reaches_18 : decode cX12_reaches 18 = .ok (.ireturn, 1) := by decide +kernel
theorem dX12_knownOf_0 : decode cX12_knownOf 0 = .ok (.bipush 36, 2) := by decide +kernel
theorem dX12_knownOf_2 : decode cX12_knownOf 2 = .ok (.bipush 6, 2) := by decide +kernel
theorem dX12_knownOf_4 : decode cX12_knownOf 4 = .ok (.iload_n 0, 1) := by decide +kernel
theorem dX12_knownOf_5 : decode cX12_knownOf 5 = .ok (.imul, 1) := by decide +kernel
theorem dX12_knownOf_6 : decode cX12_knownOf 6 = .ok (.iadd, 1) := by decide +kernel
theorem dX12_knownOf_7 : decode cX12_knownOf 7 = .ok (.iload_n 1, 1) := by decide +kernel
theorem dX12_knownOf_8 : decode cX12_knownOf 8 = .ok (.iadd, 1) := by decide +kernel
theorem dX12_knownOf_9 : decode cX12_knownOf 9 = .ok (.ireturn, 1) := by decide +kernel
theorem dX12_delivers_0 : decode cX12_delivers 0 = .ok (.aload_n 0, 1) := by decide +kernel
theorem dX12_delivers_1 : decode cX12_delivers 1 = .ok (.bipush 12, 2) := by decide +kernel
theorem dX12_delivers_3 : decode cX12_delivers 3 = .ok (.iload_n 1, 1) := by decide +kernel
theorem dX12_delivers_4 : decode cX12_delivers 4 = .ok (.iadd, 1) := by decide +kernel
theorem dX12_delivers_5 : decode cX12_delivers 5 = .ok (.dup2, 1) := by decide +kernel
theorem dX12_delivers_6 : decode cX12_delivers 6 = .ok (.iaload, 1) := by decide +kernel
theorem dX12_delivers_7 : decode cX12_delivers 7 = .ok (.iconst 1, 1) := by decide +kernel
theorem dX12_delivers_8 : decode cX12_delivers 8 = .ok (.iload_n 2, 1) := by decide +kernel
theorem dX12_delivers_9 : decode cX12_delivers 9 = .ok (.ishl, 1) := by decide +kernel
theorem dX12_delivers_10 : decode cX12_delivers 10 = .ok (.ior, 1) := by decide +kernel
theorem dX12_delivers_11 : decode cX12_delivers 11 = .ok (.iastore, 1) := by decide +kernel
theorem dX12_delivers_12 : decode cX12_delivers 12 = .ok (.aload_n 0, 1) := by decide +kernel
theorem dX12_delivers_13 : decode cX12_delivers 13 = .ok (.bipush 18, 2) := by decide +kernel
theorem dX12_delivers_15 : decode cX12_delivers 15 = .ok (.iload_n 1, 1) := by decide +kernel
theorem dX12_delivers_16 : decode cX12_delivers 16 = .ok (.iadd, 1) := by decide +kernel
theorem dX12_delivers_17 : decode cX12_delivers 17 = .ok (.dup2, 1) := by decide +kernel
theorem dX12_delivers_18 : decode cX12_delivers 18 = .ok (.iaload, 1) := by decide +kernel
theorem dX12_delivers_19 : decode cX12_delivers 19 = .ok (.iconst 1, 1) := by decide +kernel
theorem dX12_delivers_20 : decode cX12_delivers 20 = .ok (.iload_n 2, 1) := by decide +kernel
theorem dX12_delivers_21 : decode cX12_delivers 21 = .ok (.ishl, 1) := by decide +kernel
theorem dX12_delivers_22 : decode cX12_delivers 22 = .ok (.ior, 1) := by decide +kernel
theorem dX12_delivers_23 : decode cX12_delivers 23 = .ok (.iastore, 1) := by decide +kernel
theorem dX12_delivers_24 : decode cX12_delivers 24 = .ok (.aload_n 0, 1) := by decide +kernel
theorem dX12_delivers_25 : decode cX12_delivers 25 = .ok (.iload_n 1, 1) := by decide +kernel
theorem dX12_delivers_26 : decode cX12_delivers 26 = .ok (.iload_n 1, 1) := by decide +kernel
theorem dX12_delivers_27 : decode cX12_delivers 27 = .ok (.invokestatic 236, 3) := by decide +kernel
theorem dX12_delivers_30 : decode cX12_delivers 30 = .ok (.dup2, 1) := by decide +kernel
theorem dX12_delivers_31 : decode cX12_delivers 31 = .ok (.iaload, 1) := by decide +kernel
theorem dX12_delivers_32 : decode cX12_delivers 32 = .ok (.iconst 1, 1) := by decide +kernel
theorem dX12_delivers_33 : decode cX12_delivers 33 = .ok (.iload_n 2, 1) := by decide +kernel
theorem dX12_delivers_34 : decode cX12_delivers 34 = .ok (.ishl, 1) := by decide +kernel
theorem dX12_delivers_35 : decode cX12_delivers 35 = .ok (.ior, 1) := by decide +kernel
theorem dX12_delivers_36 : decode cX12_delivers 36 = .ok (.iastore, 1) := by decide +kernel
theorem dX12_delivers_37 : decode cX12_delivers 37 = .ok (.aload_n 0, 1) := by decide +kernel
theorem dX12_delivers_38 : decode cX12_delivers 38 = .ok (.sipush 188, 3) := by decide +kernel
theorem dX12_delivers_41 : decode cX12_delivers 41 = .ok (.iconst 2, 1) := by decide +kernel
theorem dX12_delivers_42 : decode cX12_delivers 42 = .ok (.iload_n 1, 1) := by decide +kernel
theorem dX12_delivers_43 : decode cX12_delivers 43 = .ok (.imul, 1) := by decide +kernel
theorem dX12_delivers_44 : decode cX12_delivers 44 = .ok (.iadd, 1) := by decide +kernel
theorem dX12_delivers_45 : decode cX12_delivers 45 = .ok (.aload_n 0, 1) := by decide +kernel
theorem dX12_delivers_46 : decode cX12_delivers 46 = .ok (.sipush 188, 3) := by decide +kernel
theorem dX12_delivers_49 : decode cX12_delivers 49 = .ok (.iconst 2, 1) := by decide +kernel
theorem dX12_delivers_50 : decode cX12_delivers 50 = .ok (.iload_n 1, 1) := by decide +kernel
theorem dX12_delivers_51 : decode cX12_delivers 51 = .ok (.imul, 1) := by decide +kernel
theorem dX12_delivers_52 : decode cX12_delivers 52 = .ok (.iadd, 1) := by decide +kernel
theorem dX12_delivers_53 : decode cX12_delivers 53 = .ok (.invokestatic 228, 3) := by decide +kernel
theorem dX12_delivers_56 : decode cX12_delivers 56 = .ok (.aload_n 0, 1) := by decide +kernel
theorem dX12_delivers_57 : decode cX12_delivers 57 = .ok (.sipush 150, 3) := by decide +kernel
theorem dX12_delivers_60 : decode cX12_delivers 60 = .ok (.iload_n 2, 1) := by decide +kernel
theorem dX12_delivers_61 : decode cX12_delivers 61 = .ok (.iadd, 1) := by decide +kernel
theorem dX12_delivers_62 : decode cX12_delivers 62 = .ok (.iaload, 1) := by decide +kernel
theorem dX12_delivers_63 : decode cX12_delivers 63 = .ok (.i2l, 1) := by decide +kernel
theorem dX12_delivers_64 : decode cX12_delivers 64 = .ok (.lconst 1, 1) := by decide +kernel
theorem dX12_delivers_65 : decode cX12_delivers 65 = .ok (.ladd, 1) := by decide +kernel
theorem dX12_delivers_66 : decode cX12_delivers 66 = .ok (.aload_n 0, 1) := by decide +kernel
theorem dX12_delivers_67 : decode cX12_delivers 67 = .ok (.bipush 120, 2) := by decide +kernel
theorem dX12_delivers_69 : decode cX12_delivers 69 = .ok (.iload_n 2, 1) := by decide +kernel
theorem dX12_delivers_70 : decode cX12_delivers 70 = .ok (.iadd, 1) := by decide +kernel
theorem dX12_delivers_71 : decode cX12_delivers 71 = .ok (.iaload, 1) := by decide +kernel
theorem dX12_delivers_72 : decode cX12_delivers 72 = .ok (.i2l, 1) := by decide +kernel
theorem dX12_delivers_73 : decode cX12_delivers 73 = .ok (.lconst 1, 1) := by decide +kernel
theorem dX12_delivers_74 : decode cX12_delivers 74 = .ok (.ladd, 1) := by decide +kernel
theorem dX12_delivers_75 : decode cX12_delivers 75 = .ok (.lmul, 1) := by decide +kernel
theorem dX12_delivers_76 : decode cX12_delivers 76 = .ok (.ladd, 1) := by decide +kernel
theorem dX12_delivers_77 : decode cX12_delivers 77 = .ok (.invokestatic 232, 3) := by decide +kernel
theorem dX12_delivers_80 : decode cX12_delivers 80 = .ok (.aload_n 0, 1) := by decide +kernel
theorem dX12_delivers_81 : decode cX12_delivers 81 = .ok (.iload_n 1, 1) := by decide +kernel
theorem dX12_delivers_82 : decode cX12_delivers 82 = .ok (.invokestatic 239, 3) := by decide +kernel
theorem dX12_delivers_85 : decode cX12_delivers 85 = .ok (.return_, 1) := by decide +kernel
theorem dX12_sends_0 : decode cX12_sends 0 = .ok (.aload_n 1, 1) := by decide +kernel
theorem dX12_sends_1 : decode cX12_sends 1 = .ok (.iload_n 2, 1) := by decide +kernel
theorem dX12_sends_2 : decode cX12_sends 2 = .ok (.invokestatic 243, 3) := by decide +kernel
theorem dX12_sends_5 : decode cX12_sends 5 = .ok (.ifCond .ne 5, 3) := by decide +kernel
theorem dX12_sends_8 : decode cX12_sends 8 = .ok (.iconst 0, 1) := by decide +kernel
theorem dX12_sends_9 : decode cX12_sends 9 = .ok (.ireturn, 1) := by decide +kernel
theorem dX12_sends_10 : decode cX12_sends 10 = .ok (.aload_n 1, 1) := by decide +kernel
theorem dX12_sends_11 : decode cX12_sends 11 = .ok (.sipush 185, 3) := by decide +kernel
theorem dX12_sends_14 : decode cX12_sends 14 = .ok (.iaload, 1) := by decide +kernel
theorem dX12_sends_15 : decode cX12_sends 15 = .ok (.iload_n 2, 1) := by decide +kernel
theorem dX12_sends_16 : decode cX12_sends 16 = .ok (.invokestatic 153, 3) := by decide +kernel
theorem dX12_sends_19 : decode cX12_sends 19 = .ok (.ifCond .eq 45, 3) := by decide +kernel
theorem dX12_sends_22 : decode cX12_sends 22 = .ok (.aload_n 1, 1) := by decide +kernel
theorem dX12_sends_23 : decode cX12_sends 23 = .ok (.bipush 30, 2) := by decide +kernel
theorem dX12_sends_25 : decode cX12_sends 25 = .ok (.iload_n 2, 1) := by decide +kernel
theorem dX12_sends_26 : decode cX12_sends 26 = .ok (.iadd, 1) := by decide +kernel
theorem dX12_sends_27 : decode cX12_sends 27 = .ok (.iaload, 1) := by decide +kernel
theorem dX12_sends_28 : decode cX12_sends 28 = .ok (.bipush 8, 2) := by decide +kernel
theorem dX12_sends_30 : decode cX12_sends 30 = .ok (.if_icmp .ne 5, 3) := by decide +kernel
theorem dX12_sends_33 : decode cX12_sends 33 = .ok (.iconst 0, 1) := by decide +kernel
theorem dX12_sends_34 : decode cX12_sends 34 = .ok (.ireturn, 1) := by decide +kernel
theorem dX12_sends_35 : decode cX12_sends 35 = .ok (.aload_n 1, 1) := by decide +kernel
theorem dX12_sends_36 : decode cX12_sends 36 = .ok (.bipush 72, 2) := by decide +kernel
theorem dX12_sends_38 : decode cX12_sends 38 = .ok (.bipush 8, 2) := by decide +kernel
theorem dX12_sends_40 : decode cX12_sends 40 = .ok (.iload_n 2, 1) := by decide +kernel
theorem dX12_sends_41 : decode cX12_sends 41 = .ok (.imul, 1) := by decide +kernel
theorem dX12_sends_42 : decode cX12_sends 42 = .ok (.iadd, 1) := by decide +kernel
theorem dX12_sends_43 : decode cX12_sends 43 = .ok (.aload_n 1, 1) := by decide +kernel
theorem dX12_sends_44 : decode cX12_sends 44 = .ok (.bipush 30, 2) := by decide +kernel
theorem dX12_sends_46 : decode cX12_sends 46 = .ok (.iload_n 2, 1) := by decide +kernel
theorem dX12_sends_47 : decode cX12_sends 47 = .ok (.iadd, 1) := by decide +kernel
theorem dX12_sends_48 : decode cX12_sends 48 = .ok (.iaload, 1) := by decide +kernel
theorem dX12_sends_49 : decode cX12_sends 49 = .ok (.iadd, 1) := by decide +kernel
theorem dX12_sends_50 : decode cX12_sends 50 = .ok (.iload_n 3, 1) := by decide +kernel
theorem dX12_sends_51 : decode cX12_sends 51 = .ok (.iastore, 1) := by decide +kernel
theorem dX12_sends_52 : decode cX12_sends 52 = .ok (.aload_n 1, 1) := by decide +kernel
theorem dX12_sends_53 : decode cX12_sends 53 = .ok (.bipush 30, 2) := by decide +kernel
theorem dX12_sends_55 : decode cX12_sends 55 = .ok (.iload_n 2, 1) := by decide +kernel
theorem dX12_sends_56 : decode cX12_sends 56 = .ok (.iadd, 1) := by decide +kernel
theorem dX12_sends_57 : decode cX12_sends 57 = .ok (.dup2, 1) := by decide +kernel
theorem dX12_sends_58 : decode cX12_sends 58 = .ok (.iaload, 1) := by decide +kernel
theorem dX12_sends_59 : decode cX12_sends 59 = .ok (.iconst 1, 1) := by decide +kernel
theorem dX12_sends_60 : decode cX12_sends 60 = .ok (.iadd, 1) := by decide +kernel
theorem dX12_sends_61 : decode cX12_sends 61 = .ok (.iastore, 1) := by decide +kernel
theorem dX12_sends_62 : decode cX12_sends 62 = .ok (.iconst 1, 1) := by decide +kernel
theorem dX12_sends_63 : decode cX12_sends 63 = .ok (.ireturn, 1) := by decide +kernel
theorem dX12_sends_64 : decode cX12_sends 64 = .ok (.aload_n 1, 1) := by decide +kernel
theorem dX12_sends_65 : decode cX12_sends 65 = .ok (.sipush 187, 3) := by decide +kernel
theorem dX12_sends_68 : decode cX12_sends 68 = .ok (.iaload, 1) := by decide +kernel
theorem dX12_sends_69 : decode cX12_sends 69 = .ok (.istore 4, 2) := by decide +kernel
theorem dX12_sends_71 : decode cX12_sends 71 = .ok (.iload 4, 2) := by decide +kernel
theorem dX12_sends_73 : decode cX12_sends 73 = .ok (.aload_n 0, 1) := by decide +kernel
theorem dX12_sends_74 : decode cX12_sends 74 = .ok (.getfield 23, 3) := by decide +kernel
theorem dX12_sends_77 : decode cX12_sends 77 = .ok (.iconst 2, 1) := by decide +kernel
theorem dX12_sends_78 : decode cX12_sends 78 = .ok (.iaload, 1) := by decide +kernel
theorem dX12_sends_79 : decode cX12_sends 79 = .ok (.if_icmp .lt 5, 3) := by decide +kernel
theorem dX12_sends_82 : decode cX12_sends 82 = .ok (.iconst 0, 1) := by decide +kernel
theorem dX12_sends_83 : decode cX12_sends 83 = .ok (.ireturn, 1) := by decide +kernel
theorem dX12_sends_84 : decode cX12_sends 84 = .ok (.aload_n 1, 1) := by decide +kernel
theorem dX12_sends_85 : decode cX12_sends 85 = .ok (.sipush 187, 3) := by decide +kernel
theorem dX12_sends_88 : decode cX12_sends 88 = .ok (.dup2, 1) := by decide +kernel
theorem dX12_sends_89 : decode cX12_sends 89 = .ok (.iaload, 1) := by decide +kernel
theorem dX12_sends_90 : decode cX12_sends 90 = .ok (.iconst 1, 1) := by decide +kernel
theorem dX12_sends_91 : decode cX12_sends 91 = .ok (.iadd, 1) := by decide +kernel
theorem dX12_sends_92 : decode cX12_sends 92 = .ok (.iastore, 1) := by decide +kernel
theorem dX12_sends_93 : decode cX12_sends 93 = .ok (.aload_n 1, 1) := by decide +kernel
theorem dX12_sends_94 : decode cX12_sends 94 = .ok (.bipush 120, 2) := by decide +kernel
theorem dX12_sends_96 : decode cX12_sends 96 = .ok (.iload 4, 2) := by decide +kernel
theorem dX12_sends_98 : decode cX12_sends 98 = .ok (.iadd, 1) := by decide +kernel
theorem dX12_sends_99 : decode cX12_sends 99 = .ok (.iload_n 2, 1) := by decide +kernel
theorem dX12_sends_100 : decode cX12_sends 100 = .ok (.iastore, 1) := by decide +kernel
theorem dX12_sends_101 : decode cX12_sends 101 = .ok (.aload_n 1, 1) := by decide +kernel
theorem dX12_sends_102 : decode cX12_sends 102 = .ok (.sipush 150, 3) := by decide +kernel
theorem dX12_sends_105 : decode cX12_sends 105 = .ok (.iload 4, 2) := by decide +kernel
theorem dX12_sends_107 : decode cX12_sends 107 = .ok (.iadd, 1) := by decide +kernel
theorem dX12_sends_108 : decode cX12_sends 108 = .ok (.iload_n 3, 1) := by decide +kernel
theorem dX12_sends_109 : decode cX12_sends 109 = .ok (.iastore, 1) := by decide +kernel
theorem dX12_sends_110 : decode cX12_sends 110 = .ok (.aload_n 1, 1) := by decide +kernel
theorem dX12_sends_111 : decode cX12_sends 111 = .ok (.iload_n 2, 1) := by decide +kernel
theorem dX12_sends_112 : decode cX12_sends 112 = .ok (.iload 4, 2) := by decide +kernel
theorem dX12_sends_114 : decode cX12_sends 114 = .ok (.invokestatic 247, 3) := by decide +kernel
theorem dX12_sends_117 : decode cX12_sends 117 = .ok (.iconst 0, 1) := by decide +kernel
theorem dX12_sends_118 : decode cX12_sends 118 = .ok (.istore 5, 2) := by decide +kernel
theorem dX12_sends_120 : decode cX12_sends 120 = .ok (.iload 5, 2) := by decide +kernel
theorem dX12_sends_122 : decode cX12_sends 122 = .ok (.aload_n 0, 1) := by decide +kernel
theorem dX12_sends_123 : decode cX12_sends 123 = .ok (.getfield 23, 3) := by decide +kernel
theorem dX12_sends_126 : decode cX12_sends 126 = .ok (.iconst 0, 1) := by decide +kernel
theorem dX12_sends_127 : decode cX12_sends 127 = .ok (.iaload, 1) := by decide +kernel
theorem dX12_sends_128 : decode cX12_sends 128 = .ok (.if_icmp .ge 42, 3) := by decide +kernel
theorem dX12_sends_131 : decode cX12_sends 131 = .ok (.aload_n 1, 1) := by decide +kernel
theorem dX12_sends_132 : decode cX12_sends 132 = .ok (.bipush 24, 2) := by decide +kernel
theorem dX12_sends_134 : decode cX12_sends 134 = .ok (.iload 5, 2) := by decide +kernel
theorem dX12_sends_136 : decode cX12_sends 136 = .ok (.iadd, 1) := by decide +kernel
theorem dX12_sends_137 : decode cX12_sends 137 = .ok (.dup2, 1) := by decide +kernel
theorem dX12_sends_138 : decode cX12_sends 138 = .ok (.iaload, 1) := by decide +kernel
theorem dX12_sends_139 : decode cX12_sends 139 = .ok (.iload 5, 2) := by decide +kernel
theorem dX12_sends_141 : decode cX12_sends 141 = .ok (.iload_n 2, 1) := by decide +kernel
theorem dX12_sends_142 : decode cX12_sends 142 = .ok (.if_icmp .eq 19, 3) := by decide +kernel
theorem dX12_sends_145 : decode cX12_sends 145 = .ok (.aload_n 1, 1) := by decide +kernel
theorem dX12_sends_146 : decode cX12_sends 146 = .ok (.iload 5, 2) := by decide +kernel
theorem dX12_sends_148 : decode cX12_sends 148 = .ok (.invokestatic 243, 3) := by decide +kernel
theorem dX12_sends_151 : decode cX12_sends 151 = .ok (.ifCond .eq 10, 3) := by decide +kernel
theorem dX12_sends_154 : decode cX12_sends 154 = .ok (.iconst 1, 1) := by decide +kernel
theorem dX12_sends_155 : decode cX12_sends 155 = .ok (.iload 4, 2) := by decide +kernel
theorem dX12_sends_157 : decode cX12_sends 157 = .ok (.ishl, 1) := by decide +kernel
theorem dX12_sends_158 : decode cX12_sends 158 = .ok (.goto 4, 3) := by decide +kernel
theorem dX12_sends_161 : decode cX12_sends 161 = .ok (.iconst 0, 1) := by decide +kernel
theorem dX12_sends_162 : decode cX12_sends 162 = .ok (.ior, 1) := by decide +kernel
theorem dX12_sends_163 : decode cX12_sends 163 = .ok (.iastore, 1) := by decide +kernel
theorem dX12_sends_164 : decode cX12_sends 164 = .ok (.iinc 5 1, 3) := by decide +kernel
theorem dX12_sends_167 : decode cX12_sends 167 = .ok (.goto (-47), 3) := by decide +kernel
theorem dX12_sends_170 : decode cX12_sends 170 = .ok (.iconst 1, 1) := by decide +kernel
theorem dX12_sends_171 : decode cX12_sends 171 = .ok (.ireturn, 1) := by decide +kernel
theorem dX12_nextOf_0 : decode cX12_nextOf 0 = .ok (.iconst 0, 1) := by decide +kernel
theorem dX12_nextOf_1 : decode cX12_nextOf 1 = .ok (.istore 4, 2) := by decide +kernel
theorem dX12_nextOf_3 : decode cX12_nextOf 3 = .ok (.iload 4, 2) := by decide +kernel
theorem dX12_nextOf_5 : decode cX12_nextOf 5 = .ok (.aload_n 1, 1) := by decide +kernel
theorem dX12_nextOf_6 : decode cX12_nextOf 6 = .ok (.sipush 187, 3) := by decide +kernel
theorem dX12_nextOf_9 : decode cX12_nextOf 9 = .ok (.iaload, 1) := by decide +kernel
theorem dX12_nextOf_10 : decode cX12_nextOf 10 = .ok (.if_icmp .ge 57, 3) := by decide +kernel
theorem dX12_nextOf_13 : decode cX12_nextOf 13 = .ok (.aload_n 1, 1) := by decide +kernel
theorem dX12_nextOf_14 : decode cX12_nextOf 14 = .ok (.iload_n 2, 1) := by decide +kernel
theorem dX12_nextOf_15 : decode cX12_nextOf 15 = .ok (.invokestatic 243, 3) := by decide +kernel
theorem dX12_nextOf_18 : decode cX12_nextOf 18 = .ok (.ifCond .eq 49, 3) := by decide +kernel
theorem dX12_nextOf_21 : decode cX12_nextOf 21 = .ok (.aload_n 1, 1) := by decide +kernel
theorem dX12_nextOf_22 : decode cX12_nextOf 22 = .ok (.bipush 24, 2) := by decide +kernel
theorem dX12_nextOf_24 : decode cX12_nextOf 24 = .ok (.iload_n 2, 1) := by decide +kernel
theorem dX12_nextOf_25 : decode cX12_nextOf 25 = .ok (.iadd, 1) := by decide +kernel
theorem dX12_nextOf_26 : decode cX12_nextOf 26 = .ok (.iaload, 1) := by decide +kernel
theorem dX12_nextOf_27 : decode cX12_nextOf 27 = .ok (.iload 4, 2) := by decide +kernel
theorem dX12_nextOf_29 : decode cX12_nextOf 29 = .ok (.invokestatic 153, 3) := by decide +kernel
theorem dX12_nextOf_32 : decode cX12_nextOf 32 = .ok (.ifCond .eq 29, 3) := by decide +kernel
theorem dX12_nextOf_35 : decode cX12_nextOf 35 = .ok (.iload_n 3, 1) := by decide +kernel
theorem dX12_nextOf_36 : decode cX12_nextOf 36 = .ok (.ifCond .ne 22, 3) := by decide +kernel
theorem dX12_nextOf_39 : decode cX12_nextOf 39 = .ok (.aload_n 1, 1) := by decide +kernel
theorem dX12_nextOf_40 : decode cX12_nextOf 40 = .ok (.sipush 180, 3) := by decide +kernel
theorem dX12_nextOf_43 : decode cX12_nextOf 43 = .ok (.iaload, 1) := by decide +kernel
theorem dX12_nextOf_44 : decode cX12_nextOf 44 = .ok (.iload_n 2, 1) := by decide +kernel
theorem dX12_nextOf_45 : decode cX12_nextOf 45 = .ok (.aload_n 1, 1) := by decide +kernel
theorem dX12_nextOf_46 : decode cX12_nextOf 46 = .ok (.bipush 120, 2) := by decide +kernel
theorem dX12_nextOf_48 : decode cX12_nextOf 48 = .ok (.iload 4, 2) := by decide +kernel
theorem dX12_nextOf_50 : decode cX12_nextOf 50 = .ok (.iadd, 1) := by decide +kernel
theorem dX12_nextOf_51 : decode cX12_nextOf 51 = .ok (.iaload, 1) := by decide +kernel
theorem dX12_nextOf_52 : decode cX12_nextOf 52 = .ok (.invokestatic 251, 3) := by decide +kernel
theorem dX12_nextOf_55 : decode cX12_nextOf 55 = .ok (.ifCond .eq 6, 3) := by decide +kernel
theorem dX12_nextOf_58 : decode cX12_nextOf 58 = .ok (.iload 4, 2) := by decide +kernel
theorem dX12_nextOf_60 : decode cX12_nextOf 60 = .ok (.ireturn, 1) := by decide +kernel
theorem dX12_nextOf_61 : decode cX12_nextOf 61 = .ok (.iinc 4 1, 3) := by decide +kernel
theorem dX12_nextOf_64 : decode cX12_nextOf 64 = .ok (.goto (-61), 3) := by decide +kernel
theorem dX12_nextOf_67 : decode cX12_nextOf 67 = .ok (.iconst (-1), 1) := by decide +kernel
theorem dX12_nextOf_68 : decode cX12_nextOf 68 = .ok (.ireturn, 1) := by decide +kernel
theorem dX12_takesOne_0 : decode cX12_takesOne 0 = .ok (.aload_n 0, 1) := by decide +kernel
theorem dX12_takesOne_1 : decode cX12_takesOne 1 = .ok (.aload_n 1, 1) := by decide +kernel
theorem dX12_takesOne_2 : decode cX12_takesOne 2 = .ok (.iload_n 2, 1) := by decide +kernel
theorem dX12_takesOne_3 : decode cX12_takesOne 3 = .ok (.iload_n 3, 1) := by decide +kernel
theorem dX12_takesOne_4 : decode cX12_takesOne 4 = .ok (.invokevirtual 254, 3) := by decide +kernel
theorem dX12_takesOne_7 : decode cX12_takesOne 7 = .ok (.istore 4, 2) := by decide +kernel
theorem dX12_takesOne_9 : decode cX12_takesOne 9 = .ok (.iload 4, 2) := by decide +kernel
theorem dX12_takesOne_11 : decode cX12_takesOne 11 = .ok (.iconst (-1), 1) := by decide +kernel
theorem dX12_takesOne_12 : decode cX12_takesOne 12 = .ok (.if_icmp .ne 5, 3) := by decide +kernel
theorem dX12_takesOne_15 : decode cX12_takesOne 15 = .ok (.iconst 0, 1) := by decide +kernel
theorem dX12_takesOne_16 : decode cX12_takesOne 16 = .ok (.ireturn, 1) := by decide +kernel
theorem dX12_takesOne_17 : decode cX12_takesOne 17 = .ok (.aload_n 1, 1) := by decide +kernel
theorem dX12_takesOne_18 : decode cX12_takesOne 18 = .ok (.bipush 24, 2) := by decide +kernel
theorem dX12_takesOne_20 : decode cX12_takesOne 20 = .ok (.iload_n 2, 1) := by decide +kernel
theorem dX12_takesOne_21 : decode cX12_takesOne 21 = .ok (.iadd, 1) := by decide +kernel
theorem dX12_takesOne_22 : decode cX12_takesOne 22 = .ok (.dup2, 1) := by decide +kernel
theorem dX12_takesOne_23 : decode cX12_takesOne 23 = .ok (.iaload, 1) := by decide +kernel
theorem dX12_takesOne_24 : decode cX12_takesOne 24 = .ok (.iconst 1, 1) := by decide +kernel
theorem dX12_takesOne_25 : decode cX12_takesOne 25 = .ok (.iload 4, 2) := by decide +kernel
theorem dX12_takesOne_27 : decode cX12_takesOne 27 = .ok (.ishl, 1) := by decide +kernel
theorem dX12_takesOne_28 : decode cX12_takesOne 28 = .ok (.iconst (-1), 1) := by decide +kernel
theorem dX12_takesOne_29 : decode cX12_takesOne 29 = .ok (.ixor, 1) := by decide +kernel
theorem dX12_takesOne_30 : decode cX12_takesOne 30 = .ok (.iand, 1) := by decide +kernel
theorem dX12_takesOne_31 : decode cX12_takesOne 31 = .ok (.iastore, 1) := by decide +kernel
theorem dX12_takesOne_32 : decode cX12_takesOne 32 = .ok (.iload_n 3, 1) := by decide +kernel
theorem dX12_takesOne_33 : decode cX12_takesOne 33 = .ok (.ifCond .ne 10, 3) := by decide +kernel
theorem dX12_takesOne_36 : decode cX12_takesOne 36 = .ok (.aload_n 1, 1) := by decide +kernel
theorem dX12_takesOne_37 : decode cX12_takesOne 37 = .ok (.iload_n 2, 1) := by decide +kernel
theorem dX12_takesOne_38 : decode cX12_takesOne 38 = .ok (.iload 4, 2) := by decide +kernel
theorem dX12_takesOne_40 : decode cX12_takesOne 40 = .ok (.invokestatic 247, 3) := by decide +kernel
theorem dX12_takesOne_43 : decode cX12_takesOne 43 = .ok (.iconst 1, 1) := by decide +kernel
theorem dX12_takesOne_44 : decode cX12_takesOne 44 = .ok (.ireturn, 1) := by decide +kernel
theorem dX12_tellsOthers_0 : decode cX12_tellsOthers 0 = .ok (.aload_n 1, 1) := by decide +kernel
theorem dX12_tellsOthers_1 : decode cX12_tellsOthers 1 = .ok (.iload_n 2, 1) := by decide +kernel
theorem dX12_tellsOthers_2 : decode cX12_tellsOthers 2 = .ok (.invokestatic 243, 3) := by decide +kernel
theorem dX12_tellsOthers_5 : decode cX12_tellsOthers 5 = .ok (.ifCond .ne 5, 3) := by decide +kernel
theorem dX12_tellsOthers_8 : decode cX12_tellsOthers 8 = .ok (.iconst 0, 1) := by decide +kernel
theorem dX12_tellsOthers_9 : decode cX12_tellsOthers 9 = .ok (.ireturn, 1) := by decide +kernel
theorem dX12_tellsOthers_10 : decode cX12_tellsOthers 10 = .ok (.iconst 0, 1) := by decide +kernel
theorem dX12_tellsOthers_11 : decode cX12_tellsOthers 11 = .ok (.istore_n 3, 1) := by decide +kernel
theorem dX12_tellsOthers_12 : decode cX12_tellsOthers 12 = .ok (.iload_n 3, 1) := by decide +kernel
theorem dX12_tellsOthers_13 : decode cX12_tellsOthers 13 = .ok (.aload_n 0, 1) := by decide +kernel
theorem dX12_tellsOthers_14 : decode cX12_tellsOthers 14 = .ok (.getfield 23, 3) := by decide +kernel
theorem dX12_tellsOthers_17 : decode cX12_tellsOthers 17 = .ok (.iconst 0, 1) := by decide +kernel
theorem dX12_tellsOthers_18 : decode cX12_tellsOthers 18 = .ok (.iaload, 1) := by decide +kernel
theorem dX12_tellsOthers_19 : decode cX12_tellsOthers 19 = .ok (.if_icmp .ge 46, 3) := by decide +kernel
theorem dX12_tellsOthers_22 : decode cX12_tellsOthers 22 = .ok (.aload_n 1, 1) := by decide +kernel
theorem dX12_tellsOthers_23 : decode cX12_tellsOthers 23 = .ok (.iload_n 3, 1) := by decide +kernel
theorem dX12_tellsOthers_24 : decode cX12_tellsOthers 24 = .ok (.invokestatic 243, 3) := by decide +kernel
theorem dX12_tellsOthers_27 : decode cX12_tellsOthers 27 = .ok (.ifCond .eq 32, 3) := by decide +kernel
theorem dX12_tellsOthers_30 : decode cX12_tellsOthers 30 = .ok (.aload_n 1, 1) := by decide +kernel
theorem dX12_tellsOthers_31 : decode cX12_tellsOthers 31 = .ok (.sipush 180, 3) := by decide +kernel
theorem dX12_tellsOthers_34 : decode cX12_tellsOthers 34 = .ok (.iaload, 1) := by decide +kernel
theorem dX12_tellsOthers_35 : decode cX12_tellsOthers 35 = .ok (.iload_n 2, 1) := by decide +kernel
theorem dX12_tellsOthers_36 : decode cX12_tellsOthers 36 = .ok (.iload_n 3, 1) := by decide +kernel
theorem dX12_tellsOthers_37 : decode cX12_tellsOthers 37 = .ok (.invokestatic 251, 3) := by decide +kernel
theorem dX12_tellsOthers_40 : decode cX12_tellsOthers 40 = .ok (.ifCond .eq 19, 3) := by decide +kernel
theorem dX12_tellsOthers_43 : decode cX12_tellsOthers 43 = .ok (.aload_n 1, 1) := by decide +kernel
theorem dX12_tellsOthers_44 : decode cX12_tellsOthers 44 = .ok (.iload_n 3, 1) := by decide +kernel
theorem dX12_tellsOthers_45 : decode cX12_tellsOthers 45 = .ok (.iload_n 2, 1) := by decide +kernel
theorem dX12_tellsOthers_46 : decode cX12_tellsOthers 46 = .ok (.invokestatic 236, 3) := by decide +kernel
theorem dX12_tellsOthers_49 : decode cX12_tellsOthers 49 = .ok (.dup2, 1) := by decide +kernel
theorem dX12_tellsOthers_50 : decode cX12_tellsOthers 50 = .ok (.iaload, 1) := by decide +kernel
theorem dX12_tellsOthers_51 : decode cX12_tellsOthers 51 = .ok (.aload_n 1, 1) := by decide +kernel
theorem dX12_tellsOthers_52 : decode cX12_tellsOthers 52 = .ok (.bipush 12, 2) := by decide +kernel
theorem dX12_tellsOthers_54 : decode cX12_tellsOthers 54 = .ok (.iload_n 2, 1) := by decide +kernel
theorem dX12_tellsOthers_55 : decode cX12_tellsOthers 55 = .ok (.iadd, 1) := by decide +kernel
theorem dX12_tellsOthers_56 : decode cX12_tellsOthers 56 = .ok (.iaload, 1) := by decide +kernel
theorem dX12_tellsOthers_57 : decode cX12_tellsOthers 57 = .ok (.ior, 1) := by decide +kernel
theorem dX12_tellsOthers_58 : decode cX12_tellsOthers 58 = .ok (.iastore, 1) := by decide +kernel
theorem dX12_tellsOthers_59 : decode cX12_tellsOthers 59 = .ok (.iinc 3 1, 3) := by decide +kernel
theorem dX12_tellsOthers_62 : decode cX12_tellsOthers 62 = .ok (.goto (-50), 3) := by decide +kernel
theorem dX12_tellsOthers_65 : decode cX12_tellsOthers 65 = .ok (.iconst 1, 1) := by decide +kernel
theorem dX12_tellsOthers_66 : decode cX12_tellsOthers 66 = .ok (.ireturn, 1) := by decide +kernel
theorem dX12_stableBy_0 : decode cX12_stableBy 0 = .ok (.iconst 1, 1) := by decide +kernel
theorem dX12_stableBy_1 : decode cX12_stableBy 1 = .ok (.aload_n 1, 1) := by decide +kernel
theorem dX12_stableBy_2 : decode cX12_stableBy 2 = .ok (.sipush 187, 3) := by decide +kernel
theorem dX12_stableBy_5 : decode cX12_stableBy 5 = .ok (.iaload, 1) := by decide +kernel
theorem dX12_stableBy_6 : decode cX12_stableBy 6 = .ok (.ishl, 1) := by decide +kernel
theorem dX12_stableBy_7 : decode cX12_stableBy 7 = .ok (.iconst 1, 1) := by decide +kernel
theorem dX12_stableBy_8 : decode cX12_stableBy 8 = .ok (.isub, 1) := by decide +kernel
theorem dX12_stableBy_9 : decode cX12_stableBy 9 = .ok (.istore_n 3, 1) := by decide +kernel
theorem dX12_stableBy_10 : decode cX12_stableBy 10 = .ok (.iconst 0, 1) := by decide +kernel
theorem dX12_stableBy_11 : decode cX12_stableBy 11 = .ok (.istore 4, 2) := by decide +kernel
theorem dX12_stableBy_13 : decode cX12_stableBy 13 = .ok (.iload 4, 2) := by decide +kernel
theorem dX12_stableBy_15 : decode cX12_stableBy 15 = .ok (.aload_n 0, 1) := by decide +kernel
theorem dX12_stableBy_16 : decode cX12_stableBy 16 = .ok (.getfield 23, 3) := by decide +kernel
theorem dX12_stableBy_19 : decode cX12_stableBy 19 = .ok (.iconst 0, 1) := by decide +kernel
theorem dX12_stableBy_20 : decode cX12_stableBy 20 = .ok (.iaload, 1) := by decide +kernel
theorem dX12_stableBy_21 : decode cX12_stableBy 21 = .ok (.if_icmp .ge 37, 3) := by decide +kernel
theorem dX12_stableBy_24 : decode cX12_stableBy 24 = .ok (.iload_n 3, 1) := by decide +kernel
theorem dX12_stableBy_25 : decode cX12_stableBy 25 = .ok (.aload_n 1, 1) := by decide +kernel
theorem dX12_stableBy_26 : decode cX12_stableBy 26 = .ok (.sipush 182, 3) := by decide +kernel
theorem dX12_stableBy_29 : decode cX12_stableBy 29 = .ok (.iaload, 1) := by decide +kernel
theorem dX12_stableBy_30 : decode cX12_stableBy 30 = .ok (.iload 4, 2) := by decide +kernel
theorem dX12_stableBy_32 : decode cX12_stableBy 32 = .ok (.invokestatic 153, 3) := by decide +kernel
theorem dX12_stableBy_35 : decode cX12_stableBy 35 = .ok (.ifCond .eq 14, 3) := by decide +kernel
theorem dX12_stableBy_38 : decode cX12_stableBy 38 = .ok (.aload_n 1, 1) := by decide +kernel
theorem dX12_stableBy_39 : decode cX12_stableBy 39 = .ok (.iload_n 2, 1) := by decide +kernel
theorem dX12_stableBy_40 : decode cX12_stableBy 40 = .ok (.iload 4, 2) := by decide +kernel
theorem dX12_stableBy_42 : decode cX12_stableBy 42 = .ok (.invokestatic 236, 3) := by decide +kernel
theorem dX12_stableBy_45 : decode cX12_stableBy 45 = .ok (.iaload, 1) := by decide +kernel
theorem dX12_stableBy_46 : decode cX12_stableBy 46 = .ok (.goto 4, 3) := by decide +kernel
theorem dX12_stableBy_49 : decode cX12_stableBy 49 = .ok (.iload_n 3, 1) := by decide +kernel
theorem dX12_stableBy_50 : decode cX12_stableBy 50 = .ok (.iand, 1) := by decide +kernel
theorem dX12_stableBy_51 : decode cX12_stableBy 51 = .ok (.istore_n 3, 1) := by decide +kernel
theorem dX12_stableBy_52 : decode cX12_stableBy 52 = .ok (.iinc 4 1, 3) := by decide +kernel
theorem dX12_stableBy_55 : decode cX12_stableBy 55 = .ok (.goto (-42), 3) := by decide +kernel
theorem dX12_stableBy_58 : decode cX12_stableBy 58 = .ok (.iload_n 3, 1) := by decide +kernel
theorem dX12_stableBy_59 : decode cX12_stableBy 59 = .ok (.ireturn, 1) := by decide +kernel
theorem dX12_trims_0 : decode cX12_trims 0 = .ok (.aload_n 0, 1) := by decide +kernel
theorem dX12_trims_1 : decode cX12_trims 1 = .ok (.aload_n 1, 1) := by decide +kernel
theorem dX12_trims_2 : decode cX12_trims 2 = .ok (.iload_n 2, 1) := by decide +kernel
theorem dX12_trims_3 : decode cX12_trims 3 = .ok (.invokevirtual 258, 3) := by decide +kernel
theorem dX12_trims_6 : decode cX12_trims 6 = .ok (.aload_n 1, 1) := by decide +kernel
theorem dX12_trims_7 : decode cX12_trims 7 = .ok (.bipush 18, 2) := by decide +kernel
theorem dX12_trims_9 : decode cX12_trims 9 = .ok (.iload_n 2, 1) := by decide +kernel
theorem dX12_trims_10 : decode cX12_trims 10 = .ok (.iadd, 1) := by decide +kernel
theorem dX12_trims_11 : decode cX12_trims 11 = .ok (.iaload, 1) := by decide +kernel
theorem dX12_trims_12 : decode cX12_trims 12 = .ok (.iand, 1) := by decide +kernel
theorem dX12_trims_13 : decode cX12_trims 13 = .ok (.istore_n 3, 1) := by decide +kernel
theorem dX12_trims_14 : decode cX12_trims 14 = .ok (.aload_n 1, 1) := by decide +kernel
theorem dX12_trims_15 : decode cX12_trims 15 = .ok (.iload_n 2, 1) := by decide +kernel
theorem dX12_trims_16 : decode cX12_trims 16 = .ok (.invokestatic 243, 3) := by decide +kernel
theorem dX12_trims_19 : decode cX12_trims 19 = .ok (.ifCond .eq 7, 3) := by decide +kernel
theorem dX12_trims_22 : decode cX12_trims 22 = .ok (.iload_n 3, 1) := by decide +kernel
theorem dX12_trims_23 : decode cX12_trims 23 = .ok (.ifCond .ne 5, 3) := by decide +kernel
theorem dX12_trims_26 : decode cX12_trims 26 = .ok (.iconst 0, 1) := by decide +kernel
theorem dX12_trims_27 : decode cX12_trims 27 = .ok (.ireturn, 1) := by decide +kernel
theorem dX12_trims_28 : decode cX12_trims 28 = .ok (.aload_n 1, 1) := by decide +kernel
theorem dX12_trims_29 : decode cX12_trims 29 = .ok (.bipush 18, 2) := by decide +kernel
theorem dX12_trims_31 : decode cX12_trims 31 = .ok (.iload_n 2, 1) := by decide +kernel
theorem dX12_trims_32 : decode cX12_trims 32 = .ok (.iadd, 1) := by decide +kernel
theorem dX12_trims_33 : decode cX12_trims 33 = .ok (.dup2, 1) := by decide +kernel
theorem dX12_trims_34 : decode cX12_trims 34 = .ok (.iaload, 1) := by decide +kernel
theorem dX12_trims_35 : decode cX12_trims 35 = .ok (.iload_n 3, 1) := by decide +kernel
theorem dX12_trims_36 : decode cX12_trims 36 = .ok (.iconst (-1), 1) := by decide +kernel
theorem dX12_trims_37 : decode cX12_trims 37 = .ok (.ixor, 1) := by decide +kernel
theorem dX12_trims_38 : decode cX12_trims 38 = .ok (.iand, 1) := by decide +kernel
theorem dX12_trims_39 : decode cX12_trims 39 = .ok (.iastore, 1) := by decide +kernel
theorem dX12_trims_40 : decode cX12_trims 40 = .ok (.iconst 1, 1) := by decide +kernel
theorem dX12_trims_41 : decode cX12_trims 41 = .ok (.ireturn, 1) := by decide +kernel
theorem dX12_forgets_0 : decode cX12_forgets 0 = .ok (.aload_n 0, 1) := by decide +kernel
theorem dX12_forgets_1 : decode cX12_forgets 1 = .ok (.bipush 12, 2) := by decide +kernel
theorem dX12_forgets_3 : decode cX12_forgets 3 = .ok (.iload_n 1, 1) := by decide +kernel
theorem dX12_forgets_4 : decode cX12_forgets 4 = .ok (.iadd, 1) := by decide +kernel
theorem dX12_forgets_5 : decode cX12_forgets 5 = .ok (.iconst 0, 1) := by decide +kernel
theorem dX12_forgets_6 : decode cX12_forgets 6 = .ok (.iastore, 1) := by decide +kernel
theorem dX12_forgets_7 : decode cX12_forgets 7 = .ok (.aload_n 0, 1) := by decide +kernel
theorem dX12_forgets_8 : decode cX12_forgets 8 = .ok (.bipush 18, 2) := by decide +kernel
theorem dX12_forgets_10 : decode cX12_forgets 10 = .ok (.iload_n 1, 1) := by decide +kernel
theorem dX12_forgets_11 : decode cX12_forgets 11 = .ok (.iadd, 1) := by decide +kernel
theorem dX12_forgets_12 : decode cX12_forgets 12 = .ok (.iconst 0, 1) := by decide +kernel
theorem dX12_forgets_13 : decode cX12_forgets 13 = .ok (.iastore, 1) := by decide +kernel
theorem dX12_forgets_14 : decode cX12_forgets 14 = .ok (.aload_n 0, 1) := by decide +kernel
theorem dX12_forgets_15 : decode cX12_forgets 15 = .ok (.bipush 24, 2) := by decide +kernel
theorem dX12_forgets_17 : decode cX12_forgets 17 = .ok (.iload_n 1, 1) := by decide +kernel
theorem dX12_forgets_18 : decode cX12_forgets 18 = .ok (.iadd, 1) := by decide +kernel
theorem dX12_forgets_19 : decode cX12_forgets 19 = .ok (.iconst 0, 1) := by decide +kernel
theorem dX12_forgets_20 : decode cX12_forgets 20 = .ok (.iastore, 1) := by decide +kernel
theorem dX12_forgets_21 : decode cX12_forgets 21 = .ok (.iconst 0, 1) := by decide +kernel
theorem dX12_forgets_22 : decode cX12_forgets 22 = .ok (.istore_n 2, 1) := by decide +kernel
theorem dX12_forgets_23 : decode cX12_forgets 23 = .ok (.iload_n 2, 1) := by decide +kernel
theorem dX12_forgets_24 : decode cX12_forgets 24 = .ok (.bipush 6, 2) := by decide +kernel
theorem dX12_forgets_26 : decode cX12_forgets 26 = .ok (.if_icmp .ge 17, 3) := by decide +kernel
theorem dX12_forgets_29 : decode cX12_forgets 29 = .ok (.aload_n 0, 1) := by decide +kernel
theorem dX12_forgets_30 : decode cX12_forgets 30 = .ok (.iload_n 1, 1) := by decide +kernel
theorem dX12_forgets_31 : decode cX12_forgets 31 = .ok (.iload_n 2, 1) := by decide +kernel
theorem dX12_forgets_32 : decode cX12_forgets 32 = .ok (.invokestatic 236, 3) := by decide +kernel
theorem dX12_forgets_35 : decode cX12_forgets 35 = .ok (.iconst 0, 1) := by decide +kernel
theorem dX12_forgets_36 : decode cX12_forgets 36 = .ok (.iastore, 1) := by decide +kernel
theorem dX12_forgets_37 : decode cX12_forgets 37 = .ok (.iinc 2 1, 3) := by decide +kernel
theorem dX12_forgets_40 : decode cX12_forgets 40 = .ok (.goto (-17), 3) := by decide +kernel
theorem dX12_forgets_43 : decode cX12_forgets 43 = .ok (.return_, 1) := by decide +kernel
theorem dX12_crashes_0 : decode cX12_crashes 0 = .ok (.aload_n 0, 1) := by decide +kernel
theorem dX12_crashes_1 : decode cX12_crashes 1 = .ok (.sipush 184, 3) := by decide +kernel
theorem dX12_crashes_4 : decode cX12_crashes 4 = .ok (.iaload, 1) := by decide +kernel
theorem dX12_crashes_5 : decode cX12_crashes 5 = .ok (.iload_n 1, 1) := by decide +kernel
theorem dX12_crashes_6 : decode cX12_crashes 6 = .ok (.invokestatic 153, 3) := by decide +kernel
theorem dX12_crashes_9 : decode cX12_crashes 9 = .ok (.ifCond .ne 5, 3) := by decide +kernel
theorem dX12_crashes_12 : decode cX12_crashes 12 = .ok (.iconst 0, 1) := by decide +kernel
theorem dX12_crashes_13 : decode cX12_crashes 13 = .ok (.ireturn, 1) := by decide +kernel
theorem dX12_crashes_14 : decode cX12_crashes 14 = .ok (.iconst 1, 1) := by decide +kernel
theorem dX12_crashes_15 : decode cX12_crashes 15 = .ok (.iload_n 1, 1) := by decide +kernel
theorem dX12_crashes_16 : decode cX12_crashes 16 = .ok (.ishl, 1) := by decide +kernel
theorem dX12_crashes_17 : decode cX12_crashes 17 = .ok (.iconst (-1), 1) := by decide +kernel
theorem dX12_crashes_18 : decode cX12_crashes 18 = .ok (.ixor, 1) := by decide +kernel
theorem dX12_crashes_19 : decode cX12_crashes 19 = .ok (.istore_n 2, 1) := by decide +kernel
theorem dX12_crashes_20 : decode cX12_crashes 20 = .ok (.aload_n 0, 1) := by decide +kernel
theorem dX12_crashes_21 : decode cX12_crashes 21 = .ok (.sipush 184, 3) := by decide +kernel
theorem dX12_crashes_24 : decode cX12_crashes 24 = .ok (.dup2, 1) := by decide +kernel
theorem dX12_crashes_25 : decode cX12_crashes 25 = .ok (.iaload, 1) := by decide +kernel
theorem dX12_crashes_26 : decode cX12_crashes 26 = .ok (.iload_n 2, 1) := by decide +kernel
theorem dX12_crashes_27 : decode cX12_crashes 27 = .ok (.iand, 1) := by decide +kernel
theorem dX12_crashes_28 : decode cX12_crashes 28 = .ok (.iastore, 1) := by decide +kernel
theorem dX12_crashes_29 : decode cX12_crashes 29 = .ok (.aload_n 0, 1) := by decide +kernel
theorem dX12_crashes_30 : decode cX12_crashes 30 = .ok (.sipush 183, 3) := by decide +kernel
theorem dX12_crashes_33 : decode cX12_crashes 33 = .ok (.dup2, 1) := by decide +kernel
theorem dX12_crashes_34 : decode cX12_crashes 34 = .ok (.iaload, 1) := by decide +kernel
theorem dX12_crashes_35 : decode cX12_crashes 35 = .ok (.iload_n 2, 1) := by decide +kernel
theorem dX12_crashes_36 : decode cX12_crashes 36 = .ok (.iand, 1) := by decide +kernel
theorem dX12_crashes_37 : decode cX12_crashes 37 = .ok (.iastore, 1) := by decide +kernel
theorem dX12_crashes_38 : decode cX12_crashes 38 = .ok (.aload_n 0, 1) := by decide +kernel
theorem dX12_crashes_39 : decode cX12_crashes 39 = .ok (.sipush 185, 3) := by decide +kernel
theorem dX12_crashes_42 : decode cX12_crashes 42 = .ok (.dup2, 1) := by decide +kernel
theorem dX12_crashes_43 : decode cX12_crashes 43 = .ok (.iaload, 1) := by decide +kernel
theorem dX12_crashes_44 : decode cX12_crashes 44 = .ok (.iload_n 2, 1) := by decide +kernel
theorem dX12_crashes_45 : decode cX12_crashes 45 = .ok (.iand, 1) := by decide +kernel
theorem dX12_crashes_46 : decode cX12_crashes 46 = .ok (.iastore, 1) := by decide +kernel
theorem dX12_crashes_47 : decode cX12_crashes 47 = .ok (.aload_n 0, 1) := by decide +kernel
theorem dX12_crashes_48 : decode cX12_crashes 48 = .ok (.sipush 186, 3) := by decide +kernel
theorem dX12_crashes_51 : decode cX12_crashes 51 = .ok (.dup2, 1) := by decide +kernel
theorem dX12_crashes_52 : decode cX12_crashes 52 = .ok (.iaload, 1) := by decide +kernel
theorem dX12_crashes_53 : decode cX12_crashes 53 = .ok (.iload_n 2, 1) := by decide +kernel
theorem dX12_crashes_54 : decode cX12_crashes 54 = .ok (.iand, 1) := by decide +kernel
theorem dX12_crashes_55 : decode cX12_crashes 55 = .ok (.iastore, 1) := by decide +kernel
theorem dX12_crashes_56 : decode cX12_crashes 56 = .ok (.aload_n 0, 1) := by decide +kernel
theorem dX12_crashes_57 : decode cX12_crashes 57 = .ok (.bipush 30, 2) := by decide +kernel
theorem dX12_crashes_59 : decode cX12_crashes 59 = .ok (.iload_n 1, 1) := by decide +kernel
theorem dX12_crashes_60 : decode cX12_crashes 60 = .ok (.iadd, 1) := by decide +kernel
theorem dX12_crashes_61 : decode cX12_crashes 61 = .ok (.iconst 0, 1) := by decide +kernel
theorem dX12_crashes_62 : decode cX12_crashes 62 = .ok (.iastore, 1) := by decide +kernel
theorem dX12_crashes_63 : decode cX12_crashes 63 = .ok (.aload_n 0, 1) := by decide +kernel
theorem dX12_crashes_64 : decode cX12_crashes 64 = .ok (.iload_n 1, 1) := by decide +kernel
theorem dX12_crashes_65 : decode cX12_crashes 65 = .ok (.invokestatic 262, 3) := by decide +kernel
theorem dX12_crashes_68 : decode cX12_crashes 68 = .ok (.iconst 1, 1) := by decide +kernel
theorem dX12_crashes_69 : decode cX12_crashes 69 = .ok (.ireturn, 1) := by decide +kernel
theorem dX12_joins_0 : decode cX12_joins 0 = .ok (.aload_n 0, 1) := by decide +kernel
theorem dX12_joins_1 : decode cX12_joins 1 = .ok (.iload_n 1, 1) := by decide +kernel
theorem dX12_joins_2 : decode cX12_joins 2 = .ok (.invokestatic 243, 3) := by decide +kernel
theorem dX12_joins_5 : decode cX12_joins 5 = .ok (.ifCond .ne 15, 3) := by decide +kernel
theorem dX12_joins_8 : decode cX12_joins 8 = .ok (.aload_n 0, 1) := by decide +kernel
theorem dX12_joins_9 : decode cX12_joins 9 = .ok (.sipush 186, 3) := by decide +kernel
theorem dX12_joins_12 : decode cX12_joins 12 = .ok (.iaload, 1) := by decide +kernel
theorem dX12_joins_13 : decode cX12_joins 13 = .ok (.iload_n 1, 1) := by decide +kernel
theorem dX12_joins_14 : decode cX12_joins 14 = .ok (.invokestatic 153, 3) := by decide +kernel
theorem dX12_joins_17 : decode cX12_joins 17 = .ok (.ifCond .eq 5, 3) := by decide +kernel
theorem dX12_joins_20 : decode cX12_joins 20 = .ok (.iconst 0, 1) := by decide +kernel
theorem dX12_joins_21 : decode cX12_joins 21 = .ok (.ireturn, 1) := by decide +kernel
theorem dX12_joins_22 : decode cX12_joins 22 = .ok (.aload_n 0, 1) := by decide +kernel
theorem dX12_joins_23 : decode cX12_joins 23 = .ok (.sipush 184, 3) := by decide +kernel
theorem dX12_joins_26 : decode cX12_joins 26 = .ok (.dup2, 1) := by decide +kernel
theorem dX12_joins_27 : decode cX12_joins 27 = .ok (.iaload, 1) := by decide +kernel
theorem dX12_joins_28 : decode cX12_joins 28 = .ok (.iconst 1, 1) := by decide +kernel
theorem dX12_joins_29 : decode cX12_joins 29 = .ok (.iload_n 1, 1) := by decide +kernel
theorem dX12_joins_30 : decode cX12_joins 30 = .ok (.ishl, 1) := by decide +kernel
theorem dX12_joins_31 : decode cX12_joins 31 = .ok (.ior, 1) := by decide +kernel
theorem dX12_joins_32 : decode cX12_joins 32 = .ok (.iastore, 1) := by decide +kernel
theorem dX12_joins_33 : decode cX12_joins 33 = .ok (.aload_n 0, 1) := by decide +kernel
theorem dX12_joins_34 : decode cX12_joins 34 = .ok (.sipush 186, 3) := by decide +kernel
theorem dX12_joins_37 : decode cX12_joins 37 = .ok (.dup2, 1) := by decide +kernel
theorem dX12_joins_38 : decode cX12_joins 38 = .ok (.iaload, 1) := by decide +kernel
theorem dX12_joins_39 : decode cX12_joins 39 = .ok (.iconst 1, 1) := by decide +kernel
theorem dX12_joins_40 : decode cX12_joins 40 = .ok (.iload_n 1, 1) := by decide +kernel
theorem dX12_joins_41 : decode cX12_joins 41 = .ok (.ishl, 1) := by decide +kernel
theorem dX12_joins_42 : decode cX12_joins 42 = .ok (.ior, 1) := by decide +kernel
theorem dX12_joins_43 : decode cX12_joins 43 = .ok (.iastore, 1) := by decide +kernel
theorem dX12_joins_44 : decode cX12_joins 44 = .ok (.iconst 1, 1) := by decide +kernel
theorem dX12_joins_45 : decode cX12_joins 45 = .ok (.ireturn, 1) := by decide +kernel
theorem dX12_weightBy_0 : decode cX12_weightBy 0 = .ok (.aload_n 0, 1) := by decide +kernel
theorem dX12_weightBy_1 : decode cX12_weightBy 1 = .ok (.getfield 43, 3) := by decide +kernel
theorem dX12_weightBy_4 : decode cX12_weightBy 4 = .ok (.iconst 0, 1) := by decide +kernel
theorem dX12_weightBy_5 : decode cX12_weightBy 5 = .ok (.iload_n 1, 1) := by decide +kernel
theorem dX12_weightBy_6 : decode cX12_weightBy 6 = .ok (.iastore, 1) := by decide +kernel
theorem dX12_weightBy_7 : decode cX12_weightBy 7 = .ok (.aload_n 0, 1) := by decide +kernel
theorem dX12_weightBy_8 : decode cX12_weightBy 8 = .ok (.getfield 43, 3) := by decide +kernel
theorem dX12_weightBy_11 : decode cX12_weightBy 11 = .ok (.iconst 1, 1) := by decide +kernel
theorem dX12_weightBy_12 : decode cX12_weightBy 12 = .ok (.iload_n 2, 1) := by decide +kernel
theorem dX12_weightBy_13 : decode cX12_weightBy 13 = .ok (.iastore, 1) := by decide +kernel
theorem dX12_weightBy_14 : decode cX12_weightBy 14 = .ok (.aload_n 0, 1) := by decide +kernel
theorem dX12_weightBy_15 : decode cX12_weightBy 15 = .ok (.getfield 43, 3) := by decide +kernel
theorem dX12_weightBy_18 : decode cX12_weightBy 18 = .ok (.iconst 2, 1) := by decide +kernel
theorem dX12_weightBy_19 : decode cX12_weightBy 19 = .ok (.iload_n 3, 1) := by decide +kernel
theorem dX12_weightBy_20 : decode cX12_weightBy 20 = .ok (.iastore, 1) := by decide +kernel
theorem dX12_weightBy_21 : decode cX12_weightBy 21 = .ok (.aload_n 0, 1) := by decide +kernel
theorem dX12_weightBy_22 : decode cX12_weightBy 22 = .ok (.getfield 43, 3) := by decide +kernel
theorem dX12_weightBy_25 : decode cX12_weightBy 25 = .ok (.iconst 3, 1) := by decide +kernel
theorem dX12_weightBy_26 : decode cX12_weightBy 26 = .ok (.iload 4, 2) := by decide +kernel
theorem dX12_weightBy_28 : decode cX12_weightBy 28 = .ok (.iastore, 1) := by decide +kernel
theorem dX12_weightBy_29 : decode cX12_weightBy 29 = .ok (.aload_n 0, 1) := by decide +kernel
theorem dX12_weightBy_30 : decode cX12_weightBy 30 = .ok (.invokevirtual 265, 3) := by decide +kernel
theorem dX12_weightBy_33 : decode cX12_weightBy 33 = .ok (.ireturn, 1) := by decide +kernel
theorem dX12_weight_0 : decode cX12_weight 0 = .ok (.aload_n 0, 1) := by decide +kernel
theorem dX12_weight_1 : decode cX12_weight 1 = .ok (.iload_n 2, 1) := by decide +kernel
theorem dX12_weight_2 : decode cX12_weight 2 = .ok (.aload_n 1, 1) := by decide +kernel
theorem dX12_weight_3 : decode cX12_weight 3 = .ok (.iconst 0, 1) := by decide +kernel
theorem dX12_weight_4 : decode cX12_weight 4 = .ok (.iload_n 2, 1) := by decide +kernel
theorem dX12_weight_5 : decode cX12_weight 5 = .ok (.iadd, 1) := by decide +kernel
theorem dX12_weight_6 : decode cX12_weight 6 = .ok (.iaload, 1) := by decide +kernel
theorem dX12_weight_7 : decode cX12_weight 7 = .ok (.aload_n 1, 1) := by decide +kernel
theorem dX12_weight_8 : decode cX12_weight 8 = .ok (.sipush 181, 3) := by decide +kernel
theorem dX12_weight_11 : decode cX12_weight 11 = .ok (.iaload, 1) := by decide +kernel
theorem dX12_weight_12 : decode cX12_weight 12 = .ok (.aload_n 1, 1) := by decide +kernel
theorem dX12_weight_13 : decode cX12_weight 13 = .ok (.sipush 182, 3) := by decide +kernel
theorem dX12_weight_16 : decode cX12_weight 16 = .ok (.iaload, 1) := by decide +kernel
theorem dX12_weight_17 : decode cX12_weight 17 = .ok (.invokestatic 268, 3) := by decide +kernel
theorem dX12_weight_20 : decode cX12_weight 20 = .ok (.invokevirtual 271, 3) := by decide +kernel
theorem dX12_weight_23 : decode cX12_weight 23 = .ok (.ireturn, 1) := by decide +kernel
theorem dX12_weigh_0 : decode cX12_weigh 0 = .ok (.iconst 0, 1) := by decide +kernel
theorem dX12_weigh_1 : decode cX12_weigh 1 = .ok (.istore_n 3, 1) := by decide +kernel
theorem dX12_weigh_2 : decode cX12_weigh 2 = .ok (.iconst 0, 1) := by decide +kernel
theorem dX12_weigh_3 : decode cX12_weigh 3 = .ok (.istore 4, 2) := by decide +kernel
theorem dX12_weigh_5 : decode cX12_weigh 5 = .ok (.iload 4, 2) := by decide +kernel
theorem dX12_weigh_7 : decode cX12_weigh 7 = .ok (.aload_n 0, 1) := by decide +kernel
theorem dX12_weigh_8 : decode cX12_weigh 8 = .ok (.getfield 23, 3) := by decide +kernel
theorem dX12_weigh_11 : decode cX12_weigh 11 = .ok (.iconst 0, 1) := by decide +kernel
theorem dX12_weigh_12 : decode cX12_weigh 12 = .ok (.iaload, 1) := by decide +kernel
theorem dX12_weigh_13 : decode cX12_weigh 13 = .ok (.if_icmp .ge 32, 3) := by decide +kernel
theorem dX12_weigh_16 : decode cX12_weigh 16 = .ok (.iload_n 3, 1) := by decide +kernel
theorem dX12_weigh_17 : decode cX12_weigh 17 = .ok (.iload_n 2, 1) := by decide +kernel
theorem dX12_weigh_18 : decode cX12_weigh 18 = .ok (.iload 4, 2) := by decide +kernel
theorem dX12_weigh_20 : decode cX12_weigh 20 = .ok (.invokestatic 153, 3) := by decide +kernel
theorem dX12_weigh_23 : decode cX12_weigh 23 = .ok (.ifCond .eq 13, 3) := by decide +kernel
theorem dX12_weigh_26 : decode cX12_weigh 26 = .ok (.aload_n 0, 1) := by decide +kernel
theorem dX12_weigh_27 : decode cX12_weigh 27 = .ok (.aload_n 1, 1) := by decide +kernel
theorem dX12_weigh_28 : decode cX12_weigh 28 = .ok (.iload 4, 2) := by decide +kernel
theorem dX12_weigh_30 : decode cX12_weigh 30 = .ok (.invokevirtual 275, 3) := by decide +kernel
theorem dX12_weigh_33 : decode cX12_weigh 33 = .ok (.goto 4, 3) := by decide +kernel
theorem dX12_weigh_36 : decode cX12_weigh 36 = .ok (.iconst 0, 1) := by decide +kernel
theorem dX12_weigh_37 : decode cX12_weigh 37 = .ok (.iadd, 1) := by decide +kernel
theorem dX12_weigh_38 : decode cX12_weigh 38 = .ok (.istore_n 3, 1) := by decide +kernel
theorem dX12_weigh_39 : decode cX12_weigh 39 = .ok (.iinc 4 1, 3) := by decide +kernel
theorem dX12_weigh_42 : decode cX12_weigh 42 = .ok (.goto (-37), 3) := by decide +kernel
theorem dX12_weigh_45 : decode cX12_weigh 45 = .ok (.iload_n 3, 1) := by decide +kernel
theorem dX12_weigh_46 : decode cX12_weigh 46 = .ok (.ireturn, 1) := by decide +kernel
theorem dX12_primaryBy_0 : decode cX12_primaryBy 0 = .ok (.iconst 1, 1) := by decide +kernel
theorem dX12_primaryBy_1 : decode cX12_primaryBy 1 = .ok (.aload_n 0, 1) := by decide +kernel
theorem dX12_primaryBy_2 : decode cX12_primaryBy 2 = .ok (.getfield 23, 3) := by decide +kernel
theorem dX12_primaryBy_5 : decode cX12_primaryBy 5 = .ok (.iconst 0, 1) := by decide +kernel
theorem dX12_primaryBy_6 : decode cX12_primaryBy 6 = .ok (.iaload, 1) := by decide +kernel
theorem dX12_primaryBy_7 : decode cX12_primaryBy 7 = .ok (.ishl, 1) := by decide +kernel
theorem dX12_primaryBy_8 : decode cX12_primaryBy 8 = .ok (.iconst 1, 1) := by decide +kernel
theorem dX12_primaryBy_9 : decode cX12_primaryBy 9 = .ok (.isub, 1) := by decide +kernel
theorem dX12_primaryBy_10 : decode cX12_primaryBy 10 = .ok (.istore 4, 2) := by decide +kernel
theorem dX12_primaryBy_12 : decode cX12_primaryBy 12 = .ok (.aload_n 0, 1) := by decide +kernel
theorem dX12_primaryBy_13 : decode cX12_primaryBy 13 = .ok (.aload_n 1, 1) := by decide +kernel
theorem dX12_primaryBy_14 : decode cX12_primaryBy 14 = .ok (.aload_n 1, 1) := by decide +kernel
theorem dX12_primaryBy_15 : decode cX12_primaryBy 15 = .ok (.sipush 182, 3) := by decide +kernel
theorem dX12_primaryBy_18 : decode cX12_primaryBy 18 = .ok (.iaload, 1) := by decide +kernel
theorem dX12_primaryBy_19 : decode cX12_primaryBy 19 = .ok (.invokevirtual 278, 3) := by decide +kernel
theorem dX12_primaryBy_22 : decode cX12_primaryBy 22 = .ok (.istore 5, 2) := by decide +kernel
theorem dX12_primaryBy_24 : decode cX12_primaryBy 24 = .ok (.iconst 0, 1) := by decide +kernel
theorem dX12_primaryBy_25 : decode cX12_primaryBy 25 = .ok (.istore 6, 2) := by decide +kernel
theorem dX12_primaryBy_27 : decode cX12_primaryBy 27 = .ok (.iload 6, 2) := by decide +kernel
theorem dX12_primaryBy_29 : decode cX12_primaryBy 29 = .ok (.iconst 2, 1) := by decide +kernel
theorem dX12_primaryBy_30 : decode cX12_primaryBy 30 = .ok (.if_icmp .ge 62, 3) := by decide +kernel
theorem dX12_primaryBy_33 : decode cX12_primaryBy 33 = .ok (.iload 6, 2) := by decide +kernel
theorem dX12_primaryBy_35 : decode cX12_primaryBy 35 = .ok (.ifCond .ne 10, 3) := by decide +kernel
theorem dX12_primaryBy_38 : decode cX12_primaryBy 38 = .ok (.iload_n 2, 1) := by decide +kernel
theorem dX12_primaryBy_39 : decode cX12_primaryBy 39 = .ok (.iload 4, 2) := by decide +kernel
theorem dX12_primaryBy_41 : decode cX12_primaryBy 41 = .ok (.iand, 1) := by decide +kernel
theorem dX12_primaryBy_42 : decode cX12_primaryBy 42 = .ok (.goto 9, 3) := by decide +kernel
theorem dX12_primaryBy_45 : decode cX12_primaryBy 45 = .ok (.iload 4, 2) := by decide +kernel
theorem dX12_primaryBy_47 : decode cX12_primaryBy 47 = .ok (.iload_n 2, 1) := by decide +kernel
theorem dX12_primaryBy_48 : decode cX12_primaryBy 48 = .ok (.iconst (-1), 1) := by decide +kernel
theorem dX12_primaryBy_49 : decode cX12_primaryBy 49 = .ok (.ixor, 1) := by decide +kernel
theorem dX12_primaryBy_50 : decode cX12_primaryBy 50 = .ok (.iand, 1) := by decide +kernel
theorem dX12_primaryBy_51 : decode cX12_primaryBy 51 = .ok (.istore 7, 2) := by decide +kernel
theorem dX12_primaryBy_53 : decode cX12_primaryBy 53 = .ok (.iconst 2, 1) := by decide +kernel
theorem dX12_primaryBy_54 : decode cX12_primaryBy 54 = .ok (.aload_n 0, 1) := by decide +kernel
theorem dX12_primaryBy_55 : decode cX12_primaryBy 55 = .ok (.aload_n 1, 1) := by decide +kernel
theorem dX12_primaryBy_56 : decode cX12_primaryBy 56 = .ok (.iload 7, 2) := by decide +kernel
theorem dX12_primaryBy_58 : decode cX12_primaryBy 58 = .ok (.iload_n 3, 1) := by decide +kernel
theorem dX12_primaryBy_59 : decode cX12_primaryBy 59 = .ok (.iand, 1) := by decide +kernel
theorem dX12_primaryBy_60 : decode cX12_primaryBy 60 = .ok (.invokevirtual 278, 3) := by decide +kernel
theorem dX12_primaryBy_63 : decode cX12_primaryBy 63 = .ok (.imul, 1) := by decide +kernel
theorem dX12_primaryBy_64 : decode cX12_primaryBy 64 = .ok (.iload 5, 2) := by decide +kernel
theorem dX12_primaryBy_66 : decode cX12_primaryBy 66 = .ok (.if_icmp .le 20, 3) := by decide +kernel
theorem dX12_primaryBy_69 : decode cX12_primaryBy 69 = .ok (.iload 7, 2) := by decide +kernel
theorem dX12_primaryBy_71 : decode cX12_primaryBy 71 = .ok (.iload_n 3, 1) := by decide +kernel
theorem dX12_primaryBy_72 : decode cX12_primaryBy 72 = .ok (.aload_n 1, 1) := by decide +kernel
theorem dX12_primaryBy_73 : decode cX12_primaryBy 73 = .ok (.sipush 184, 3) := by decide +kernel
theorem dX12_primaryBy_76 : decode cX12_primaryBy 76 = .ok (.iaload, 1) := by decide +kernel
theorem dX12_primaryBy_77 : decode cX12_primaryBy 77 = .ok (.aload_n 1, 1) := by decide +kernel
theorem dX12_primaryBy_78 : decode cX12_primaryBy 78 = .ok (.sipush 186, 3) := by decide +kernel
theorem dX12_primaryBy_81 : decode cX12_primaryBy 81 = .ok (.iaload, 1) := by decide +kernel
theorem dX12_primaryBy_82 : decode cX12_primaryBy 82 = .ok (.iand, 1) := by decide +kernel
theorem dX12_primaryBy_83 : decode cX12_primaryBy 83 = .ok (.ior, 1) := by decide +kernel
theorem dX12_primaryBy_84 : decode cX12_primaryBy 84 = .ok (.iand, 1) := by decide +kernel
theorem dX12_primaryBy_85 : decode cX12_primaryBy 85 = .ok (.ireturn, 1) := by decide +kernel
theorem dX12_primaryBy_86 : decode cX12_primaryBy 86 = .ok (.iinc 6 1, 3) := by decide +kernel
theorem dX12_primaryBy_89 : decode cX12_primaryBy 89 = .ok (.goto (-62), 3) := by decide +kernel
theorem dX12_primaryBy_92 : decode cX12_primaryBy 92 = .ok (.iconst (-1), 1) := by decide +kernel
theorem dX12_primaryBy_93 : decode cX12_primaryBy 93 = .ok (.ireturn, 1) := by decide +kernel
theorem dX12_primaryOf_0 : decode cX12_primaryOf 0 = .ok (.aload_n 0, 1) := by decide +kernel
theorem dX12_primaryOf_1 : decode cX12_primaryOf 1 = .ok (.aload_n 1, 1) := by decide +kernel
theorem dX12_primaryOf_2 : decode cX12_primaryOf 2 = .ok (.aload_n 1, 1) := by decide +kernel
theorem dX12_primaryOf_3 : decode cX12_primaryOf 3 = .ok (.sipush 180, 3) := by decide +kernel
theorem dX12_primaryOf_6 : decode cX12_primaryOf 6 = .ok (.iaload, 1) := by decide +kernel
theorem dX12_primaryOf_7 : decode cX12_primaryOf 7 = .ok (.aload_n 1, 1) := by decide +kernel
theorem dX12_primaryOf_8 : decode cX12_primaryOf 8 = .ok (.sipush 184, 3) := by decide +kernel
theorem dX12_primaryOf_11 : decode cX12_primaryOf 11 = .ok (.iaload, 1) := by decide +kernel
theorem dX12_primaryOf_12 : decode cX12_primaryOf 12 = .ok (.aload_n 1, 1) := by decide +kernel
theorem dX12_primaryOf_13 : decode cX12_primaryOf 13 = .ok (.sipush 183, 3) := by decide +kernel
theorem dX12_primaryOf_16 : decode cX12_primaryOf 16 = .ok (.iaload, 1) := by decide +kernel
theorem dX12_primaryOf_17 : decode cX12_primaryOf 17 = .ok (.iand, 1) := by decide +kernel
theorem dX12_primaryOf_18 : decode cX12_primaryOf 18 = .ok (.invokevirtual 281, 3) := by decide +kernel
theorem dX12_primaryOf_21 : decode cX12_primaryOf 21 = .ok (.ireturn, 1) := by decide +kernel
theorem dX12_survivors_0 : decode cX12_survivors 0 = .ok (.aload_n 0, 1) := by decide +kernel
theorem dX12_survivors_1 : decode cX12_survivors 1 = .ok (.aload_n 1, 1) := by decide +kernel
theorem dX12_survivors_2 : decode cX12_survivors 2 = .ok (.invokevirtual 285, 3) := by decide +kernel
theorem dX12_survivors_5 : decode cX12_survivors 5 = .ok (.istore_n 2, 1) := by decide +kernel
theorem dX12_survivors_6 : decode cX12_survivors 6 = .ok (.iload_n 2, 1) := by decide +kernel
theorem dX12_survivors_7 : decode cX12_survivors 7 = .ok (.iconst (-1), 1) := by decide +kernel
theorem dX12_survivors_8 : decode cX12_survivors 8 = .ok (.if_icmp .ne 7, 3) := by decide +kernel
theorem dX12_survivors_11 : decode cX12_survivors 11 = .ok (.iconst 0, 1) := by decide +kernel
theorem dX12_survivors_12 : decode cX12_survivors 12 = .ok (.goto 10, 3) := by decide +kernel
theorem dX12_survivors_15 : decode cX12_survivors 15 = .ok (.iload_n 2, 1) := by decide +kernel
theorem dX12_survivors_16 : decode cX12_survivors 16 = .ok (.aload_n 1, 1) := by decide +kernel
theorem dX12_survivors_17 : decode cX12_survivors 17 = .ok (.sipush 183, 3) := by decide +kernel
theorem dX12_survivors_20 : decode cX12_survivors 20 = .ok (.iaload, 1) := by decide +kernel
theorem dX12_survivors_21 : decode cX12_survivors 21 = .ok (.iand, 1) := by decide +kernel
theorem dX12_survivors_22 : decode cX12_survivors 22 = .ok (.ireturn, 1) := by decide +kernel
theorem dX12_keptBy_0 : decode cX12_keptBy 0 = .ok (.iconst 0, 1) := by decide +kernel
theorem dX12_keptBy_1 : decode cX12_keptBy 1 = .ok (.istore_n 3, 1) := by decide +kernel
theorem dX12_keptBy_2 : decode cX12_keptBy 2 = .ok (.iconst 0, 1) := by decide +kernel
theorem dX12_keptBy_3 : decode cX12_keptBy 3 = .ok (.istore 4, 2) := by decide +kernel
theorem dX12_keptBy_5 : decode cX12_keptBy 5 = .ok (.iload 4, 2) := by decide +kernel
theorem dX12_keptBy_7 : decode cX12_keptBy 7 = .ok (.aload_n 0, 1) := by decide +kernel
theorem dX12_keptBy_8 : decode cX12_keptBy 8 = .ok (.getfield 23, 3) := by decide +kernel
theorem dX12_keptBy_11 : decode cX12_keptBy 11 = .ok (.iconst 0, 1) := by decide +kernel
theorem dX12_keptBy_12 : decode cX12_keptBy 12 = .ok (.iaload, 1) := by decide +kernel
theorem dX12_keptBy_13 : decode cX12_keptBy 13 = .ok (.if_icmp .ge 32, 3) := by decide +kernel
theorem dX12_keptBy_16 : decode cX12_keptBy 16 = .ok (.iload_n 3, 1) := by decide +kernel
theorem dX12_keptBy_17 : decode cX12_keptBy 17 = .ok (.iload_n 2, 1) := by decide +kernel
theorem dX12_keptBy_18 : decode cX12_keptBy 18 = .ok (.iload 4, 2) := by decide +kernel
theorem dX12_keptBy_20 : decode cX12_keptBy 20 = .ok (.invokestatic 153, 3) := by decide +kernel
theorem dX12_keptBy_23 : decode cX12_keptBy 23 = .ok (.ifCond .eq 13, 3) := by decide +kernel
theorem dX12_keptBy_26 : decode cX12_keptBy 26 = .ok (.aload_n 1, 1) := by decide +kernel
theorem dX12_keptBy_27 : decode cX12_keptBy 27 = .ok (.bipush 18, 2) := by decide +kernel
theorem dX12_keptBy_29 : decode cX12_keptBy 29 = .ok (.iload 4, 2) := by decide +kernel
theorem dX12_keptBy_31 : decode cX12_keptBy 31 = .ok (.iadd, 1) := by decide +kernel
theorem dX12_keptBy_32 : decode cX12_keptBy 32 = .ok (.iaload, 1) := by decide +kernel
theorem dX12_keptBy_33 : decode cX12_keptBy 33 = .ok (.goto 4, 3) := by decide +kernel
theorem dX12_keptBy_36 : decode cX12_keptBy 36 = .ok (.iconst 0, 1) := by decide +kernel
theorem dX12_keptBy_37 : decode cX12_keptBy 37 = .ok (.ior, 1) := by decide +kernel
theorem dX12_keptBy_38 : decode cX12_keptBy 38 = .ok (.istore_n 3, 1) := by decide +kernel
theorem dX12_keptBy_39 : decode cX12_keptBy 39 = .ok (.iinc 4 1, 3) := by decide +kernel
theorem dX12_keptBy_42 : decode cX12_keptBy 42 = .ok (.goto (-37), 3) := by decide +kernel
theorem dX12_keptBy_45 : decode cX12_keptBy 45 = .ok (.iload_n 3, 1) := by decide +kernel
theorem dX12_keptBy_46 : decode cX12_keptBy 46 = .ok (.ireturn, 1) := by decide +kernel
theorem dX12_missingOf_0 : decode cX12_missingOf 0 = .ok (.aload_n 0, 1) := by decide +kernel
theorem dX12_missingOf_1 : decode cX12_missingOf 1 = .ok (.aload_n 1, 1) := by decide +kernel
theorem dX12_missingOf_2 : decode cX12_missingOf 2 = .ok (.invokevirtual 289, 3) := by decide +kernel
theorem dX12_missingOf_5 : decode cX12_missingOf 5 = .ok (.istore_n 3, 1) := by decide +kernel
theorem dX12_missingOf_6 : decode cX12_missingOf 6 = .ok (.iload_n 3, 1) := by decide +kernel
theorem dX12_missingOf_7 : decode cX12_missingOf 7 = .ok (.iload_n 2, 1) := by decide +kernel
theorem dX12_missingOf_8 : decode cX12_missingOf 8 = .ok (.invokestatic 153, 3) := by decide +kernel
theorem dX12_missingOf_11 : decode cX12_missingOf 11 = .ok (.ifCond .eq 21, 3) := by decide +kernel
theorem dX12_missingOf_14 : decode cX12_missingOf 14 = .ok (.aload_n 0, 1) := by decide +kernel
theorem dX12_missingOf_15 : decode cX12_missingOf 15 = .ok (.aload_n 1, 1) := by decide +kernel
theorem dX12_missingOf_16 : decode cX12_missingOf 16 = .ok (.iload_n 3, 1) := by decide +kernel
theorem dX12_missingOf_17 : decode cX12_missingOf 17 = .ok (.invokevirtual 292, 3) := by decide +kernel
theorem dX12_missingOf_20 : decode cX12_missingOf 20 = .ok (.aload_n 1, 1) := by decide +kernel
theorem dX12_missingOf_21 : decode cX12_missingOf 21 = .ok (.bipush 12, 2) := by decide +kernel
theorem dX12_missingOf_23 : decode cX12_missingOf 23 = .ok (.iload_n 2, 1) := by decide +kernel
theorem dX12_missingOf_24 : decode cX12_missingOf 24 = .ok (.iadd, 1) := by decide +kernel
theorem dX12_missingOf_25 : decode cX12_missingOf 25 = .ok (.iaload, 1) := by decide +kernel
theorem dX12_missingOf_26 : decode cX12_missingOf 26 = .ok (.iconst (-1), 1) := by decide +kernel
theorem dX12_missingOf_27 : decode cX12_missingOf 27 = .ok (.ixor, 1) := by decide +kernel
theorem dX12_missingOf_28 : decode cX12_missingOf 28 = .ok (.iand, 1) := by decide +kernel
theorem dX12_missingOf_29 : decode cX12_missingOf 29 = .ok (.goto 4, 3) := by decide +kernel
theorem dX12_missingOf_32 : decode cX12_missingOf 32 = .ok (.iconst 0, 1) := by decide +kernel
theorem dX12_missingOf_33 : decode cX12_missingOf 33 = .ok (.ireturn, 1) := by decide +kernel
theorem dX12_flushes_0 : decode cX12_flushes 0 = .ok (.aload_n 0, 1) := by decide +kernel
theorem dX12_flushes_1 : decode cX12_flushes 1 = .ok (.aload_n 1, 1) := by decide +kernel
theorem dX12_flushes_2 : decode cX12_flushes 2 = .ok (.iload_n 2, 1) := by decide +kernel
theorem dX12_flushes_3 : decode cX12_flushes 3 = .ok (.invokevirtual 292, 3) := by decide +kernel
theorem dX12_flushes_6 : decode cX12_flushes 6 = .ok (.istore_n 3, 1) := by decide +kernel
theorem dX12_flushes_7 : decode cX12_flushes 7 = .ok (.iconst 0, 1) := by decide +kernel
theorem dX12_flushes_8 : decode cX12_flushes 8 = .ok (.istore 4, 2) := by decide +kernel
theorem dX12_flushes_10 : decode cX12_flushes 10 = .ok (.iload 4, 2) := by decide +kernel
theorem dX12_flushes_12 : decode cX12_flushes 12 = .ok (.aload_n 0, 1) := by decide +kernel
theorem dX12_flushes_13 : decode cX12_flushes 13 = .ok (.getfield 23, 3) := by decide +kernel
theorem dX12_flushes_16 : decode cX12_flushes 16 = .ok (.iconst 0, 1) := by decide +kernel
theorem dX12_flushes_17 : decode cX12_flushes 17 = .ok (.iaload, 1) := by decide +kernel
theorem dX12_flushes_18 : decode cX12_flushes 18 = .ok (.if_icmp .ge 69, 3) := by decide +kernel
theorem dX12_flushes_21 : decode cX12_flushes 21 = .ok (.iconst 0, 1) := by decide +kernel
theorem dX12_flushes_22 : decode cX12_flushes 22 = .ok (.istore 5, 2) := by decide +kernel
theorem dX12_flushes_24 : decode cX12_flushes 24 = .ok (.iload 5, 2) := by decide +kernel
theorem dX12_flushes_26 : decode cX12_flushes 26 = .ok (.aload_n 1, 1) := by decide +kernel
theorem dX12_flushes_27 : decode cX12_flushes 27 = .ok (.sipush 187, 3) := by decide +kernel
theorem dX12_flushes_30 : decode cX12_flushes 30 = .ok (.iaload, 1) := by decide +kernel
theorem dX12_flushes_31 : decode cX12_flushes 31 = .ok (.if_icmp .ge 50, 3) := by decide +kernel
theorem dX12_flushes_34 : decode cX12_flushes 34 = .ok (.iload_n 2, 1) := by decide +kernel
theorem dX12_flushes_35 : decode cX12_flushes 35 = .ok (.iload 4, 2) := by decide +kernel
theorem dX12_flushes_37 : decode cX12_flushes 37 = .ok (.invokestatic 153, 3) := by decide +kernel
theorem dX12_flushes_40 : decode cX12_flushes 40 = .ok (.ifCond .eq 41, 3) := by decide +kernel
theorem dX12_flushes_43 : decode cX12_flushes 43 = .ok (.iload_n 3, 1) := by decide +kernel
theorem dX12_flushes_44 : decode cX12_flushes 44 = .ok (.iload 5, 2) := by decide +kernel
theorem dX12_flushes_46 : decode cX12_flushes 46 = .ok (.invokestatic 153, 3) := by decide +kernel
theorem dX12_flushes_49 : decode cX12_flushes 49 = .ok (.ifCond .eq 26, 3) := by decide +kernel
theorem dX12_flushes_52 : decode cX12_flushes 52 = .ok (.aload_n 1, 1) := by decide +kernel
theorem dX12_flushes_53 : decode cX12_flushes 53 = .ok (.bipush 12, 2) := by decide +kernel
theorem dX12_flushes_55 : decode cX12_flushes 55 = .ok (.iload 4, 2) := by decide +kernel
theorem dX12_flushes_57 : decode cX12_flushes 57 = .ok (.iadd, 1) := by decide +kernel
theorem dX12_flushes_58 : decode cX12_flushes 58 = .ok (.iaload, 1) := by decide +kernel
theorem dX12_flushes_59 : decode cX12_flushes 59 = .ok (.iload 5, 2) := by decide +kernel
theorem dX12_flushes_61 : decode cX12_flushes 61 = .ok (.invokestatic 153, 3) := by decide +kernel
theorem dX12_flushes_64 : decode cX12_flushes 64 = .ok (.ifCond .ne 11, 3) := by decide +kernel
theorem dX12_flushes_67 : decode cX12_flushes 67 = .ok (.aload_n 1, 1) := by decide +kernel
theorem dX12_flushes_68 : decode cX12_flushes 68 = .ok (.iload 4, 2) := by decide +kernel
theorem dX12_flushes_70 : decode cX12_flushes 70 = .ok (.iload 5, 2) := by decide +kernel
theorem dX12_flushes_72 : decode cX12_flushes 72 = .ok (.invokestatic 247, 3) := by decide +kernel
theorem dX12_flushes_75 : decode cX12_flushes 75 = .ok (.iinc 5 1, 3) := by decide +kernel
theorem dX12_flushes_78 : decode cX12_flushes 78 = .ok (.goto (-54), 3) := by decide +kernel
theorem dX12_flushes_81 : decode cX12_flushes 81 = .ok (.iinc 4 1, 3) := by decide +kernel
theorem dX12_flushes_84 : decode cX12_flushes 84 = .ok (.goto (-74), 3) := by decide +kernel
theorem dX12_flushes_87 : decode cX12_flushes 87 = .ok (.return_, 1) := by decide +kernel
theorem dX12_holds_0 : decode cX12_holds 0 = .ok (.aload_n 0, 1) := by decide +kernel
theorem dX12_holds_1 : decode cX12_holds 1 = .ok (.aload_n 1, 1) := by decide +kernel
theorem dX12_holds_2 : decode cX12_holds 2 = .ok (.invokevirtual 289, 3) := by decide +kernel
theorem dX12_holds_5 : decode cX12_holds 5 = .ok (.istore_n 2, 1) := by decide +kernel
theorem dX12_holds_6 : decode cX12_holds 6 = .ok (.aload_n 0, 1) := by decide +kernel
theorem dX12_holds_7 : decode cX12_holds 7 = .ok (.aload_n 1, 1) := by decide +kernel
theorem dX12_holds_8 : decode cX12_holds 8 = .ok (.invokevirtual 285, 3) := by decide +kernel
theorem dX12_holds_11 : decode cX12_holds 11 = .ok (.iconst (-1), 1) := by decide +kernel
theorem dX12_holds_12 : decode cX12_holds 12 = .ok (.if_icmp .eq 15, 3) := by decide +kernel
theorem dX12_holds_15 : decode cX12_holds 15 = .ok (.iload_n 2, 1) := by decide +kernel
theorem dX12_holds_16 : decode cX12_holds 16 = .ok (.aload_n 1, 1) := by decide +kernel
theorem dX12_holds_17 : decode cX12_holds 17 = .ok (.sipush 185, 3) := by decide +kernel
theorem dX12_holds_20 : decode cX12_holds 20 = .ok (.iaload, 1) := by decide +kernel
theorem dX12_holds_21 : decode cX12_holds 21 = .ok (.iconst (-1), 1) := by decide +kernel
theorem dX12_holds_22 : decode cX12_holds 22 = .ok (.ixor, 1) := by decide +kernel
theorem dX12_holds_23 : decode cX12_holds 23 = .ok (.iand, 1) := by decide +kernel
theorem dX12_holds_24 : decode cX12_holds 24 = .ok (.ifCond .ne 5, 3) := by decide +kernel
theorem dX12_holds_27 : decode cX12_holds 27 = .ok (.iconst 0, 1) := by decide +kernel
theorem dX12_holds_28 : decode cX12_holds 28 = .ok (.ireturn, 1) := by decide +kernel
theorem dX12_holds_29 : decode cX12_holds 29 = .ok (.aload_n 1, 1) := by decide +kernel
theorem dX12_holds_30 : decode cX12_holds 30 = .ok (.sipush 185, 3) := by decide +kernel
theorem dX12_holds_33 : decode cX12_holds 33 = .ok (.dup2, 1) := by decide +kernel
theorem dX12_holds_34 : decode cX12_holds 34 = .ok (.iaload, 1) := by decide +kernel
theorem dX12_holds_35 : decode cX12_holds 35 = .ok (.iload_n 2, 1) := by decide +kernel
theorem dX12_holds_36 : decode cX12_holds 36 = .ok (.ior, 1) := by decide +kernel
theorem dX12_holds_37 : decode cX12_holds 37 = .ok (.iastore, 1) := by decide +kernel
theorem dX12_holds_38 : decode cX12_holds 38 = .ok (.iconst 1, 1) := by decide +kernel
theorem dX12_holds_39 : decode cX12_holds 39 = .ok (.ireturn, 1) := by decide +kernel
theorem dX12_least_0 : decode cX12_least 0 = .ok (.iconst 0, 1) := by decide +kernel
theorem dX12_least_1 : decode cX12_least 1 = .ok (.istore_n 1, 1) := by decide +kernel
theorem dX12_least_2 : decode cX12_least 2 = .ok (.iload_n 0, 1) := by decide +kernel
theorem dX12_least_3 : decode cX12_least 3 = .ok (.iload_n 1, 1) := by decide +kernel
theorem dX12_least_4 : decode cX12_least 4 = .ok (.invokestatic 153, 3) := by decide +kernel
theorem dX12_least_7 : decode cX12_least 7 = .ok (.ifCond .ne 9, 3) := by decide +kernel
theorem dX12_least_10 : decode cX12_least 10 = .ok (.iinc 1 1, 3) := by decide +kernel
theorem dX12_least_13 : decode cX12_least 13 = .ok (.goto (-11), 3) := by decide +kernel
theorem dX12_least_16 : decode cX12_least 16 = .ok (.iload_n 1, 1) := by decide +kernel
theorem dX12_least_17 : decode cX12_least 17 = .ok (.ireturn, 1) := by decide +kernel
theorem dX12_comesIn_0 : decode cX12_comesIn 0 = .ok (.aload_n 1, 1) := by decide +kernel
theorem dX12_comesIn_1 : decode cX12_comesIn 1 = .ok (.iconst 0, 1) := by decide +kernel
theorem dX12_comesIn_2 : decode cX12_comesIn 2 = .ok (.iload_n 2, 1) := by decide +kernel
theorem dX12_comesIn_3 : decode cX12_comesIn 3 = .ok (.iadd, 1) := by decide +kernel
theorem dX12_comesIn_4 : decode cX12_comesIn 4 = .ok (.dup2, 1) := by decide +kernel
theorem dX12_comesIn_5 : decode cX12_comesIn 5 = .ok (.iaload, 1) := by decide +kernel
theorem dX12_comesIn_6 : decode cX12_comesIn 6 = .ok (.iconst 1, 1) := by decide +kernel
theorem dX12_comesIn_7 : decode cX12_comesIn 7 = .ok (.iadd, 1) := by decide +kernel
theorem dX12_comesIn_8 : decode cX12_comesIn 8 = .ok (.iastore, 1) := by decide +kernel
theorem dX12_comesIn_9 : decode cX12_comesIn 9 = .ok (.aload_n 1, 1) := by decide +kernel
theorem dX12_comesIn_10 : decode cX12_comesIn 10 = .ok (.sipush 188, 3) := by decide +kernel
theorem dX12_comesIn_13 : decode cX12_comesIn 13 = .ok (.iconst 2, 1) := by decide +kernel
theorem dX12_comesIn_14 : decode cX12_comesIn 14 = .ok (.iload_n 2, 1) := by decide +kernel
theorem dX12_comesIn_15 : decode cX12_comesIn 15 = .ok (.imul, 1) := by decide +kernel
theorem dX12_comesIn_16 : decode cX12_comesIn 16 = .ok (.iadd, 1) := by decide +kernel
theorem dX12_comesIn_17 : decode cX12_comesIn 17 = .ok (.aload_n 1, 1) := by decide +kernel
theorem dX12_comesIn_18 : decode cX12_comesIn 18 = .ok (.sipush 188, 3) := by decide +kernel
theorem dX12_comesIn_21 : decode cX12_comesIn 21 = .ok (.iconst 2, 1) := by decide +kernel
theorem dX12_comesIn_22 : decode cX12_comesIn 22 = .ok (.iload_n 3, 1) := by decide +kernel
theorem dX12_comesIn_23 : decode cX12_comesIn 23 = .ok (.imul, 1) := by decide +kernel
theorem dX12_comesIn_24 : decode cX12_comesIn 24 = .ok (.iadd, 1) := by decide +kernel
theorem dX12_comesIn_25 : decode cX12_comesIn 25 = .ok (.invokestatic 228, 3) := by decide +kernel
theorem dX12_comesIn_28 : decode cX12_comesIn 28 = .ok (.invokestatic 232, 3) := by decide +kernel
theorem dX12_comesIn_31 : decode cX12_comesIn 31 = .ok (.aload_n 1, 1) := by decide +kernel
theorem dX12_comesIn_32 : decode cX12_comesIn 32 = .ok (.bipush 6, 2) := by decide +kernel
theorem dX12_comesIn_34 : decode cX12_comesIn 34 = .ok (.iload_n 2, 1) := by decide +kernel
theorem dX12_comesIn_35 : decode cX12_comesIn 35 = .ok (.iadd, 1) := by decide +kernel
theorem dX12_comesIn_36 : decode cX12_comesIn 36 = .ok (.iconst 0, 1) := by decide +kernel
theorem dX12_comesIn_37 : decode cX12_comesIn 37 = .ok (.iastore, 1) := by decide +kernel
theorem dX12_comesIn_38 : decode cX12_comesIn 38 = .ok (.aload_n 1, 1) := by decide +kernel
theorem dX12_comesIn_39 : decode cX12_comesIn 39 = .ok (.iload_n 2, 1) := by decide +kernel
theorem dX12_comesIn_40 : decode cX12_comesIn 40 = .ok (.invokestatic 239, 3) := by decide +kernel
theorem dX12_comesIn_43 : decode cX12_comesIn 43 = .ok (.return_, 1) := by decide +kernel
theorem dX12_leavesOut_0 : decode cX12_leavesOut 0 = .ok (.aload_n 1, 1) := by decide +kernel
theorem dX12_leavesOut_1 : decode cX12_leavesOut 1 = .ok (.sipush 185, 3) := by decide +kernel
theorem dX12_leavesOut_4 : decode cX12_leavesOut 4 = .ok (.dup2, 1) := by decide +kernel
theorem dX12_leavesOut_5 : decode cX12_leavesOut 5 = .ok (.iaload, 1) := by decide +kernel
theorem dX12_leavesOut_6 : decode cX12_leavesOut 6 = .ok (.iconst 1, 1) := by decide +kernel
theorem dX12_leavesOut_7 : decode cX12_leavesOut 7 = .ok (.iload_n 2, 1) := by decide +kernel
theorem dX12_leavesOut_8 : decode cX12_leavesOut 8 = .ok (.ishl, 1) := by decide +kernel
theorem dX12_leavesOut_9 : decode cX12_leavesOut 9 = .ok (.iconst (-1), 1) := by decide +kernel
theorem dX12_leavesOut_10 : decode cX12_leavesOut 10 = .ok (.ixor, 1) := by decide +kernel
theorem dX12_leavesOut_11 : decode cX12_leavesOut 11 = .ok (.iand, 1) := by decide +kernel
theorem dX12_leavesOut_12 : decode cX12_leavesOut 12 = .ok (.iastore, 1) := by decide +kernel
theorem dX12_leavesOut_13 : decode cX12_leavesOut 13 = .ok (.aload_n 1, 1) := by decide +kernel
theorem dX12_leavesOut_14 : decode cX12_leavesOut 14 = .ok (.bipush 30, 2) := by decide +kernel
theorem dX12_leavesOut_16 : decode cX12_leavesOut 16 = .ok (.iload_n 2, 1) := by decide +kernel
theorem dX12_leavesOut_17 : decode cX12_leavesOut 17 = .ok (.iadd, 1) := by decide +kernel
theorem dX12_leavesOut_18 : decode cX12_leavesOut 18 = .ok (.iconst 0, 1) := by decide +kernel
theorem dX12_leavesOut_19 : decode cX12_leavesOut 19 = .ok (.iastore, 1) := by decide +kernel
theorem dX12_leavesOut_20 : decode cX12_leavesOut 20 = .ok (.return_, 1) := by decide +kernel
theorem dX12_sendsHeld_0 : decode cX12_sendsHeld 0 = .ok (.iconst 0, 1) := by decide +kernel
theorem dX12_sendsHeld_1 : decode cX12_sendsHeld 1 = .ok (.istore_n 2, 1) := by decide +kernel
theorem dX12_sendsHeld_2 : decode cX12_sendsHeld 2 = .ok (.iload_n 2, 1) := by decide +kernel
theorem dX12_sendsHeld_3 : decode cX12_sendsHeld 3 = .ok (.aload_n 0, 1) := by decide +kernel
theorem dX12_sendsHeld_4 : decode cX12_sendsHeld 4 = .ok (.getfield 23, 3) := by decide +kernel
theorem dX12_sendsHeld_7 : decode cX12_sendsHeld 7 = .ok (.iconst 0, 1) := by decide +kernel
theorem dX12_sendsHeld_8 : decode cX12_sendsHeld 8 = .ok (.iaload, 1) := by decide +kernel
theorem dX12_sendsHeld_9 : decode cX12_sendsHeld 9 = .ok (.if_icmp .ge 57, 3) := by decide +kernel
theorem dX12_sendsHeld_12 : decode cX12_sendsHeld 12 = .ok (.aload_n 1, 1) := by decide +kernel
theorem dX12_sendsHeld_13 : decode cX12_sendsHeld 13 = .ok (.bipush 30, 2) := by decide +kernel
theorem dX12_sendsHeld_15 : decode cX12_sendsHeld 15 = .ok (.iload_n 2, 1) := by decide +kernel
theorem dX12_sendsHeld_16 : decode cX12_sendsHeld 16 = .ok (.iadd, 1) := by decide +kernel
theorem dX12_sendsHeld_17 : decode cX12_sendsHeld 17 = .ok (.iaload, 1) := by decide +kernel
theorem dX12_sendsHeld_18 : decode cX12_sendsHeld 18 = .ok (.istore_n 3, 1) := by decide +kernel
theorem dX12_sendsHeld_19 : decode cX12_sendsHeld 19 = .ok (.aload_n 1, 1) := by decide +kernel
theorem dX12_sendsHeld_20 : decode cX12_sendsHeld 20 = .ok (.bipush 30, 2) := by decide +kernel
theorem dX12_sendsHeld_22 : decode cX12_sendsHeld 22 = .ok (.iload_n 2, 1) := by decide +kernel
theorem dX12_sendsHeld_23 : decode cX12_sendsHeld 23 = .ok (.iadd, 1) := by decide +kernel
theorem dX12_sendsHeld_24 : decode cX12_sendsHeld 24 = .ok (.iconst 0, 1) := by decide +kernel
theorem dX12_sendsHeld_25 : decode cX12_sendsHeld 25 = .ok (.iastore, 1) := by decide +kernel
theorem dX12_sendsHeld_26 : decode cX12_sendsHeld 26 = .ok (.iconst 0, 1) := by decide +kernel
theorem dX12_sendsHeld_27 : decode cX12_sendsHeld 27 = .ok (.istore 4, 2) := by decide +kernel
theorem dX12_sendsHeld_29 : decode cX12_sendsHeld 29 = .ok (.iload 4, 2) := by decide +kernel
theorem dX12_sendsHeld_31 : decode cX12_sendsHeld 31 = .ok (.iload_n 3, 1) := by decide +kernel
theorem dX12_sendsHeld_32 : decode cX12_sendsHeld 32 = .ok (.if_icmp .ge 28, 3) := by decide +kernel
theorem dX12_sendsHeld_35 : decode cX12_sendsHeld 35 = .ok (.aload_n 0, 1) := by decide +kernel
theorem dX12_sendsHeld_36 : decode cX12_sendsHeld 36 = .ok (.aload_n 1, 1) := by decide +kernel
theorem dX12_sendsHeld_37 : decode cX12_sendsHeld 37 = .ok (.iload_n 2, 1) := by decide +kernel
theorem dX12_sendsHeld_38 : decode cX12_sendsHeld 38 = .ok (.aload_n 1, 1) := by decide +kernel
theorem dX12_sendsHeld_39 : decode cX12_sendsHeld 39 = .ok (.bipush 72, 2) := by decide +kernel
theorem dX12_sendsHeld_41 : decode cX12_sendsHeld 41 = .ok (.bipush 8, 2) := by decide +kernel
theorem dX12_sendsHeld_43 : decode cX12_sendsHeld 43 = .ok (.iload_n 2, 1) := by decide +kernel
theorem dX12_sendsHeld_44 : decode cX12_sendsHeld 44 = .ok (.imul, 1) := by decide +kernel
theorem dX12_sendsHeld_45 : decode cX12_sendsHeld 45 = .ok (.iadd, 1) := by decide +kernel
theorem dX12_sendsHeld_46 : decode cX12_sendsHeld 46 = .ok (.iload 4, 2) := by decide +kernel
theorem dX12_sendsHeld_48 : decode cX12_sendsHeld 48 = .ok (.iadd, 1) := by decide +kernel
theorem dX12_sendsHeld_49 : decode cX12_sendsHeld 49 = .ok (.iaload, 1) := by decide +kernel
theorem dX12_sendsHeld_50 : decode cX12_sendsHeld 50 = .ok (.invokevirtual 295, 3) := by decide +kernel
theorem dX12_sendsHeld_53 : decode cX12_sendsHeld 53 = .ok (.pop, 1) := by decide +kernel
theorem dX12_sendsHeld_54 : decode cX12_sendsHeld 54 = .ok (.iinc 4 1, 3) := by decide +kernel
theorem dX12_sendsHeld_57 : decode cX12_sendsHeld 57 = .ok (.goto (-28), 3) := by decide +kernel
theorem dX12_sendsHeld_60 : decode cX12_sendsHeld 60 = .ok (.iinc 2 1, 3) := by decide +kernel
theorem dX12_sendsHeld_63 : decode cX12_sendsHeld 63 = .ok (.goto (-61), 3) := by decide +kernel
theorem dX12_sendsHeld_66 : decode cX12_sendsHeld 66 = .ok (.return_, 1) := by decide +kernel
theorem dX12_views_0 : decode cX12_views 0 = .ok (.aload_n 0, 1) := by decide +kernel
theorem dX12_views_1 : decode cX12_views 1 = .ok (.aload_n 1, 1) := by decide +kernel
theorem dX12_views_2 : decode cX12_views 2 = .ok (.invokevirtual 285, 3) := by decide +kernel
theorem dX12_views_5 : decode cX12_views 5 = .ok (.istore_n 2, 1) := by decide +kernel
theorem dX12_views_6 : decode cX12_views 6 = .ok (.aload_n 0, 1) := by decide +kernel
theorem dX12_views_7 : decode cX12_views 7 = .ok (.aload_n 1, 1) := by decide +kernel
theorem dX12_views_8 : decode cX12_views 8 = .ok (.invokevirtual 289, 3) := by decide +kernel
theorem dX12_views_11 : decode cX12_views 11 = .ok (.istore_n 3, 1) := by decide +kernel
theorem dX12_views_12 : decode cX12_views 12 = .ok (.iload_n 2, 1) := by decide +kernel
theorem dX12_views_13 : decode cX12_views 13 = .ok (.iconst (-1), 1) := by decide +kernel
theorem dX12_views_14 : decode cX12_views 14 = .ok (.if_icmp .eq 15, 3) := by decide +kernel
theorem dX12_views_17 : decode cX12_views 17 = .ok (.iload_n 3, 1) := by decide +kernel
theorem dX12_views_18 : decode cX12_views 18 = .ok (.aload_n 1, 1) := by decide +kernel
theorem dX12_views_19 : decode cX12_views 19 = .ok (.sipush 185, 3) := by decide +kernel
theorem dX12_views_22 : decode cX12_views 22 = .ok (.iaload, 1) := by decide +kernel
theorem dX12_views_23 : decode cX12_views 23 = .ok (.iconst (-1), 1) := by decide +kernel
theorem dX12_views_24 : decode cX12_views 24 = .ok (.ixor, 1) := by decide +kernel
theorem dX12_views_25 : decode cX12_views 25 = .ok (.iand, 1) := by decide +kernel
theorem dX12_views_26 : decode cX12_views 26 = .ok (.ifCond .eq 5, 3) := by decide +kernel
theorem dX12_views_29 : decode cX12_views 29 = .ok (.iconst 0, 1) := by decide +kernel
theorem dX12_views_30 : decode cX12_views 30 = .ok (.ireturn, 1) := by decide +kernel
theorem dX12_views_31 : decode cX12_views 31 = .ok (.iload_n 2, 1) := by decide +kernel
theorem dX12_views_32 : decode cX12_views 32 = .ok (.aload_n 1, 1) := by decide +kernel
theorem dX12_views_33 : decode cX12_views 33 = .ok (.sipush 186, 3) := by decide +kernel
theorem dX12_views_36 : decode cX12_views 36 = .ok (.iaload, 1) := by decide +kernel
theorem dX12_views_37 : decode cX12_views 37 = .ok (.iand, 1) := by decide +kernel
theorem dX12_views_38 : decode cX12_views 38 = .ok (.istore 4, 2) := by decide +kernel
theorem dX12_views_40 : decode cX12_views 40 = .ok (.iload_n 3, 1) := by decide +kernel
theorem dX12_views_41 : decode cX12_views 41 = .ok (.aload_n 1, 1) := by decide +kernel
theorem dX12_views_42 : decode cX12_views 42 = .ok (.sipush 182, 3) := by decide +kernel
theorem dX12_views_45 : decode cX12_views 45 = .ok (.iaload, 1) := by decide +kernel
theorem dX12_views_46 : decode cX12_views 46 = .ok (.if_icmp .ne 10, 3) := by decide +kernel
theorem dX12_views_49 : decode cX12_views 49 = .ok (.iload 4, 2) := by decide +kernel
theorem dX12_views_51 : decode cX12_views 51 = .ok (.ifCond .ne 5, 3) := by decide +kernel
theorem dX12_views_54 : decode cX12_views 54 = .ok (.iconst 0, 1) := by decide +kernel
theorem dX12_views_55 : decode cX12_views 55 = .ok (.ireturn, 1) := by decide +kernel
theorem dX12_views_56 : decode cX12_views 56 = .ok (.aload_n 0, 1) := by decide +kernel
theorem dX12_views_57 : decode cX12_views 57 = .ok (.aload_n 1, 1) := by decide +kernel
theorem dX12_views_58 : decode cX12_views 58 = .ok (.iload_n 3, 1) := by decide +kernel
theorem dX12_views_59 : decode cX12_views 59 = .ok (.invokevirtual 299, 3) := by decide +kernel
theorem dX12_views_62 : decode cX12_views 62 = .ok (.iconst 0, 1) := by decide +kernel
theorem dX12_views_63 : decode cX12_views 63 = .ok (.istore 5, 2) := by decide +kernel
theorem dX12_views_65 : decode cX12_views 65 = .ok (.iload 5, 2) := by decide +kernel
theorem dX12_views_67 : decode cX12_views 67 = .ok (.aload_n 0, 1) := by decide +kernel
theorem dX12_views_68 : decode cX12_views 68 = .ok (.getfield 23, 3) := by decide +kernel
theorem dX12_views_71 : decode cX12_views 71 = .ok (.iconst 0, 1) := by decide +kernel
theorem dX12_views_72 : decode cX12_views 72 = .ok (.iaload, 1) := by decide +kernel
theorem dX12_views_73 : decode cX12_views 73 = .ok (.if_icmp .ge 81, 3) := by decide +kernel
theorem dX12_views_76 : decode cX12_views 76 = .ok (.iload 4, 2) := by decide +kernel
theorem dX12_views_78 : decode cX12_views 78 = .ok (.iload 5, 2) := by decide +kernel
theorem dX12_views_80 : decode cX12_views 80 = .ok (.invokestatic 153, 3) := by decide +kernel
theorem dX12_views_83 : decode cX12_views 83 = .ok (.ifCond .eq 17, 3) := by decide +kernel
theorem dX12_views_86 : decode cX12_views 86 = .ok (.aload_n 0, 1) := by decide +kernel
theorem dX12_views_87 : decode cX12_views 87 = .ok (.aload_n 1, 1) := by decide +kernel
theorem dX12_views_88 : decode cX12_views 88 = .ok (.iload 5, 2) := by decide +kernel
theorem dX12_views_90 : decode cX12_views 90 = .ok (.iload_n 3, 1) := by decide +kernel
theorem dX12_views_91 : decode cX12_views 91 = .ok (.invokestatic 302, 3) := by decide +kernel
theorem dX12_views_94 : decode cX12_views 94 = .ok (.invokevirtual 305, 3) := by decide +kernel
theorem dX12_views_97 : decode cX12_views 97 = .ok (.goto 45, 3) := by decide +kernel
theorem dX12_views_100 : decode cX12_views 100 = .ok (.iload_n 3, 1) := by decide +kernel
theorem dX12_views_101 : decode cX12_views 101 = .ok (.iload 5, 2) := by decide +kernel
theorem dX12_views_103 : decode cX12_views 103 = .ok (.invokestatic 153, 3) := by decide +kernel
theorem dX12_views_106 : decode cX12_views 106 = .ok (.ifCond .eq 16, 3) := by decide +kernel
theorem dX12_views_109 : decode cX12_views 109 = .ok (.aload_n 1, 1) := by decide +kernel
theorem dX12_views_110 : decode cX12_views 110 = .ok (.iconst 0, 1) := by decide +kernel
theorem dX12_views_111 : decode cX12_views 111 = .ok (.iload 5, 2) := by decide +kernel
theorem dX12_views_113 : decode cX12_views 113 = .ok (.iadd, 1) := by decide +kernel
theorem dX12_views_114 : decode cX12_views 114 = .ok (.dup2, 1) := by decide +kernel
theorem dX12_views_115 : decode cX12_views 115 = .ok (.iaload, 1) := by decide +kernel
theorem dX12_views_116 : decode cX12_views 116 = .ok (.iconst 1, 1) := by decide +kernel
theorem dX12_views_117 : decode cX12_views 117 = .ok (.iadd, 1) := by decide +kernel
theorem dX12_views_118 : decode cX12_views 118 = .ok (.iastore, 1) := by decide +kernel
theorem dX12_views_119 : decode cX12_views 119 = .ok (.goto 23, 3) := by decide +kernel
theorem dX12_views_122 : decode cX12_views 122 = .ok (.aload_n 1, 1) := by decide +kernel
theorem dX12_views_123 : decode cX12_views 123 = .ok (.sipush 183, 3) := by decide +kernel
theorem dX12_views_126 : decode cX12_views 126 = .ok (.iaload, 1) := by decide +kernel
theorem dX12_views_127 : decode cX12_views 127 = .ok (.iload 5, 2) := by decide +kernel
theorem dX12_views_129 : decode cX12_views 129 = .ok (.invokestatic 153, 3) := by decide +kernel
theorem dX12_views_132 : decode cX12_views 132 = .ok (.ifCond .eq 10, 3) := by decide +kernel
theorem dX12_views_135 : decode cX12_views 135 = .ok (.aload_n 0, 1) := by decide +kernel
theorem dX12_views_136 : decode cX12_views 136 = .ok (.aload_n 1, 1) := by decide +kernel
theorem dX12_views_137 : decode cX12_views 137 = .ok (.iload 5, 2) := by decide +kernel
theorem dX12_views_139 : decode cX12_views 139 = .ok (.invokevirtual 308, 3) := by decide +kernel
theorem dX12_views_142 : decode cX12_views 142 = .ok (.aload_n 1, 1) := by decide +kernel
theorem dX12_views_143 : decode cX12_views 143 = .ok (.iload 5, 2) := by decide +kernel
theorem dX12_views_145 : decode cX12_views 145 = .ok (.invokestatic 262, 3) := by decide +kernel
theorem dX12_views_148 : decode cX12_views 148 = .ok (.iinc 5 1, 3) := by decide +kernel
theorem dX12_views_151 : decode cX12_views 151 = .ok (.goto (-86), 3) := by decide +kernel
theorem dX12_views_154 : decode cX12_views 154 = .ok (.aload_n 1, 1) := by decide +kernel
theorem dX12_views_155 : decode cX12_views 155 = .ok (.sipush 181, 3) := by decide +kernel
theorem dX12_views_158 : decode cX12_views 158 = .ok (.dup2, 1) := by decide +kernel
theorem dX12_views_159 : decode cX12_views 159 = .ok (.iaload, 1) := by decide +kernel
theorem dX12_views_160 : decode cX12_views 160 = .ok (.iconst 1, 1) := by decide +kernel
theorem dX12_views_161 : decode cX12_views 161 = .ok (.iadd, 1) := by decide +kernel
theorem dX12_views_162 : decode cX12_views 162 = .ok (.iastore, 1) := by decide +kernel
theorem dX12_views_163 : decode cX12_views 163 = .ok (.aload_n 1, 1) := by decide +kernel
theorem dX12_views_164 : decode cX12_views 164 = .ok (.sipush 182, 3) := by decide +kernel
theorem dX12_views_167 : decode cX12_views 167 = .ok (.iload_n 3, 1) := by decide +kernel
theorem dX12_views_168 : decode cX12_views 168 = .ok (.iload 4, 2) := by decide +kernel
theorem dX12_views_170 : decode cX12_views 170 = .ok (.ior, 1) := by decide +kernel
theorem dX12_views_171 : decode cX12_views 171 = .ok (.iastore, 1) := by decide +kernel
theorem dX12_views_172 : decode cX12_views 172 = .ok (.aload_n 1, 1) := by decide +kernel
theorem dX12_views_173 : decode cX12_views 173 = .ok (.sipush 183, 3) := by decide +kernel
theorem dX12_views_176 : decode cX12_views 176 = .ok (.iload_n 3, 1) := by decide +kernel
theorem dX12_views_177 : decode cX12_views 177 = .ok (.iload 4, 2) := by decide +kernel
theorem dX12_views_179 : decode cX12_views 179 = .ok (.ior, 1) := by decide +kernel
theorem dX12_views_180 : decode cX12_views 180 = .ok (.iastore, 1) := by decide +kernel
theorem dX12_views_181 : decode cX12_views 181 = .ok (.aload_n 1, 1) := by decide +kernel
theorem dX12_views_182 : decode cX12_views 182 = .ok (.sipush 186, 3) := by decide +kernel
theorem dX12_views_185 : decode cX12_views 185 = .ok (.dup2, 1) := by decide +kernel
theorem dX12_views_186 : decode cX12_views 186 = .ok (.iaload, 1) := by decide +kernel
theorem dX12_views_187 : decode cX12_views 187 = .ok (.iload 4, 2) := by decide +kernel
theorem dX12_views_189 : decode cX12_views 189 = .ok (.iconst (-1), 1) := by decide +kernel
theorem dX12_views_190 : decode cX12_views 190 = .ok (.ixor, 1) := by decide +kernel
theorem dX12_views_191 : decode cX12_views 191 = .ok (.iand, 1) := by decide +kernel
theorem dX12_views_192 : decode cX12_views 192 = .ok (.iastore, 1) := by decide +kernel
theorem dX12_views_193 : decode cX12_views 193 = .ok (.aload_n 1, 1) := by decide +kernel
theorem dX12_views_194 : decode cX12_views 194 = .ok (.sipush 185, 3) := by decide +kernel
theorem dX12_views_197 : decode cX12_views 197 = .ok (.dup2, 1) := by decide +kernel
theorem dX12_views_198 : decode cX12_views 198 = .ok (.iaload, 1) := by decide +kernel
theorem dX12_views_199 : decode cX12_views 199 = .ok (.iload_n 3, 1) := by decide +kernel
theorem dX12_views_200 : decode cX12_views 200 = .ok (.iconst (-1), 1) := by decide +kernel
theorem dX12_views_201 : decode cX12_views 201 = .ok (.ixor, 1) := by decide +kernel
theorem dX12_views_202 : decode cX12_views 202 = .ok (.iand, 1) := by decide +kernel
theorem dX12_views_203 : decode cX12_views 203 = .ok (.iastore, 1) := by decide +kernel
theorem dX12_views_204 : decode cX12_views 204 = .ok (.aload_n 1, 1) := by decide +kernel
theorem dX12_views_205 : decode cX12_views 205 = .ok (.sipush 187, 3) := by decide +kernel
theorem dX12_views_208 : decode cX12_views 208 = .ok (.iconst 0, 1) := by decide +kernel
theorem dX12_views_209 : decode cX12_views 209 = .ok (.iastore, 1) := by decide +kernel
theorem dX12_views_210 : decode cX12_views 210 = .ok (.aload_n 0, 1) := by decide +kernel
theorem dX12_views_211 : decode cX12_views 211 = .ok (.aload_n 1, 1) := by decide +kernel
theorem dX12_views_212 : decode cX12_views 212 = .ok (.invokevirtual 311, 3) := by decide +kernel
theorem dX12_views_215 : decode cX12_views 215 = .ok (.iconst 1, 1) := by decide +kernel
theorem dX12_views_216 : decode cX12_views 216 = .ok (.ireturn, 1) := by decide +kernel
theorem dX12_does_0 : decode cX12_does 0 = .ok (.aload_n 2, 1) := by decide +kernel
theorem dX12_does_1 : decode cX12_does 1 = .ok (.iconst 1, 1) := by decide +kernel
theorem dX12_does_2 : decode cX12_does 2 = .ok (.iaload, 1) := by decide +kernel
theorem dX12_does_3 : decode cX12_does 3 = .ok (.istore_n 3, 1) := by decide +kernel
theorem dX12_does_4 : decode cX12_does 4 = .ok (.aload_n 2, 1) := by decide +kernel
theorem dX12_does_5 : decode cX12_does 5 = .ok (.iconst 0, 1) := by decide +kernel
theorem dX12_does_6 : decode cX12_does 6 = .ok (.iaload, 1) := by decide +kernel
theorem dX12_does_7 : decode cX12_does 7 = .ok (.tableswitch 126 0 8 #[49, 59, 67, 75, 82, 89, 95, 101, 120], 49) := by decide +kernel
theorem dX12_does_56 : decode cX12_does 56 = .ok (.aload_n 0, 1) := by decide +kernel
theorem dX12_does_57 : decode cX12_does 57 = .ok (.aload_n 1, 1) := by decide +kernel
theorem dX12_does_58 : decode cX12_does 58 = .ok (.iload_n 3, 1) := by decide +kernel
theorem dX12_does_59 : decode cX12_does 59 = .ok (.aload_n 2, 1) := by decide +kernel
theorem dX12_does_60 : decode cX12_does 60 = .ok (.iconst 2, 1) := by decide +kernel
theorem dX12_does_61 : decode cX12_does 61 = .ok (.iaload, 1) := by decide +kernel
theorem dX12_does_62 : decode cX12_does 62 = .ok (.invokevirtual 295, 3) := by decide +kernel
theorem dX12_does_65 : decode cX12_does 65 = .ok (.ireturn, 1) := by decide +kernel
theorem dX12_does_66 : decode cX12_does 66 = .ok (.aload_n 0, 1) := by decide +kernel
theorem dX12_does_67 : decode cX12_does 67 = .ok (.aload_n 1, 1) := by decide +kernel
theorem dX12_does_68 : decode cX12_does 68 = .ok (.iload_n 3, 1) := by decide +kernel
theorem dX12_does_69 : decode cX12_does 69 = .ok (.iconst 0, 1) := by decide +kernel
theorem dX12_does_70 : decode cX12_does 70 = .ok (.invokevirtual 315, 3) := by decide +kernel
theorem dX12_does_73 : decode cX12_does 73 = .ok (.ireturn, 1) := by decide +kernel
theorem dX12_does_74 : decode cX12_does 74 = .ok (.aload_n 0, 1) := by decide +kernel
theorem dX12_does_75 : decode cX12_does 75 = .ok (.aload_n 1, 1) := by decide +kernel
theorem dX12_does_76 : decode cX12_does 76 = .ok (.iload_n 3, 1) := by decide +kernel
theorem dX12_does_77 : decode cX12_does 77 = .ok (.iconst 1, 1) := by decide +kernel
theorem dX12_does_78 : decode cX12_does 78 = .ok (.invokevirtual 315, 3) := by decide +kernel
theorem dX12_does_81 : decode cX12_does 81 = .ok (.ireturn, 1) := by decide +kernel
theorem dX12_does_82 : decode cX12_does 82 = .ok (.aload_n 0, 1) := by decide +kernel
theorem dX12_does_83 : decode cX12_does 83 = .ok (.aload_n 1, 1) := by decide +kernel
theorem dX12_does_84 : decode cX12_does 84 = .ok (.iload_n 3, 1) := by decide +kernel
theorem dX12_does_85 : decode cX12_does 85 = .ok (.invokevirtual 319, 3) := by decide +kernel
theorem dX12_does_88 : decode cX12_does 88 = .ok (.ireturn, 1) := by decide +kernel
theorem dX12_does_89 : decode cX12_does 89 = .ok (.aload_n 0, 1) := by decide +kernel
theorem dX12_does_90 : decode cX12_does 90 = .ok (.aload_n 1, 1) := by decide +kernel
theorem dX12_does_91 : decode cX12_does 91 = .ok (.iload_n 3, 1) := by decide +kernel
theorem dX12_does_92 : decode cX12_does 92 = .ok (.invokevirtual 322, 3) := by decide +kernel
theorem dX12_does_95 : decode cX12_does 95 = .ok (.ireturn, 1) := by decide +kernel
theorem dX12_does_96 : decode cX12_does 96 = .ok (.aload_n 1, 1) := by decide +kernel
theorem dX12_does_97 : decode cX12_does 97 = .ok (.iload_n 3, 1) := by decide +kernel
theorem dX12_does_98 : decode cX12_does 98 = .ok (.invokestatic 325, 3) := by decide +kernel
theorem dX12_does_101 : decode cX12_does 101 = .ok (.ireturn, 1) := by decide +kernel
theorem dX12_does_102 : decode cX12_does 102 = .ok (.aload_n 1, 1) := by decide +kernel
theorem dX12_does_103 : decode cX12_does 103 = .ok (.iload_n 3, 1) := by decide +kernel
theorem dX12_does_104 : decode cX12_does 104 = .ok (.invokestatic 328, 3) := by decide +kernel
theorem dX12_does_107 : decode cX12_does 107 = .ok (.ireturn, 1) := by decide +kernel
theorem dX12_does_108 : decode cX12_does 108 = .ok (.aload_n 1, 1) := by decide +kernel
theorem dX12_does_109 : decode cX12_does 109 = .ok (.sipush 180, 3) := by decide +kernel
theorem dX12_does_112 : decode cX12_does 112 = .ok (.iaload, 1) := by decide +kernel
theorem dX12_does_113 : decode cX12_does 113 = .ok (.iload_n 3, 1) := by decide +kernel
theorem dX12_does_114 : decode cX12_does 114 = .ok (.if_icmp .ne 5, 3) := by decide +kernel
theorem dX12_does_117 : decode cX12_does 117 = .ok (.iconst 0, 1) := by decide +kernel
theorem dX12_does_118 : decode cX12_does 118 = .ok (.ireturn, 1) := by decide +kernel
theorem dX12_does_119 : decode cX12_does 119 = .ok (.aload_n 1, 1) := by decide +kernel
theorem dX12_does_120 : decode cX12_does 120 = .ok (.sipush 180, 3) := by decide +kernel
theorem dX12_does_123 : decode cX12_does 123 = .ok (.iload_n 3, 1) := by decide +kernel
theorem dX12_does_124 : decode cX12_does 124 = .ok (.iastore, 1) := by decide +kernel
theorem dX12_does_125 : decode cX12_does 125 = .ok (.iconst 1, 1) := by decide +kernel
theorem dX12_does_126 : decode cX12_does 126 = .ok (.ireturn, 1) := by decide +kernel
theorem dX12_does_127 : decode cX12_does 127 = .ok (.aload_n 0, 1) := by decide +kernel
theorem dX12_does_128 : decode cX12_does 128 = .ok (.aload_n 1, 1) := by decide +kernel
theorem dX12_does_129 : decode cX12_does 129 = .ok (.invokevirtual 331, 3) := by decide +kernel
theorem dX12_does_132 : decode cX12_does 132 = .ok (.ireturn, 1) := by decide +kernel
theorem dX12_does_133 : decode cX12_does 133 = .ok (.aload_n 0, 1) := by decide +kernel
theorem dX12_does_134 : decode cX12_does 134 = .ok (.aload_n 1, 1) := by decide +kernel
theorem dX12_does_135 : decode cX12_does 135 = .ok (.invokevirtual 335, 3) := by decide +kernel
theorem dX12_does_138 : decode cX12_does 138 = .ok (.ireturn, 1) := by decide +kernel
theorem dX12_goes_0 : decode cX12_goes 0 = .ok (.iload_n 1, 1) := by decide +kernel
theorem dX12_goes_1 : decode cX12_goes 1 = .ok (.istore_n 3, 1) := by decide +kernel
theorem dX12_goes_2 : decode cX12_goes 2 = .ok (.iload_n 3, 1) := by decide +kernel
theorem dX12_goes_3 : decode cX12_goes 3 = .ok (.iload_n 2, 1) := by decide +kernel
theorem dX12_goes_4 : decode cX12_goes 4 = .ok (.if_icmp .ge 152, 3) := by decide +kernel
theorem dX12_goes_7 : decode cX12_goes 7 = .ok (.aload_n 0, 1) := by decide +kernel
theorem dX12_goes_8 : decode cX12_goes 8 = .ok (.getfield 338, 3) := by decide +kernel
theorem dX12_goes_11 : decode cX12_goes 11 = .ok (.sipush 200, 3) := by decide +kernel
theorem dX12_goes_14 : decode cX12_goes 14 = .ok (.if_icmp .ge 142, 3) := by decide +kernel
theorem dX12_goes_17 : decode cX12_goes 17 = .ok (.aload_n 0, 1) := by decide +kernel
theorem dX12_goes_18 : decode cX12_goes 18 = .ok (.dup, 1) := by decide +kernel
theorem dX12_goes_19 : decode cX12_goes 19 = .ok (.getfield 338, 3) := by decide +kernel
theorem dX12_goes_22 : decode cX12_goes 22 = .ok (.iconst 1, 1) := by decide +kernel
theorem dX12_goes_23 : decode cX12_goes 23 = .ok (.iadd, 1) := by decide +kernel
theorem dX12_goes_24 : decode cX12_goes 24 = .ok (.putfield 338, 3) := by decide +kernel
theorem dX12_goes_27 : decode cX12_goes 27 = .ok (.aload_n 0, 1) := by decide +kernel
theorem dX12_goes_28 : decode cX12_goes 28 = .ok (.getfield 46, 3) := by decide +kernel
theorem dX12_goes_31 : decode cX12_goes 31 = .ok (.iload_n 3, 1) := by decide +kernel
theorem dX12_goes_32 : decode cX12_goes 32 = .ok (.aaload, 1) := by decide +kernel
theorem dX12_goes_33 : decode cX12_goes 33 = .ok (.iconst 0, 1) := by decide +kernel
theorem dX12_goes_34 : decode cX12_goes 34 = .ok (.iaload, 1) := by decide +kernel
theorem dX12_goes_35 : decode cX12_goes 35 = .ok (.bipush 10, 2) := by decide +kernel
theorem dX12_goes_37 : decode cX12_goes 37 = .ok (.if_icmp .ne 53, 3) := by decide +kernel
theorem dX12_goes_40 : decode cX12_goes 40 = .ok (.iconst 0, 1) := by decide +kernel
theorem dX12_goes_41 : decode cX12_goes 41 = .ok (.istore 4, 2) := by decide +kernel
theorem dX12_goes_43 : decode cX12_goes 43 = .ok (.iload 4, 2) := by decide +kernel
theorem dX12_goes_45 : decode cX12_goes 45 = .ok (.aload_n 0, 1) := by decide +kernel
theorem dX12_goes_46 : decode cX12_goes 46 = .ok (.getfield 46, 3) := by decide +kernel
theorem dX12_goes_49 : decode cX12_goes 49 = .ok (.iload_n 3, 1) := by decide +kernel
theorem dX12_goes_50 : decode cX12_goes 50 = .ok (.aaload, 1) := by decide +kernel
theorem dX12_goes_51 : decode cX12_goes 51 = .ok (.iconst 1, 1) := by decide +kernel
theorem dX12_goes_52 : decode cX12_goes 52 = .ok (.iaload, 1) := by decide +kernel
theorem dX12_goes_53 : decode cX12_goes 53 = .ok (.if_icmp .ge 34, 3) := by decide +kernel
theorem dX12_goes_56 : decode cX12_goes 56 = .ok (.aload_n 0, 1) := by decide +kernel
theorem dX12_goes_57 : decode cX12_goes 57 = .ok (.getfield 338, 3) := by decide +kernel
theorem dX12_goes_60 : decode cX12_goes 60 = .ok (.sipush 200, 3) := by decide +kernel
theorem dX12_goes_63 : decode cX12_goes 63 = .ok (.if_icmp .ge 24, 3) := by decide +kernel
theorem dX12_goes_66 : decode cX12_goes 66 = .ok (.aload_n 0, 1) := by decide +kernel
theorem dX12_goes_67 : decode cX12_goes 67 = .ok (.iload_n 3, 1) := by decide +kernel
theorem dX12_goes_68 : decode cX12_goes 68 = .ok (.iconst 1, 1) := by decide +kernel
theorem dX12_goes_69 : decode cX12_goes 69 = .ok (.iadd, 1) := by decide +kernel
theorem dX12_goes_70 : decode cX12_goes 70 = .ok (.aload_n 0, 1) := by decide +kernel
theorem dX12_goes_71 : decode cX12_goes 71 = .ok (.getfield 46, 3) := by decide +kernel
theorem dX12_goes_74 : decode cX12_goes 74 = .ok (.iload_n 3, 1) := by decide +kernel
theorem dX12_goes_75 : decode cX12_goes 75 = .ok (.aaload, 1) := by decide +kernel
theorem dX12_goes_76 : decode cX12_goes 76 = .ok (.iconst 3, 1) := by decide +kernel
theorem dX12_goes_77 : decode cX12_goes 77 = .ok (.iaload, 1) := by decide +kernel
theorem dX12_goes_78 : decode cX12_goes 78 = .ok (.invokevirtual 341, 3) := by decide +kernel
theorem dX12_goes_81 : decode cX12_goes 81 = .ok (.iinc 4 1, 3) := by decide +kernel
theorem dX12_goes_84 : decode cX12_goes 84 = .ok (.goto (-41), 3) := by decide +kernel
theorem dX12_goes_87 : decode cX12_goes 87 = .ok (.goto 57, 3) := by decide +kernel
theorem dX12_goes_90 : decode cX12_goes 90 = .ok (.aload_n 0, 1) := by decide +kernel
theorem dX12_goes_91 : decode cX12_goes 91 = .ok (.aload_n 0, 1) := by decide +kernel
theorem dX12_goes_92 : decode cX12_goes 92 = .ok (.getfield 49, 3) := by decide +kernel
theorem dX12_goes_95 : decode cX12_goes 95 = .ok (.aload_n 0, 1) := by decide +kernel
theorem dX12_goes_96 : decode cX12_goes 96 = .ok (.getfield 46, 3) := by decide +kernel
theorem dX12_goes_99 : decode cX12_goes 99 = .ok (.iload_n 3, 1) := by decide +kernel
theorem dX12_goes_100 : decode cX12_goes 100 = .ok (.aaload, 1) := by decide +kernel
theorem dX12_goes_101 : decode cX12_goes 101 = .ok (.invokevirtual 344, 3) := by decide +kernel
theorem dX12_goes_104 : decode cX12_goes 104 = .ok (.istore 4, 2) := by decide +kernel
theorem dX12_goes_106 : decode cX12_goes 106 = .ok (.aload_n 0, 1) := by decide +kernel
theorem dX12_goes_107 : decode cX12_goes 107 = .ok (.dup, 1) := by decide +kernel
theorem dX12_goes_108 : decode cX12_goes 108 = .ok (.getfield 348, 3) := by decide +kernel
theorem dX12_goes_111 : decode cX12_goes 111 = .ok (.iload 4, 2) := by decide +kernel
theorem dX12_goes_113 : decode cX12_goes 113 = .ok (.ifCond .eq 7, 3) := by decide +kernel
theorem dX12_goes_116 : decode cX12_goes 116 = .ok (.iconst 1, 1) := by decide +kernel
theorem dX12_goes_117 : decode cX12_goes 117 = .ok (.goto 4, 3) := by decide +kernel
theorem dX12_goes_120 : decode cX12_goes 120 = .ok (.iconst 0, 1) := by decide +kernel
theorem dX12_goes_121 : decode cX12_goes 121 = .ok (.iadd, 1) := by decide +kernel
theorem dX12_goes_122 : decode cX12_goes 122 = .ok (.putfield 348, 3) := by decide +kernel
theorem dX12_goes_125 : decode cX12_goes 125 = .ok (.aload_n 0, 1) := by decide +kernel
theorem dX12_goes_126 : decode cX12_goes 126 = .ok (.dup, 1) := by decide +kernel
theorem dX12_goes_127 : decode cX12_goes 127 = .ok (.getfield 166, 3) := by decide +kernel
theorem dX12_goes_130 : decode cX12_goes 130 = .ok (.iload 4, 2) := by decide +kernel
theorem dX12_goes_132 : decode cX12_goes 132 = .ok (.ifCond .eq 7, 3) := by decide +kernel
theorem dX12_goes_135 : decode cX12_goes 135 = .ok (.iconst 0, 1) := by decide +kernel
theorem dX12_goes_136 : decode cX12_goes 136 = .ok (.goto 4, 3) := by decide +kernel
theorem dX12_goes_139 : decode cX12_goes 139 = .ok (.iconst 1, 1) := by decide +kernel
theorem dX12_goes_140 : decode cX12_goes 140 = .ok (.iadd, 1) := by decide +kernel
theorem dX12_goes_141 : decode cX12_goes 141 = .ok (.putfield 166, 3) := by decide +kernel
theorem dX12_goes_144 : decode cX12_goes 144 = .ok (.aload_n 0, 1) := by decide +kernel
theorem dX12_goes_145 : decode cX12_goes 145 = .ok (.getfield 46, 3) := by decide +kernel
theorem dX12_goes_148 : decode cX12_goes 148 = .ok (.iload_n 3, 1) := by decide +kernel
theorem dX12_goes_149 : decode cX12_goes 149 = .ok (.aaload, 1) := by decide +kernel
theorem dX12_goes_150 : decode cX12_goes 150 = .ok (.iconst 3, 1) := by decide +kernel
theorem dX12_goes_151 : decode cX12_goes 151 = .ok (.iaload, 1) := by decide +kernel
theorem dX12_goes_152 : decode cX12_goes 152 = .ok (.istore_n 3, 1) := by decide +kernel
theorem dX12_goes_153 : decode cX12_goes 153 = .ok (.goto (-151), 3) := by decide +kernel
theorem dX12_goes_156 : decode cX12_goes 156 = .ok (.return_, 1) := by decide +kernel
theorem dX12_work_0 : decode cX12_work 0 = .ok (.aload_n 0, 1) := by decide +kernel
theorem dX12_work_1 : decode cX12_work 1 = .ok (.iconst 0, 1) := by decide +kernel
theorem dX12_work_2 : decode cX12_work 2 = .ok (.putfield 70, 3) := by decide +kernel
theorem dX12_work_5 : decode cX12_work 5 = .ok (.aload_n 0, 1) := by decide +kernel
theorem dX12_work_6 : decode cX12_work 6 = .ok (.iload_n 1, 1) := by decide +kernel
theorem dX12_work_7 : decode cX12_work 7 = .ok (.iconst 0, 1) := by decide +kernel
theorem dX12_work_8 : decode cX12_work 8 = .ok (.aload_n 0, 1) := by decide +kernel
theorem dX12_work_9 : decode cX12_work 9 = .ok (.getfield 73, 3) := by decide +kernel
theorem dX12_work_12 : decode cX12_work 12 = .ok (.invokestatic 104, 3) := by decide +kernel
theorem dX12_work_15 : decode cX12_work 15 = .ok (.ifCond .eq 10, 3) := by decide +kernel
theorem dX12_work_18 : decode cX12_work 18 = .ok (.iload_n 1, 1) := by decide +kernel
theorem dX12_work_19 : decode cX12_work 19 = .ok (.sipush 150, 3) := by decide +kernel
theorem dX12_work_22 : decode cX12_work 22 = .ok (.if_icmp .le 7, 3) := by decide +kernel
theorem dX12_work_25 : decode cX12_work 25 = .ok (.iconst 1, 1) := by decide +kernel
theorem dX12_work_26 : decode cX12_work 26 = .ok (.goto 4, 3) := by decide +kernel
theorem dX12_work_29 : decode cX12_work 29 = .ok (.iconst 0, 1) := by decide +kernel
theorem dX12_work_30 : decode cX12_work 30 = .ok (.iconst 1, 1) := by decide +kernel
theorem dX12_work_31 : decode cX12_work 31 = .ok (.iconst 1, 1) := by decide +kernel
theorem dX12_work_32 : decode cX12_work 32 = .ok (.invokevirtual 140, 3) := by decide +kernel
theorem dX12_work_35 : decode cX12_work 35 = .ok (.ifCond .eq 5, 3) := by decide +kernel
theorem dX12_work_38 : decode cX12_work 38 = .ok (.iconst 0, 1) := by decide +kernel
theorem dX12_work_39 : decode cX12_work 39 = .ok (.ireturn, 1) := by decide +kernel
theorem dX12_work_40 : decode cX12_work 40 = .ok (.aload_n 0, 1) := by decide +kernel
theorem dX12_work_41 : decode cX12_work 41 = .ok (.getfield 163, 3) := by decide +kernel
theorem dX12_work_44 : decode cX12_work 44 = .ok (.bipush 16, 2) := by decide +kernel
theorem dX12_work_46 : decode cX12_work 46 = .ok (.if_icmp .ne 16, 3) := by decide +kernel
theorem dX12_work_49 : decode cX12_work 49 = .ok (.aload_n 0, 1) := by decide +kernel
theorem dX12_work_50 : decode cX12_work 50 = .ok (.iconst 0, 1) := by decide +kernel
theorem dX12_work_51 : decode cX12_work 51 = .ok (.putfield 73, 3) := by decide +kernel
theorem dX12_work_54 : decode cX12_work 54 = .ok (.aload_n 0, 1) := by decide +kernel
theorem dX12_work_55 : decode cX12_work 55 = .ok (.iconst (-1), 1) := by decide +kernel
theorem dX12_work_56 : decode cX12_work 56 = .ok (.putfield 9, 3) := by decide +kernel
theorem dX12_work_59 : decode cX12_work 59 = .ok (.bipush (-20), 2) := by decide +kernel
theorem dX12_work_61 : decode cX12_work 61 = .ok (.ireturn, 1) := by decide +kernel
theorem dX12_work_62 : decode cX12_work 62 = .ok (.aload_n 0, 1) := by decide +kernel
theorem dX12_work_63 : decode cX12_work 63 = .ok (.iload_n 1, 1) := by decide +kernel
theorem dX12_work_64 : decode cX12_work 64 = .ok (.invokevirtual 144, 3) := by decide +kernel
theorem dX12_work_67 : decode cX12_work 67 = .ok (.aload_n 0, 1) := by decide +kernel
theorem dX12_work_68 : decode cX12_work 68 = .ok (.iconst 0, 1) := by decide +kernel
theorem dX12_work_69 : decode cX12_work 69 = .ok (.putfield 217, 3) := by decide +kernel
theorem dX12_work_72 : decode cX12_work 72 = .ok (.aload_n 0, 1) := by decide +kernel
theorem dX12_work_73 : decode cX12_work 73 = .ok (.getfield 86, 3) := by decide +kernel
theorem dX12_work_76 : decode cX12_work 76 = .ok (.ifCond .ne 25, 3) := by decide +kernel
theorem dX12_work_79 : decode cX12_work 79 = .ok (.aload_n 0, 1) := by decide +kernel
theorem dX12_work_80 : decode cX12_work 80 = .ok (.getfield 79, 3) := by decide +kernel
theorem dX12_work_83 : decode cX12_work 83 = .ok (.aload_n 0, 1) := by decide +kernel
theorem dX12_work_84 : decode cX12_work 84 = .ok (.getfield 76, 3) := by decide +kernel
theorem dX12_work_87 : decode cX12_work 87 = .ok (.if_icmp .ge 14, 3) := by decide +kernel
theorem dX12_work_90 : decode cX12_work 90 = .ok (.aload_n 0, 1) := by decide +kernel
theorem dX12_work_91 : decode cX12_work 91 = .ok (.invokevirtual 220, 3) := by decide +kernel
theorem dX12_work_94 : decode cX12_work 94 = .ok (.aload_n 0, 1) := by decide +kernel
theorem dX12_work_95 : decode cX12_work 95 = .ok (.invokevirtual 92, 3) := by decide +kernel
theorem dX12_work_98 : decode cX12_work 98 = .ok (.goto (-26), 3) := by decide +kernel
theorem dX12_work_101 : decode cX12_work 101 = .ok (.aload_n 0, 1) := by decide +kernel
theorem dX12_work_102 : decode cX12_work 102 = .ok (.getfield 86, 3) := by decide +kernel
theorem dX12_work_105 : decode cX12_work 105 = .ok (.ifCond .eq 8, 3) := by decide +kernel
theorem dX12_work_108 : decode cX12_work 108 = .ok (.aload_n 0, 1) := by decide +kernel
theorem dX12_work_109 : decode cX12_work 109 = .ok (.invokevirtual 150, 3) := by decide +kernel
theorem dX12_work_112 : decode cX12_work 112 = .ok (.ireturn, 1) := by decide +kernel
theorem dX12_work_113 : decode cX12_work 113 = .ok (.aload_n 0, 1) := by decide +kernel
theorem dX12_work_114 : decode cX12_work 114 = .ok (.iconst (-1), 1) := by decide +kernel
theorem dX12_work_115 : decode cX12_work 115 = .ok (.putfield 9, 3) := by decide +kernel
theorem dX12_work_118 : decode cX12_work 118 = .ok (.aload_n 0, 1) := by decide +kernel
theorem dX12_work_119 : decode cX12_work 119 = .ok (.getfield 49, 3) := by decide +kernel
theorem dX12_work_122 : decode cX12_work 122 = .ok (.aload_n 0, 1) := by decide +kernel
theorem dX12_work_123 : decode cX12_work 123 = .ok (.getfield 55, 3) := by decide +kernel
theorem dX12_work_126 : decode cX12_work 126 = .ok (.aload_n 0, 1) := by decide +kernel
theorem dX12_work_127 : decode cX12_work 127 = .ok (.getfield 163, 3) := by decide +kernel
theorem dX12_work_130 : decode cX12_work 130 = .ok (.aaload, 1) := by decide +kernel
theorem dX12_work_131 : decode cX12_work 131 = .ok (.invokestatic 351, 3) := by decide +kernel
theorem dX12_work_134 : decode cX12_work 134 = .ok (.aload_n 0, 1) := by decide +kernel
theorem dX12_work_135 : decode cX12_work 135 = .ok (.dup, 1) := by decide +kernel
theorem dX12_work_136 : decode cX12_work 136 = .ok (.getfield 163, 3) := by decide +kernel
theorem dX12_work_139 : decode cX12_work 139 = .ok (.iconst 1, 1) := by decide +kernel
theorem dX12_work_140 : decode cX12_work 140 = .ok (.iadd, 1) := by decide +kernel
theorem dX12_work_141 : decode cX12_work 141 = .ok (.putfield 163, 3) := by decide +kernel
theorem dX12_work_144 : decode cX12_work 144 = .ok (.aload_n 0, 1) := by decide +kernel
theorem dX12_work_145 : decode cX12_work 145 = .ok (.iconst 0, 1) := by decide +kernel
theorem dX12_work_146 : decode cX12_work 146 = .ok (.putfield 338, 3) := by decide +kernel
theorem dX12_work_149 : decode cX12_work 149 = .ok (.aload_n 0, 1) := by decide +kernel
theorem dX12_work_150 : decode cX12_work 150 = .ok (.iconst 0, 1) := by decide +kernel
theorem dX12_work_151 : decode cX12_work 151 = .ok (.putfield 348, 3) := by decide +kernel
theorem dX12_work_154 : decode cX12_work 154 = .ok (.aload_n 0, 1) := by decide +kernel
theorem dX12_work_155 : decode cX12_work 155 = .ok (.iconst 0, 1) := by decide +kernel
theorem dX12_work_156 : decode cX12_work 156 = .ok (.putfield 166, 3) := by decide +kernel
theorem dX12_work_159 : decode cX12_work 159 = .ok (.aload_n 0, 1) := by decide +kernel
theorem dX12_work_160 : decode cX12_work 160 = .ok (.iconst 0, 1) := by decide +kernel
theorem dX12_work_161 : decode cX12_work 161 = .ok (.aload_n 0, 1) := by decide +kernel
theorem dX12_work_162 : decode cX12_work 162 = .ok (.getfield 217, 3) := by decide +kernel
theorem dX12_work_165 : decode cX12_work 165 = .ok (.invokevirtual 341, 3) := by decide +kernel
theorem dX12_work_168 : decode cX12_work 168 = .ok (.aload_n 0, 1) := by decide +kernel
theorem dX12_work_169 : decode cX12_work 169 = .ok (.getfield 348, 3) := by decide +kernel
theorem dX12_work_172 : decode cX12_work 172 = .ok (.ireturn, 1) := by decide +kernel
theorem dX12_undo_0 : decode cX12_undo 0 = .ok (.aload_n 0, 1) := by decide +kernel
theorem dX12_undo_1 : decode cX12_undo 1 = .ok (.iconst 0, 1) := by decide +kernel
theorem dX12_undo_2 : decode cX12_undo 2 = .ok (.putfield 70, 3) := by decide +kernel
theorem dX12_undo_5 : decode cX12_undo 5 = .ok (.aload_n 0, 1) := by decide +kernel
theorem dX12_undo_6 : decode cX12_undo 6 = .ok (.getfield 163, 3) := by decide +kernel
theorem dX12_undo_9 : decode cX12_undo 9 = .ok (.ifCond .ne 5, 3) := by decide +kernel
theorem dX12_undo_12 : decode cX12_undo 12 = .ok (.iconst (-1), 1) := by decide +kernel
theorem dX12_undo_13 : decode cX12_undo 13 = .ok (.ireturn, 1) := by decide +kernel
theorem dX12_undo_14 : decode cX12_undo 14 = .ok (.aload_n 0, 1) := by decide +kernel
theorem dX12_undo_15 : decode cX12_undo 15 = .ok (.dup, 1) := by decide +kernel
theorem dX12_undo_16 : decode cX12_undo 16 = .ok (.getfield 163, 3) := by decide +kernel
theorem dX12_undo_19 : decode cX12_undo 19 = .ok (.iconst 1, 1) := by decide +kernel
theorem dX12_undo_20 : decode cX12_undo 20 = .ok (.isub, 1) := by decide +kernel
theorem dX12_undo_21 : decode cX12_undo 21 = .ok (.putfield 163, 3) := by decide +kernel
theorem dX12_undo_24 : decode cX12_undo 24 = .ok (.aload_n 0, 1) := by decide +kernel
theorem dX12_undo_25 : decode cX12_undo 25 = .ok (.getfield 55, 3) := by decide +kernel
theorem dX12_undo_28 : decode cX12_undo 28 = .ok (.aload_n 0, 1) := by decide +kernel
theorem dX12_undo_29 : decode cX12_undo 29 = .ok (.getfield 163, 3) := by decide +kernel
theorem dX12_undo_32 : decode cX12_undo 32 = .ok (.aaload, 1) := by decide +kernel
theorem dX12_undo_33 : decode cX12_undo 33 = .ok (.aload_n 0, 1) := by decide +kernel
theorem dX12_undo_34 : decode cX12_undo 34 = .ok (.getfield 49, 3) := by decide +kernel
theorem dX12_undo_37 : decode cX12_undo 37 = .ok (.invokestatic 351, 3) := by decide +kernel
theorem dX12_undo_40 : decode cX12_undo 40 = .ok (.aload_n 0, 1) := by decide +kernel
theorem dX12_undo_41 : decode cX12_undo 41 = .ok (.iconst 0, 1) := by decide +kernel
theorem dX12_undo_42 : decode cX12_undo 42 = .ok (.putfield 166, 3) := by decide +kernel
theorem dX12_undo_45 : decode cX12_undo 45 = .ok (.aload_n 0, 1) := by decide +kernel
theorem dX12_undo_46 : decode cX12_undo 46 = .ok (.getfield 163, 3) := by decide +kernel
theorem dX12_undo_49 : decode cX12_undo 49 = .ok (.ireturn, 1) := by decide +kernel
theorem dX12_told_0 : decode cX12_told 0 = .ok (.aload_n 0, 1) := by decide +kernel
theorem dX12_told_1 : decode cX12_told 1 = .ok (.iconst 0, 1) := by decide +kernel
theorem dX12_told_2 : decode cX12_told 2 = .ok (.putfield 70, 3) := by decide +kernel
theorem dX12_told_5 : decode cX12_told 5 = .ok (.aload_n 0, 1) := by decide +kernel
theorem dX12_told_6 : decode cX12_told 6 = .ok (.iload_n 1, 1) := by decide +kernel
theorem dX12_told_7 : decode cX12_told 7 = .ok (.iconst 0, 1) := by decide +kernel
theorem dX12_told_8 : decode cX12_told 8 = .ok (.bipush 11, 2) := by decide +kernel
theorem dX12_told_10 : decode cX12_told 10 = .ok (.invokestatic 104, 3) := by decide +kernel
theorem dX12_told_13 : decode cX12_told 13 = .ok (.ifCond .ne 7, 3) := by decide +kernel
theorem dX12_told_16 : decode cX12_told 16 = .ok (.iconst 1, 1) := by decide +kernel
theorem dX12_told_17 : decode cX12_told 17 = .ok (.goto 4, 3) := by decide +kernel
theorem dX12_told_20 : decode cX12_told 20 = .ok (.iconst 0, 1) := by decide +kernel
theorem dX12_told_21 : decode cX12_told 21 = .ok (.iconst 1, 1) := by decide +kernel
theorem dX12_told_22 : decode cX12_told 22 = .ok (.iconst 1, 1) := by decide +kernel
theorem dX12_told_23 : decode cX12_told 23 = .ok (.invokevirtual 140, 3) := by decide +kernel
theorem dX12_told_26 : decode cX12_told 26 = .ok (.ifCond .eq 5, 3) := by decide +kernel
theorem dX12_told_29 : decode cX12_told 29 = .ok (.iconst 0, 1) := by decide +kernel
theorem dX12_told_30 : decode cX12_told 30 = .ok (.ireturn, 1) := by decide +kernel
theorem dX12_told_31 : decode cX12_told 31 = .ok (.iconst 0, 1) := by decide +kernel
theorem dX12_told_32 : decode cX12_told 32 = .ok (.istore_n 2, 1) := by decide +kernel
theorem dX12_told_33 : decode cX12_told 33 = .ok (.iconst 0, 1) := by decide +kernel
theorem dX12_told_34 : decode cX12_told 34 = .ok (.istore_n 3, 1) := by decide +kernel
theorem dX12_told_35 : decode cX12_told 35 = .ok (.iload_n 3, 1) := by decide +kernel
theorem dX12_told_36 : decode cX12_told 36 = .ok (.aload_n 0, 1) := by decide +kernel
theorem dX12_told_37 : decode cX12_told 37 = .ok (.getfield 23, 3) := by decide +kernel
theorem dX12_told_40 : decode cX12_told 40 = .ok (.iconst 0, 1) := by decide +kernel
theorem dX12_told_41 : decode cX12_told 41 = .ok (.iaload, 1) := by decide +kernel
theorem dX12_told_42 : decode cX12_told 42 = .ok (.if_icmp .ge 24, 3) := by decide +kernel
theorem dX12_told_45 : decode cX12_told 45 = .ok (.iload_n 2, 1) := by decide +kernel
theorem dX12_told_46 : decode cX12_told 46 = .ok (.aload_n 0, 1) := by decide +kernel
theorem dX12_told_47 : decode cX12_told 47 = .ok (.getfield 49, 3) := by decide +kernel
theorem dX12_told_50 : decode cX12_told 50 = .ok (.bipush 24, 2) := by decide +kernel
theorem dX12_told_52 : decode cX12_told 52 = .ok (.iload_n 3, 1) := by decide +kernel
theorem dX12_told_53 : decode cX12_told 53 = .ok (.iadd, 1) := by decide +kernel
theorem dX12_told_54 : decode cX12_told 54 = .ok (.iaload, 1) := by decide +kernel
theorem dX12_told_55 : decode cX12_told 55 = .ok (.invokestatic 268, 3) := by decide +kernel
theorem dX12_told_58 : decode cX12_told 58 = .ok (.iadd, 1) := by decide +kernel
theorem dX12_told_59 : decode cX12_told 59 = .ok (.istore_n 2, 1) := by decide +kernel
theorem dX12_told_60 : decode cX12_told 60 = .ok (.iinc 3 1, 3) := by decide +kernel
theorem dX12_told_63 : decode cX12_told 63 = .ok (.goto (-28), 3) := by decide +kernel
theorem dX12_told_66 : decode cX12_told 66 = .ok (.iload_n 1, 1) := by decide +kernel
theorem dX12_told_67 : decode cX12_told 67 = .ok (.tableswitch 139 0 10 #[57, 64, 73, 82, 91, 100, 109, 118, 127, 129, 134], 57) := by decide +kernel
theorem dX12_told_124 : decode cX12_told 124 = .ok (.aload_n 0, 1) := by decide +kernel
theorem dX12_told_125 : decode cX12_told 125 = .ok (.getfield 23, 3) := by decide +kernel
theorem dX12_told_128 : decode cX12_told 128 = .ok (.iconst 0, 1) := by decide +kernel
theorem dX12_told_129 : decode cX12_told 129 = .ok (.iaload, 1) := by decide +kernel
theorem dX12_told_130 : decode cX12_told 130 = .ok (.ireturn, 1) := by decide +kernel
theorem dX12_told_131 : decode cX12_told 131 = .ok (.aload_n 0, 1) := by decide +kernel
theorem dX12_told_132 : decode cX12_told 132 = .ok (.getfield 49, 3) := by decide +kernel
theorem dX12_told_135 : decode cX12_told 135 = .ok (.sipush 181, 3) := by decide +kernel
theorem dX12_told_138 : decode cX12_told 138 = .ok (.iaload, 1) := by decide +kernel
theorem dX12_told_139 : decode cX12_told 139 = .ok (.ireturn, 1) := by decide +kernel
theorem dX12_told_140 : decode cX12_told 140 = .ok (.aload_n 0, 1) := by decide +kernel
theorem dX12_told_141 : decode cX12_told 141 = .ok (.getfield 49, 3) := by decide +kernel
theorem dX12_told_144 : decode cX12_told 144 = .ok (.sipush 182, 3) := by decide +kernel
theorem dX12_told_147 : decode cX12_told 147 = .ok (.iaload, 1) := by decide +kernel
theorem dX12_told_148 : decode cX12_told 148 = .ok (.ireturn, 1) := by decide +kernel
theorem dX12_told_149 : decode cX12_told 149 = .ok (.aload_n 0, 1) := by decide +kernel
theorem dX12_told_150 : decode cX12_told 150 = .ok (.getfield 49, 3) := by decide +kernel
