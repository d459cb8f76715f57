theorem dX11_member_95 : decode cX11_member 95 = .ok (.ireturn, 1) := by decide +kernel
theorem dX11_member_96 : decode cX11_member 96 = .ok (.aload_n 0, 1) := by decide +kernel
theorem dX11_member_97 : decode cX11_member 97 = .ok (.getfield 56, 3) := by decide +kernel
theorem dX11_member_100 : decode cX11_member 100 = .ok (.getfield 233, 3) := by decide +kernel
theorem dX11_member_103 : decode cX11_member 103 = .ok (.iload_n 1, 1) := by decide +kernel
theorem dX11_member_104 : decode cX11_member 104 = .ok (.iaload, 1) := by decide +kernel
theorem dX11_member_105 : decode cX11_member 105 = .ok (.invokestatic 227, 3) := by decide +kernel
theorem dX11_member_108 : decode cX11_member 108 = .ok (.ireturn, 1) := by decide +kernel
theorem dX11_member_109 : decode cX11_member 109 = .ok (.aload_n 0, 1) := by decide +kernel
theorem dX11_member_110 : decode cX11_member 110 = .ok (.getfield 56, 3) := by decide +kernel
theorem dX11_member_113 : decode cX11_member 113 = .ok (.getfield 236, 3) := by decide +kernel
theorem dX11_member_116 : decode cX11_member 116 = .ok (.iload_n 1, 1) := by decide +kernel
theorem dX11_member_117 : decode cX11_member 117 = .ok (.iaload, 1) := by decide +kernel
theorem dX11_member_118 : decode cX11_member 118 = .ok (.ireturn, 1) := by decide +kernel
theorem dX11_member_119 : decode cX11_member 119 = .ok (.aload_n 0, 1) := by decide +kernel
theorem dX11_member_120 : decode cX11_member 120 = .ok (.getfield 26, 3) := by decide +kernel
theorem dX11_member_123 : decode cX11_member 123 = .ok (.iload_n 1, 1) := by decide +kernel
theorem dX11_member_124 : decode cX11_member 124 = .ok (.aload_n 0, 1) := by decide +kernel
theorem dX11_member_125 : decode cX11_member 125 = .ok (.getfield 56, 3) := by decide +kernel
theorem dX11_member_128 : decode cX11_member 128 = .ok (.getfield 221, 3) := by decide +kernel
theorem dX11_member_131 : decode cX11_member 131 = .ok (.iload_n 1, 1) := by decide +kernel
theorem dX11_member_132 : decode cX11_member 132 = .ok (.iaload, 1) := by decide +kernel
theorem dX11_member_133 : decode cX11_member 133 = .ok (.aload_n 0, 1) := by decide +kernel
theorem dX11_member_134 : decode cX11_member 134 = .ok (.getfield 56, 3) := by decide +kernel
theorem dX11_member_137 : decode cX11_member 137 = .ok (.getfield 186, 3) := by decide +kernel
theorem dX11_member_140 : decode cX11_member 140 = .ok (.aload_n 0, 1) := by decide +kernel
theorem dX11_member_141 : decode cX11_member 141 = .ok (.getfield 56, 3) := by decide +kernel
theorem dX11_member_144 : decode cX11_member 144 = .ok (.getfield 189, 3) := by decide +kernel
theorem dX11_member_147 : decode cX11_member 147 = .ok (.invokestatic 227, 3) := by decide +kernel
theorem dX11_member_150 : decode cX11_member 150 = .ok (.invokevirtual 239, 3) := by decide +kernel
theorem dX11_member_153 : decode cX11_member 153 = .ok (.ireturn, 1) := by decide +kernel
theorem dX11_member_154 : decode cX11_member 154 = .ok (.aload_n 0, 1) := by decide +kernel
theorem dX11_member_155 : decode cX11_member 155 = .ok (.getfield 56, 3) := by decide +kernel
theorem dX11_member_158 : decode cX11_member 158 = .ok (.getfield 243, 3) := by decide +kernel
theorem dX11_member_161 : decode cX11_member 161 = .ok (.iload_n 1, 1) := by decide +kernel
theorem dX11_member_162 : decode cX11_member 162 = .ok (.iaload, 1) := by decide +kernel
theorem dX11_member_163 : decode cX11_member 163 = .ok (.ireturn, 1) := by decide +kernel
theorem dX11_tally_0 : decode cX11_tally 0 = .ok (.aload_n 0, 1) := by decide +kernel
theorem dX11_tally_1 : decode cX11_tally 1 = .ok (.iload_n 1, 1) := by decide +kernel
theorem dX11_tally_2 : decode cX11_tally 2 = .ok (.invokevirtual 214, 3) := by decide +kernel
theorem dX11_tally_5 : decode cX11_tally 5 = .ok (.aload_n 0, 1) := by decide +kernel
theorem dX11_tally_6 : decode cX11_tally 6 = .ok (.getfield 56, 3) := by decide +kernel
theorem dX11_tally_9 : decode cX11_tally 9 = .ok (.getfield 246, 3) := by decide +kernel
theorem dX11_tally_12 : decode cX11_tally 12 = .ok (.iload_n 1, 1) := by decide +kernel
theorem dX11_tally_13 : decode cX11_tally 13 = .ok (.laload, 1) := by decide +kernel
theorem dX11_tally_14 : decode cX11_tally 14 = .ok (.lreturn, 1) := by decide +kernel
theorem dX11_log_0 : decode cX11_log 0 = .ok (.aload_n 0, 1) := by decide +kernel
theorem dX11_log_1 : decode cX11_log 1 = .ok (.iload_n 1, 1) := by decide +kernel
theorem dX11_log_2 : decode cX11_log 2 = .ok (.invokevirtual 214, 3) := by decide +kernel
theorem dX11_log_5 : decode cX11_log 5 = .ok (.aload_n 0, 1) := by decide +kernel
theorem dX11_log_6 : decode cX11_log 6 = .ok (.aload_n 0, 1) := by decide +kernel
theorem dX11_log_7 : decode cX11_log 7 = .ok (.getfield 56, 3) := by decide +kernel
theorem dX11_log_10 : decode cX11_log 10 = .ok (.getfield 221, 3) := by decide +kernel
theorem dX11_log_13 : decode cX11_log 13 = .ok (.iload_n 1, 1) := by decide +kernel
theorem dX11_log_14 : decode cX11_log 14 = .ok (.iaload, 1) := by decide +kernel
theorem dX11_log_15 : decode cX11_log 15 = .ok (.ifCond .le 7, 3) := by decide +kernel
theorem dX11_log_18 : decode cX11_log 18 = .ok (.iconst 1, 1) := by decide +kernel
theorem dX11_log_19 : decode cX11_log 19 = .ok (.goto 4, 3) := by decide +kernel
theorem dX11_log_22 : decode cX11_log 22 = .ok (.iconst 0, 1) := by decide +kernel
theorem dX11_log_23 : decode cX11_log 23 = .ok (.invokevirtual 250, 3) := by decide +kernel
theorem dX11_log_26 : decode cX11_log 26 = .ok (.aload_n 0, 1) := by decide +kernel
theorem dX11_log_27 : decode cX11_log 27 = .ok (.iload_n 2, 1) := by decide +kernel
theorem dX11_log_28 : decode cX11_log 28 = .ok (.iconst 0, 1) := by decide +kernel
theorem dX11_log_29 : decode cX11_log 29 = .ok (.bipush 63, 2) := by decide +kernel
theorem dX11_log_31 : decode cX11_log 31 = .ok (.invokestatic 178, 3) := by decide +kernel
theorem dX11_log_34 : decode cX11_log 34 = .ok (.ifCond .eq 20, 3) := by decide +kernel
theorem dX11_log_37 : decode cX11_log 37 = .ok (.iload_n 2, 1) := by decide +kernel
theorem dX11_log_38 : decode cX11_log 38 = .ok (.aload_n 0, 1) := by decide +kernel
theorem dX11_log_39 : decode cX11_log 39 = .ok (.getfield 56, 3) := by decide +kernel
theorem dX11_log_42 : decode cX11_log 42 = .ok (.getfield 243, 3) := by decide +kernel
theorem dX11_log_45 : decode cX11_log 45 = .ok (.iload_n 1, 1) := by decide +kernel
theorem dX11_log_46 : decode cX11_log 46 = .ok (.iaload, 1) := by decide +kernel
theorem dX11_log_47 : decode cX11_log 47 = .ok (.if_icmp .ge 7, 3) := by decide +kernel
theorem dX11_log_50 : decode cX11_log 50 = .ok (.iconst 1, 1) := by decide +kernel
theorem dX11_log_51 : decode cX11_log 51 = .ok (.goto 4, 3) := by decide +kernel
theorem dX11_log_54 : decode cX11_log 54 = .ok (.iconst 0, 1) := by decide +kernel
theorem dX11_log_55 : decode cX11_log 55 = .ok (.invokevirtual 253, 3) := by decide +kernel
theorem dX11_log_58 : decode cX11_log 58 = .ok (.aload_n 0, 1) := by decide +kernel
theorem dX11_log_59 : decode cX11_log 59 = .ok (.getfield 56, 3) := by decide +kernel
theorem dX11_log_62 : decode cX11_log 62 = .ok (.getfield 256, 3) := by decide +kernel
theorem dX11_log_65 : decode cX11_log 65 = .ok (.iload_n 1, 1) := by decide +kernel
theorem dX11_log_66 : decode cX11_log 66 = .ok (.bipush 64, 2) := by decide +kernel
theorem dX11_log_68 : decode cX11_log 68 = .ok (.imul, 1) := by decide +kernel
theorem dX11_log_69 : decode cX11_log 69 = .ok (.iload_n 2, 1) := by decide +kernel
theorem dX11_log_70 : decode cX11_log 70 = .ok (.iadd, 1) := by decide +kernel
theorem dX11_log_71 : decode cX11_log 71 = .ok (.laload, 1) := by decide +kernel
theorem dX11_log_72 : decode cX11_log 72 = .ok (.lreturn, 1) := by decide +kernel
theorem dX11_message_0 : decode cX11_message 0 = .ok (.aload_n 0, 1) := by decide +kernel
theorem dX11_message_1 : decode cX11_message 1 = .ok (.iload_n 2, 1) := by decide +kernel
theorem dX11_message_2 : decode cX11_message 2 = .ok (.iconst 0, 1) := by decide +kernel
theorem dX11_message_3 : decode cX11_message 3 = .ok (.iconst 4, 1) := by decide +kernel
theorem dX11_message_4 : decode cX11_message 4 = .ok (.invokestatic 178, 3) := by decide +kernel
theorem dX11_message_7 : decode cX11_message 7 = .ok (.invokevirtual 182, 3) := by decide +kernel
theorem dX11_message_10 : decode cX11_message 10 = .ok (.aload_n 0, 1) := by decide +kernel
theorem dX11_message_11 : decode cX11_message 11 = .ok (.iload_n 1, 1) := by decide +kernel
theorem dX11_message_12 : decode cX11_message 12 = .ok (.iconst 0, 1) := by decide +kernel
theorem dX11_message_13 : decode cX11_message 13 = .ok (.bipush 29, 2) := by decide +kernel
theorem dX11_message_15 : decode cX11_message 15 = .ok (.invokestatic 178, 3) := by decide +kernel
theorem dX11_message_18 : decode cX11_message 18 = .ok (.invokevirtual 253, 3) := by decide +kernel
theorem dX11_message_21 : decode cX11_message 21 = .ok (.aload_n 0, 1) := by decide +kernel
theorem dX11_message_22 : decode cX11_message 22 = .ok (.iload_n 1, 1) := by decide +kernel
theorem dX11_message_23 : decode cX11_message 23 = .ok (.aload_n 0, 1) := by decide +kernel
theorem dX11_message_24 : decode cX11_message 24 = .ok (.getfield 56, 3) := by decide +kernel
theorem dX11_message_27 : decode cX11_message 27 = .ok (.getfield 204, 3) := by decide +kernel
theorem dX11_message_30 : decode cX11_message 30 = .ok (.if_icmp .ge 7, 3) := by decide +kernel
theorem dX11_message_33 : decode cX11_message 33 = .ok (.iconst 1, 1) := by decide +kernel
theorem dX11_message_34 : decode cX11_message 34 = .ok (.goto 4, 3) := by decide +kernel
theorem dX11_message_37 : decode cX11_message 37 = .ok (.iconst 0, 1) := by decide +kernel
theorem dX11_message_38 : decode cX11_message 38 = .ok (.invokevirtual 250, 3) := by decide +kernel
theorem dX11_message_41 : decode cX11_message 41 = .ok (.iload_n 2, 1) := by decide +kernel
theorem dX11_message_42 : decode cX11_message 42 = .ok (.tableswitch 74 0 3 #[30, 40, 50, 62], 30) := by decide +kernel
theorem dX11_message_72 : decode cX11_message 72 = .ok (.aload_n 0, 1) := by decide +kernel
theorem dX11_message_73 : decode cX11_message 73 = .ok (.getfield 56, 3) := by decide +kernel
theorem dX11_message_76 : decode cX11_message 76 = .ok (.getfield 259, 3) := by decide +kernel
theorem dX11_message_79 : decode cX11_message 79 = .ok (.iload_n 1, 1) := by decide +kernel
theorem dX11_message_80 : decode cX11_message 80 = .ok (.iaload, 1) := by decide +kernel
theorem dX11_message_81 : decode cX11_message 81 = .ok (.ireturn, 1) := by decide +kernel
theorem dX11_message_82 : decode cX11_message 82 = .ok (.aload_n 0, 1) := by decide +kernel
theorem dX11_message_83 : decode cX11_message 83 = .ok (.getfield 56, 3) := by decide +kernel
theorem dX11_message_86 : decode cX11_message 86 = .ok (.getfield 262, 3) := by decide +kernel
theorem dX11_message_89 : decode cX11_message 89 = .ok (.iload_n 1, 1) := by decide +kernel
theorem dX11_message_90 : decode cX11_message 90 = .ok (.iaload, 1) := by decide +kernel
theorem dX11_message_91 : decode cX11_message 91 = .ok (.ireturn, 1) := by decide +kernel
theorem dX11_message_92 : decode cX11_message 92 = .ok (.aload_n 0, 1) := by decide +kernel
theorem dX11_message_93 : decode cX11_message 93 = .ok (.getfield 56, 3) := by decide +kernel
theorem dX11_message_96 : decode cX11_message 96 = .ok (.getfield 224, 3) := by decide +kernel
theorem dX11_message_99 : decode cX11_message 99 = .ok (.iload_n 1, 1) := by decide +kernel
theorem dX11_message_100 : decode cX11_message 100 = .ok (.invokestatic 265, 3) := by decide +kernel
theorem dX11_message_103 : decode cX11_message 103 = .ok (.ireturn, 1) := by decide +kernel
theorem dX11_message_104 : decode cX11_message 104 = .ok (.aload_n 0, 1) := by decide +kernel
theorem dX11_message_105 : decode cX11_message 105 = .ok (.getfield 56, 3) := by decide +kernel
theorem dX11_message_108 : decode cX11_message 108 = .ok (.getfield 233, 3) := by decide +kernel
theorem dX11_message_111 : decode cX11_message 111 = .ok (.iload_n 1, 1) := by decide +kernel
theorem dX11_message_112 : decode cX11_message 112 = .ok (.invokestatic 265, 3) := by decide +kernel
theorem dX11_message_115 : decode cX11_message 115 = .ok (.ireturn, 1) := by decide +kernel
theorem dX11_message_116 : decode cX11_message 116 = .ok (.aload_n 0, 1) := by decide +kernel
theorem dX11_message_117 : decode cX11_message 117 = .ok (.getfield 56, 3) := by decide +kernel
theorem dX11_message_120 : decode cX11_message 120 = .ok (.getfield 269, 3) := by decide +kernel
theorem dX11_message_123 : decode cX11_message 123 = .ok (.iload_n 1, 1) := by decide +kernel
theorem dX11_message_124 : decode cX11_message 124 = .ok (.iaload, 1) := by decide +kernel
theorem dX11_message_125 : decode cX11_message 125 = .ok (.ireturn, 1) := by decide +kernel
theorem dX11_knows_0 : decode cX11_knows 0 = .ok (.aload_n 0, 1) := by decide +kernel
theorem dX11_knows_1 : decode cX11_knows 1 = .ok (.iload_n 1, 1) := by decide +kernel
theorem dX11_knows_2 : decode cX11_knows 2 = .ok (.invokevirtual 214, 3) := by decide +kernel
theorem dX11_knows_5 : decode cX11_knows 5 = .ok (.aload_n 0, 1) := by decide +kernel
theorem dX11_knows_6 : decode cX11_knows 6 = .ok (.iload_n 2, 1) := by decide +kernel
theorem dX11_knows_7 : decode cX11_knows 7 = .ok (.invokevirtual 214, 3) := by decide +kernel
theorem dX11_knows_10 : decode cX11_knows 10 = .ok (.aload_n 0, 1) := by decide +kernel
theorem dX11_knows_11 : decode cX11_knows 11 = .ok (.getfield 56, 3) := by decide +kernel
theorem dX11_knows_14 : decode cX11_knows 14 = .ok (.getfield 272, 3) := by decide +kernel
theorem dX11_knows_17 : decode cX11_knows 17 = .ok (.iload_n 1, 1) := by decide +kernel
theorem dX11_knows_18 : decode cX11_knows 18 = .ok (.bipush 6, 2) := by decide +kernel
theorem dX11_knows_20 : decode cX11_knows 20 = .ok (.imul, 1) := by decide +kernel
theorem dX11_knows_21 : decode cX11_knows 21 = .ok (.iload_n 2, 1) := by decide +kernel
theorem dX11_knows_22 : decode cX11_knows 22 = .ok (.iadd, 1) := by decide +kernel
theorem dX11_knows_23 : decode cX11_knows 23 = .ok (.iaload, 1) := by decide +kernel
theorem dX11_knows_24 : decode cX11_knows 24 = .ok (.ireturn, 1) := by decide +kernel
theorem dX11_stable_0 : decode cX11_stable 0 = .ok (.aload_n 0, 1) := by decide +kernel
theorem dX11_stable_1 : decode cX11_stable 1 = .ok (.iload_n 1, 1) := by decide +kernel
theorem dX11_stable_2 : decode cX11_stable 2 = .ok (.invokevirtual 214, 3) := by decide +kernel
theorem dX11_stable_5 : decode cX11_stable 5 = .ok (.aload_n 0, 1) := by decide +kernel
theorem dX11_stable_6 : decode cX11_stable 6 = .ok (.getfield 56, 3) := by decide +kernel
theorem dX11_stable_9 : decode cX11_stable 9 = .ok (.iload_n 1, 1) := by decide +kernel
theorem dX11_stable_10 : decode cX11_stable 10 = .ok (.invokevirtual 275, 3) := by decide +kernel
theorem dX11_stable_13 : decode cX11_stable 13 = .ok (.ireturn, 1) := by decide +kernel
theorem dX11_would_0 : decode cX11_would 0 = .ok (.aload_n 0, 1) := by decide +kernel
theorem dX11_would_1 : decode cX11_would 1 = .ok (.iload_n 1, 1) := by decide +kernel
theorem dX11_would_2 : decode cX11_would 2 = .ok (.iconst 0, 1) := by decide +kernel
theorem dX11_would_3 : decode cX11_would 3 = .ok (.iconst 5, 1) := by decide +kernel
theorem dX11_would_4 : decode cX11_would 4 = .ok (.invokestatic 178, 3) := by decide +kernel
theorem dX11_would_7 : decode cX11_would 7 = .ok (.ifCond .eq 18, 3) := by decide +kernel
theorem dX11_would_10 : decode cX11_would 10 = .ok (.iload_n 2, 1) := by decide +kernel
theorem dX11_would_11 : decode cX11_would 11 = .ok (.iconst 0, 1) := by decide +kernel
theorem dX11_would_12 : decode cX11_would 12 = .ok (.sipush 9999, 3) := by decide +kernel
theorem dX11_would_15 : decode cX11_would 15 = .ok (.invokestatic 178, 3) := by decide +kernel
theorem dX11_would_18 : decode cX11_would 18 = .ok (.ifCond .eq 7, 3) := by decide +kernel
theorem dX11_would_21 : decode cX11_would 21 = .ok (.iconst 1, 1) := by decide +kernel
theorem dX11_would_22 : decode cX11_would 22 = .ok (.goto 4, 3) := by decide +kernel
theorem dX11_would_25 : decode cX11_would 25 = .ok (.iconst 0, 1) := by decide +kernel
theorem dX11_would_26 : decode cX11_would 26 = .ok (.invokevirtual 182, 3) := by decide +kernel
theorem dX11_would_29 : decode cX11_would 29 = .ok (.aload_n 0, 1) := by decide +kernel
theorem dX11_would_30 : decode cX11_would 30 = .ok (.iload_n 3, 1) := by decide +kernel
theorem dX11_would_31 : decode cX11_would 31 = .ok (.iconst 0, 1) := by decide +kernel
theorem dX11_would_32 : decode cX11_would 32 = .ok (.sipush 9999, 3) := by decide +kernel
theorem dX11_would_35 : decode cX11_would 35 = .ok (.invokestatic 178, 3) := by decide +kernel
theorem dX11_would_38 : decode cX11_would 38 = .ok (.ifCond .eq 18, 3) := by decide +kernel
theorem dX11_would_41 : decode cX11_would 41 = .ok (.iload 4, 2) := by decide +kernel
theorem dX11_would_43 : decode cX11_would 43 = .ok (.iconst 0, 1) := by decide +kernel
theorem dX11_would_44 : decode cX11_would 44 = .ok (.bipush 6, 2) := by decide +kernel
theorem dX11_would_46 : decode cX11_would 46 = .ok (.invokestatic 178, 3) := by decide +kernel
theorem dX11_would_49 : decode cX11_would 49 = .ok (.ifCond .eq 7, 3) := by decide +kernel
theorem dX11_would_52 : decode cX11_would 52 = .ok (.iconst 1, 1) := by decide +kernel
theorem dX11_would_53 : decode cX11_would 53 = .ok (.goto 4, 3) := by decide +kernel
theorem dX11_would_56 : decode cX11_would 56 = .ok (.iconst 0, 1) := by decide +kernel
theorem dX11_would_57 : decode cX11_would 57 = .ok (.invokevirtual 182, 3) := by decide +kernel
theorem dX11_would_60 : decode cX11_would 60 = .ok (.aload_n 0, 1) := by decide +kernel
theorem dX11_would_61 : decode cX11_would 61 = .ok (.getfield 26, 3) := by decide +kernel
theorem dX11_would_64 : decode cX11_would 64 = .ok (.iload_n 1, 1) := by decide +kernel
theorem dX11_would_65 : decode cX11_would 65 = .ok (.iload_n 2, 1) := by decide +kernel
theorem dX11_would_66 : decode cX11_would 66 = .ok (.iload_n 3, 1) := by decide +kernel
theorem dX11_would_67 : decode cX11_would 67 = .ok (.iload 4, 2) := by decide +kernel
theorem dX11_would_69 : decode cX11_would 69 = .ok (.invokevirtual 239, 3) := by decide +kernel
theorem dX11_would_72 : decode cX11_would 72 = .ok (.ireturn, 1) := by decide +kernel
theorem dX11_primary_0 : decode cX11_primary 0 = .ok (.aload_n 0, 1) := by decide +kernel
theorem dX11_primary_1 : decode cX11_primary 1 = .ok (.getfield 49, 3) := by decide +kernel
theorem dX11_primary_4 : decode cX11_primary 4 = .ok (.aload_n 0, 1) := by decide +kernel
theorem dX11_primary_5 : decode cX11_primary 5 = .ok (.getfield 56, 3) := by decide +kernel
theorem dX11_primary_8 : decode cX11_primary 8 = .ok (.invokevirtual 278, 3) := by decide +kernel
theorem dX11_primary_11 : decode cX11_primary 11 = .ok (.ireturn, 1) := by decide +kernel
theorem dX11_missing_0 : decode cX11_missing 0 = .ok (.aload_n 0, 1) := by decide +kernel
theorem dX11_missing_1 : decode cX11_missing 1 = .ok (.iload_n 1, 1) := by decide +kernel
theorem dX11_missing_2 : decode cX11_missing 2 = .ok (.invokevirtual 214, 3) := by decide +kernel
theorem dX11_missing_5 : decode cX11_missing 5 = .ok (.aload_n 0, 1) := by decide +kernel
theorem dX11_missing_6 : decode cX11_missing 6 = .ok (.getfield 56, 3) := by decide +kernel
theorem dX11_missing_9 : decode cX11_missing 9 = .ok (.iload_n 1, 1) := by decide +kernel
theorem dX11_missing_10 : decode cX11_missing 10 = .ok (.aload_n 0, 1) := by decide +kernel
theorem dX11_missing_11 : decode cX11_missing 11 = .ok (.getfield 49, 3) := by decide +kernel
theorem dX11_missing_14 : decode cX11_missing 14 = .ok (.aload_n 0, 1) := by decide +kernel
theorem dX11_missing_15 : decode cX11_missing 15 = .ok (.getfield 56, 3) := by decide +kernel
theorem dX11_missing_18 : decode cX11_missing 18 = .ok (.invokevirtual 282, 3) := by decide +kernel
theorem dX11_missing_21 : decode cX11_missing 21 = .ok (.invokevirtual 285, 3) := by decide +kernel
theorem dX11_missing_24 : decode cX11_missing 24 = .ok (.ireturn, 1) := by decide +kernel
theorem dX11_lost_0 : decode cX11_lost 0 = .ok (.aload_n 0, 1) := by decide +kernel
theorem dX11_lost_1 : decode cX11_lost 1 = .ok (.getfield 49, 3) := by decide +kernel
theorem dX11_lost_4 : decode cX11_lost 4 = .ok (.aload_n 0, 1) := by decide +kernel
theorem dX11_lost_5 : decode cX11_lost 5 = .ok (.getfield 56, 3) := by decide +kernel
theorem dX11_lost_8 : decode cX11_lost 8 = .ok (.invokevirtual 278, 3) := by decide +kernel
theorem dX11_lost_11 : decode cX11_lost 11 = .ok (.istore_n 1, 1) := by decide +kernel
theorem dX11_lost_12 : decode cX11_lost 12 = .ok (.iload_n 1, 1) := by decide +kernel
theorem dX11_lost_13 : decode cX11_lost 13 = .ok (.iconst (-1), 1) := by decide +kernel
theorem dX11_lost_14 : decode cX11_lost 14 = .ok (.if_icmp .ne 7, 3) := by decide +kernel
theorem dX11_lost_17 : decode cX11_lost 17 = .ok (.iconst 0, 1) := by decide +kernel
theorem dX11_lost_18 : decode cX11_lost 18 = .ok (.goto 11, 3) := by decide +kernel
theorem dX11_lost_21 : decode cX11_lost 21 = .ok (.aload_n 0, 1) := by decide +kernel
theorem dX11_lost_22 : decode cX11_lost 22 = .ok (.getfield 56, 3) := by decide +kernel
theorem dX11_lost_25 : decode cX11_lost 25 = .ok (.iload_n 1, 1) := by decide +kernel
theorem dX11_lost_26 : decode cX11_lost 26 = .ok (.invokevirtual 289, 3) := by decide +kernel
theorem dX11_lost_29 : decode cX11_lost 29 = .ok (.ireturn, 1) := by decide +kernel
theorem dX11_fall_0 : decode cX11_fall 0 = .ok (.aload_n 0, 1) := by decide +kernel
theorem dX11_fall_1 : decode cX11_fall 1 = .ok (.getfield 49, 3) := by decide +kernel
theorem dX11_fall_4 : decode cX11_fall 4 = .ok (.aload_n 0, 1) := by decide +kernel
theorem dX11_fall_5 : decode cX11_fall 5 = .ok (.getfield 56, 3) := by decide +kernel
theorem dX11_fall_8 : decode cX11_fall 8 = .ok (.invokevirtual 292, 3) := by decide +kernel
theorem dX11_fall_11 : decode cX11_fall 11 = .ok (.ireturn, 1) := by decide +kernel
theorem dX11_splits_0 : decode cX11_splits 0 = .ok (.aload_n 0, 1) := by decide +kernel
theorem dX11_splits_1 : decode cX11_splits 1 = .ok (.getfield 49, 3) := by decide +kernel
theorem dX11_splits_4 : decode cX11_splits 4 = .ok (.aload_n 0, 1) := by decide +kernel
theorem dX11_splits_5 : decode cX11_splits 5 = .ok (.getfield 56, 3) := by decide +kernel
theorem dX11_splits_8 : decode cX11_splits 8 = .ok (.invokevirtual 295, 3) := by decide +kernel
theorem dX11_splits_11 : decode cX11_splits 11 = .ok (.ireturn, 1) := by decide +kernel
theorem dX11_tells_0 : decode cX11_tells 0 = .ok (.aload_n 0, 1) := by decide +kernel
theorem dX11_tells_1 : decode cX11_tells 1 = .ok (.getfield 56, 3) := by decide +kernel
theorem dX11_tells_4 : decode cX11_tells 4 = .ok (.invokevirtual 298, 3) := by decide +kernel
theorem dX11_tells_7 : decode cX11_tells 7 = .ok (.ireturn, 1) := by decide +kernel
theorem dX11_next_0 : decode cX11_next 0 = .ok (.aload_n 0, 1) := by decide +kernel
theorem dX11_next_1 : decode cX11_next 1 = .ok (.iload_n 1, 1) := by decide +kernel
theorem dX11_next_2 : decode cX11_next 2 = .ok (.invokevirtual 214, 3) := by decide +kernel
theorem dX11_next_5 : decode cX11_next 5 = .ok (.aload_n 0, 1) := by decide +kernel
theorem dX11_next_6 : decode cX11_next 6 = .ok (.getfield 56, 3) := by decide +kernel
theorem dX11_next_9 : decode cX11_next 9 = .ok (.iload_n 1, 1) := by decide +kernel
theorem dX11_next_10 : decode cX11_next 10 = .ok (.iconst 1, 1) := by decide +kernel
theorem dX11_next_11 : decode cX11_next 11 = .ok (.invokevirtual 301, 3) := by decide +kernel
theorem dX11_next_14 : decode cX11_next 14 = .ok (.ireturn, 1) := by decide +kernel
theorem dX11_held_0 : decode cX11_held 0 = .ok (.aload_n 0, 1) := by decide +kernel
theorem dX11_held_1 : decode cX11_held 1 = .ok (.iload_n 1, 1) := by decide +kernel
theorem dX11_held_2 : decode cX11_held 2 = .ok (.invokevirtual 214, 3) := by decide +kernel
theorem dX11_held_5 : decode cX11_held 5 = .ok (.aload_n 0, 1) := by decide +kernel
theorem dX11_held_6 : decode cX11_held 6 = .ok (.iload_n 2, 1) := by decide +kernel
theorem dX11_held_7 : decode cX11_held 7 = .ok (.ifCond .lt 7, 3) := by decide +kernel
theorem dX11_held_10 : decode cX11_held 10 = .ok (.iconst 1, 1) := by decide +kernel
theorem dX11_held_11 : decode cX11_held 11 = .ok (.goto 4, 3) := by decide +kernel
theorem dX11_held_14 : decode cX11_held 14 = .ok (.iconst 0, 1) := by decide +kernel
theorem dX11_held_15 : decode cX11_held 15 = .ok (.invokevirtual 182, 3) := by decide +kernel
theorem dX11_held_18 : decode cX11_held 18 = .ok (.iload_n 2, 1) := by decide +kernel
theorem dX11_held_19 : decode cX11_held 19 = .ok (.bipush 8, 2) := by decide +kernel
theorem dX11_held_21 : decode cX11_held 21 = .ok (.if_icmp .ge 16, 3) := by decide +kernel
theorem dX11_held_24 : decode cX11_held 24 = .ok (.iload_n 2, 1) := by decide +kernel
theorem dX11_held_25 : decode cX11_held 25 = .ok (.aload_n 0, 1) := by decide +kernel
theorem dX11_held_26 : decode cX11_held 26 = .ok (.getfield 56, 3) := by decide +kernel
theorem dX11_held_29 : decode cX11_held 29 = .ok (.getfield 236, 3) := by decide +kernel
theorem dX11_held_32 : decode cX11_held 32 = .ok (.iload_n 1, 1) := by decide +kernel
theorem dX11_held_33 : decode cX11_held 33 = .ok (.iaload, 1) := by decide +kernel
theorem dX11_held_34 : decode cX11_held 34 = .ok (.if_icmp .lt 5, 3) := by decide +kernel
theorem dX11_held_37 : decode cX11_held 37 = .ok (.iconst (-1), 1) := by decide +kernel
theorem dX11_held_38 : decode cX11_held 38 = .ok (.ireturn, 1) := by decide +kernel
theorem dX11_held_39 : decode cX11_held 39 = .ok (.aload_n 0, 1) := by decide +kernel
theorem dX11_held_40 : decode cX11_held 40 = .ok (.getfield 56, 3) := by decide +kernel
theorem dX11_held_43 : decode cX11_held 43 = .ok (.getfield 305, 3) := by decide +kernel
theorem dX11_held_46 : decode cX11_held 46 = .ok (.iload_n 1, 1) := by decide +kernel
theorem dX11_held_47 : decode cX11_held 47 = .ok (.bipush 8, 2) := by decide +kernel
theorem dX11_held_49 : decode cX11_held 49 = .ok (.imul, 1) := by decide +kernel
theorem dX11_held_50 : decode cX11_held 50 = .ok (.iload_n 2, 1) := by decide +kernel
theorem dX11_held_51 : decode cX11_held 51 = .ok (.iadd, 1) := by decide +kernel
theorem dX11_held_52 : decode cX11_held 52 = .ok (.iaload, 1) := by decide +kernel
theorem dX11_held_53 : decode cX11_held 53 = .ok (.ireturn, 1) := by decide +kernel
theorem dX11_agree_0 : decode cX11_agree 0 = .ok (.aload_n 0, 1) := by decide +kernel
theorem dX11_agree_1 : decode cX11_agree 1 = .ok (.getfield 56, 3) := by decide +kernel
theorem dX11_agree_4 : decode cX11_agree 4 = .ok (.aload_n 0, 1) := by decide +kernel
theorem dX11_agree_5 : decode cX11_agree 5 = .ok (.getfield 49, 3) := by decide +kernel
theorem dX11_agree_8 : decode cX11_agree 8 = .ok (.aload_n 0, 1) := by decide +kernel
theorem dX11_agree_9 : decode cX11_agree 9 = .ok (.getfield 56, 3) := by decide +kernel
theorem dX11_agree_12 : decode cX11_agree 12 = .ok (.invokevirtual 282, 3) := by decide +kernel
theorem dX11_agree_15 : decode cX11_agree 15 = .ok (.invokevirtual 308, 3) := by decide +kernel
theorem dX11_agree_18 : decode cX11_agree 18 = .ok (.ireturn, 1) := by decide +kernel
theorem dX11_fits_0 : decode cX11_fits 0 = .ok (.aload_n 0, 1) := by decide +kernel
theorem dX11_fits_1 : decode cX11_fits 1 = .ok (.iload_n 1, 1) := by decide +kernel
theorem dX11_fits_2 : decode cX11_fits 2 = .ok (.iconst 0, 1) := by decide +kernel
theorem dX11_fits_3 : decode cX11_fits 3 = .ok (.iconst 1, 1) := by decide +kernel
theorem dX11_fits_4 : decode cX11_fits 4 = .ok (.invokestatic 178, 3) := by decide +kernel
theorem dX11_fits_7 : decode cX11_fits 7 = .ok (.invokevirtual 182, 3) := by decide +kernel
theorem dX11_fits_10 : decode cX11_fits 10 = .ok (.aload_n 0, 1) := by decide +kernel
theorem dX11_fits_11 : decode cX11_fits 11 = .ok (.getfield 40, 3) := by decide +kernel
theorem dX11_fits_14 : decode cX11_fits 14 = .ok (.aload_n 0, 1) := by decide +kernel
theorem dX11_fits_15 : decode cX11_fits 15 = .ok (.getfield 56, 3) := by decide +kernel
theorem dX11_fits_18 : decode cX11_fits 18 = .ok (.aload_n 0, 1) := by decide +kernel
theorem dX11_fits_19 : decode cX11_fits 19 = .ok (.getfield 49, 3) := by decide +kernel
theorem dX11_fits_22 : decode cX11_fits 22 = .ok (.invokevirtual 311, 3) := by decide +kernel
theorem dX11_fits_25 : decode cX11_fits 25 = .ok (.iload_n 1, 1) := by decide +kernel
theorem dX11_fits_26 : decode cX11_fits 26 = .ok (.ifCond .ne 13, 3) := by decide +kernel
theorem dX11_fits_29 : decode cX11_fits 29 = .ok (.aload_n 0, 1) := by decide +kernel
theorem dX11_fits_30 : decode cX11_fits 30 = .ok (.getfield 40, 3) := by decide +kernel
theorem dX11_fits_33 : decode cX11_fits 33 = .ok (.getfield 315, 3) := by decide +kernel
theorem dX11_fits_36 : decode cX11_fits 36 = .ok (.goto 10, 3) := by decide +kernel
theorem dX11_fits_39 : decode cX11_fits 39 = .ok (.aload_n 0, 1) := by decide +kernel
theorem dX11_fits_40 : decode cX11_fits 40 = .ok (.getfield 40, 3) := by decide +kernel
theorem dX11_fits_43 : decode cX11_fits 43 = .ok (.getfield 318, 3) := by decide +kernel
theorem dX11_fits_46 : decode cX11_fits 46 = .ok (.ireturn, 1) := by decide +kernel
theorem dX11_look_0 : decode cX11_look 0 = .ok (.aload_n 0, 1) := by decide +kernel
theorem dX11_look_1 : decode cX11_look 1 = .ok (.iload_n 1, 1) := by decide +kernel
theorem dX11_look_2 : decode cX11_look 2 = .ok (.iconst 0, 1) := by decide +kernel
theorem dX11_look_3 : decode cX11_look 3 = .ok (.iconst 1, 1) := by decide +kernel
theorem dX11_look_4 : decode cX11_look 4 = .ok (.invokestatic 178, 3) := by decide +kernel
theorem dX11_look_7 : decode cX11_look 7 = .ok (.invokevirtual 182, 3) := by decide +kernel
theorem dX11_look_10 : decode cX11_look 10 = .ok (.aload_n 0, 1) := by decide +kernel
theorem dX11_look_11 : decode cX11_look 11 = .ok (.getfield 40, 3) := by decide +kernel
theorem dX11_look_14 : decode cX11_look 14 = .ok (.aload_n 0, 1) := by decide +kernel
theorem dX11_look_15 : decode cX11_look 15 = .ok (.getfield 56, 3) := by decide +kernel
theorem dX11_look_18 : decode cX11_look 18 = .ok (.aload_n 0, 1) := by decide +kernel
theorem dX11_look_19 : decode cX11_look 19 = .ok (.getfield 49, 3) := by decide +kernel
theorem dX11_look_22 : decode cX11_look 22 = .ok (.invokevirtual 311, 3) := by decide +kernel
theorem dX11_look_25 : decode cX11_look 25 = .ok (.aload_n 0, 1) := by decide +kernel
theorem dX11_look_26 : decode cX11_look 26 = .ok (.getfield 40, 3) := by decide +kernel
theorem dX11_look_29 : decode cX11_look 29 = .ok (.aload_n 0, 1) := by decide +kernel
theorem dX11_look_30 : decode cX11_look 30 = .ok (.getfield 19, 3) := by decide +kernel
theorem dX11_look_33 : decode cX11_look 33 = .ok (.getfield 134, 3) := by decide +kernel
theorem dX11_look_36 : decode cX11_look 36 = .ok (.invokevirtual 321, 3) := by decide +kernel
theorem dX11_look_39 : decode cX11_look 39 = .ok (.istore_n 2, 1) := by decide +kernel
theorem dX11_look_40 : decode cX11_look 40 = .ok (.iload_n 1, 1) := by decide +kernel
theorem dX11_look_41 : decode cX11_look 41 = .ok (.ifCond .eq 8, 3) := by decide +kernel
theorem dX11_look_44 : decode cX11_look 44 = .ok (.iload_n 2, 1) := by decide +kernel
theorem dX11_look_45 : decode cX11_look 45 = .ok (.iconst (-1), 1) := by decide +kernel
theorem dX11_look_46 : decode cX11_look 46 = .ok (.if_icmp .ne 5, 3) := by decide +kernel
theorem dX11_look_49 : decode cX11_look 49 = .ok (.iload_n 2, 1) := by decide +kernel
theorem dX11_look_50 : decode cX11_look 50 = .ok (.ireturn, 1) := by decide +kernel
theorem dX11_look_51 : decode cX11_look 51 = .ok (.aload_n 0, 1) := by decide +kernel
theorem dX11_look_52 : decode cX11_look 52 = .ok (.getfield 40, 3) := by decide +kernel
theorem dX11_look_55 : decode cX11_look 55 = .ok (.iload_n 2, 1) := by decide +kernel
theorem dX11_look_56 : decode cX11_look 56 = .ok (.invokevirtual 324, 3) := by decide +kernel
theorem dX11_look_59 : decode cX11_look 59 = .ok (.ireturn, 1) := by decide +kernel
theorem dX11_note_0 : decode cX11_note 0 = .ok (.aload_n 0, 1) := by decide +kernel
theorem dX11_note_1 : decode cX11_note 1 = .ok (.getfield 79, 3) := by decide +kernel
theorem dX11_note_4 : decode cX11_note 4 = .ok (.aload_n 0, 1) := by decide +kernel
theorem dX11_note_5 : decode cX11_note 5 = .ok (.getfield 56, 3) := by decide +kernel
theorem dX11_note_8 : decode cX11_note 8 = .ok (.invokevirtual 327, 3) := by decide +kernel
theorem dX11_note_11 : decode cX11_note 11 = .ok (.aload_n 0, 1) := by decide +kernel
theorem dX11_note_12 : decode cX11_note 12 = .ok (.getfield 79, 3) := by decide +kernel
theorem dX11_note_15 : decode cX11_note 15 = .ok (.getfield 330, 3) := by decide +kernel
theorem dX11_note_18 : decode cX11_note 18 = .ok (.ireturn, 1) := by decide +kernel
theorem dX11_spelt_0 : decode cX11_spelt 0 = .ok (.aload_n 0, 1) := by decide +kernel
theorem dX11_spelt_1 : decode cX11_spelt 1 = .ok (.iload_n 1, 1) := by decide +kernel
theorem dX11_spelt_2 : decode cX11_spelt 2 = .ok (.ifCond .lt 7, 3) := by decide +kernel
theorem dX11_spelt_5 : decode cX11_spelt 5 = .ok (.iconst 1, 1) := by decide +kernel
theorem dX11_spelt_6 : decode cX11_spelt 6 = .ok (.goto 4, 3) := by decide +kernel
theorem dX11_spelt_9 : decode cX11_spelt 9 = .ok (.iconst 0, 1) := by decide +kernel
theorem dX11_spelt_10 : decode cX11_spelt 10 = .ok (.invokevirtual 182, 3) := by decide +kernel
theorem dX11_spelt_13 : decode cX11_spelt 13 = .ok (.aload_n 0, 1) := by decide +kernel
theorem dX11_spelt_14 : decode cX11_spelt 14 = .ok (.getfield 79, 3) := by decide +kernel
theorem dX11_spelt_17 : decode cX11_spelt 17 = .ok (.aload_n 0, 1) := by decide +kernel
theorem dX11_spelt_18 : decode cX11_spelt 18 = .ok (.getfield 56, 3) := by decide +kernel
theorem dX11_spelt_21 : decode cX11_spelt 21 = .ok (.invokevirtual 327, 3) := by decide +kernel
theorem dX11_spelt_24 : decode cX11_spelt 24 = .ok (.aload_n 0, 1) := by decide +kernel
theorem dX11_spelt_25 : decode cX11_spelt 25 = .ok (.getfield 79, 3) := by decide +kernel
theorem dX11_spelt_28 : decode cX11_spelt 28 = .ok (.iload_n 1, 1) := by decide +kernel
theorem dX11_spelt_29 : decode cX11_spelt 29 = .ok (.invokevirtual 331, 3) := by decide +kernel
theorem dX11_spelt_32 : decode cX11_spelt 32 = .ok (.ireturn, 1) := by decide +kernel
theorem dX11_lore_0 : decode cX11_lore 0 = .ok (.aload_n 0, 1) := by decide +kernel
theorem dX11_lore_1 : decode cX11_lore 1 = .ok (.iload_n 1, 1) := by decide +kernel
theorem dX11_lore_2 : decode cX11_lore 2 = .ok (.invokevirtual 214, 3) := by decide +kernel
theorem dX11_lore_5 : decode cX11_lore 5 = .ok (.aload_n 0, 1) := by decide +kernel
theorem dX11_lore_6 : decode cX11_lore 6 = .ok (.getfield 56, 3) := by decide +kernel
theorem dX11_lore_9 : decode cX11_lore 9 = .ok (.iload_n 1, 1) := by decide +kernel
theorem dX11_lore_10 : decode cX11_lore 10 = .ok (.invokevirtual 334, 3) := by decide +kernel
theorem dX11_lore_13 : decode cX11_lore 13 = .ok (.ireturn, 1) := by decide +kernel
theorem dX11_behind_0 : decode cX11_behind 0 = .ok (.aload_n 0, 1) := by decide +kernel
theorem dX11_behind_1 : decode cX11_behind 1 = .ok (.iload_n 1, 1) := by decide +kernel
theorem dX11_behind_2 : decode cX11_behind 2 = .ok (.iconst 0, 1) := by decide +kernel
theorem dX11_behind_3 : decode cX11_behind 3 = .ok (.iconst 1, 1) := by decide +kernel
theorem dX11_behind_4 : decode cX11_behind 4 = .ok (.invokestatic 178, 3) := by decide +kernel
theorem dX11_behind_7 : decode cX11_behind 7 = .ok (.invokevirtual 182, 3) := by decide +kernel
theorem dX11_behind_10 : decode cX11_behind 10 = .ok (.aload_n 0, 1) := by decide +kernel
theorem dX11_behind_11 : decode cX11_behind 11 = .ok (.getfield 56, 3) := by decide +kernel
theorem dX11_behind_14 : decode cX11_behind 14 = .ok (.invokevirtual 337, 3) := by decide +kernel
theorem dX11_behind_17 : decode cX11_behind 17 = .ok (.istore_n 2, 1) := by decide +kernel
theorem dX11_behind_18 : decode cX11_behind 18 = .ok (.iload_n 1, 1) := by decide +kernel
theorem dX11_behind_19 : decode cX11_behind 19 = .ok (.ifCond .eq 14, 3) := by decide +kernel
theorem dX11_behind_22 : decode cX11_behind 22 = .ok (.aload_n 0, 1) := by decide +kernel
theorem dX11_behind_23 : decode cX11_behind 23 = .ok (.getfield 56, 3) := by decide +kernel
theorem dX11_behind_26 : decode cX11_behind 26 = .ok (.iload_n 2, 1) := by decide +kernel
theorem dX11_behind_27 : decode cX11_behind 27 = .ok (.invokevirtual 217, 3) := by decide +kernel
theorem dX11_behind_30 : decode cX11_behind 30 = .ok (.ifCond .ne 5, 3) := by decide +kernel
theorem dX11_behind_33 : decode cX11_behind 33 = .ok (.iload_n 2, 1) := by decide +kernel
theorem dX11_behind_34 : decode cX11_behind 34 = .ok (.ireturn, 1) := by decide +kernel
theorem dX11_behind_35 : decode cX11_behind 35 = .ok (.aload_n 0, 1) := by decide +kernel
theorem dX11_behind_36 : decode cX11_behind 36 = .ok (.getfield 56, 3) := by decide +kernel
theorem dX11_behind_39 : decode cX11_behind 39 = .ok (.getfield 224, 3) := by decide +kernel
theorem dX11_behind_42 : decode cX11_behind 42 = .ok (.iload_n 2, 1) := by decide +kernel
theorem dX11_behind_43 : decode cX11_behind 43 = .ok (.iaload, 1) := by decide +kernel
theorem dX11_behind_44 : decode cX11_behind 44 = .ok (.invokestatic 227, 3) := by decide +kernel
theorem dX11_behind_47 : decode cX11_behind 47 = .ok (.ireturn, 1) := by decide +kernel
theorem dX11_storm_0 : decode cX11_storm 0 = .ok (.aload_n 0, 1) := by decide +kernel
theorem dX11_storm_1 : decode cX11_storm 1 = .ok (.iload_n 2, 1) := by decide +kernel
theorem dX11_storm_2 : decode cX11_storm 2 = .ok (.iconst 1, 1) := by decide +kernel
theorem dX11_storm_3 : decode cX11_storm 3 = .ok (.bipush 96, 2) := by decide +kernel
theorem dX11_storm_5 : decode cX11_storm 5 = .ok (.invokestatic 178, 3) := by decide +kernel
theorem dX11_storm_8 : decode cX11_storm 8 = .ok (.ifCond .eq 27, 3) := by decide +kernel
theorem dX11_storm_11 : decode cX11_storm 11 = .ok (.iload_n 3, 1) := by decide +kernel
theorem dX11_storm_12 : decode cX11_storm 12 = .ok (.iconst 0, 1) := by decide +kernel
theorem dX11_storm_13 : decode cX11_storm 13 = .ok (.bipush 16, 2) := by decide +kernel
theorem dX11_storm_15 : decode cX11_storm 15 = .ok (.invokestatic 178, 3) := by decide +kernel
theorem dX11_storm_18 : decode cX11_storm 18 = .ok (.ifCond .eq 17, 3) := by decide +kernel
theorem dX11_storm_21 : decode cX11_storm 21 = .ok (.iload 4, 2) := by decide +kernel
theorem dX11_storm_23 : decode cX11_storm 23 = .ok (.iconst 0, 1) := by decide +kernel
theorem dX11_storm_24 : decode cX11_storm 24 = .ok (.iconst 3, 1) := by decide +kernel
theorem dX11_storm_25 : decode cX11_storm 25 = .ok (.invokestatic 178, 3) := by decide +kernel
theorem dX11_storm_28 : decode cX11_storm 28 = .ok (.ifCond .eq 7, 3) := by decide +kernel
theorem dX11_storm_31 : decode cX11_storm 31 = .ok (.iconst 1, 1) := by decide +kernel
theorem dX11_storm_32 : decode cX11_storm 32 = .ok (.goto 4, 3) := by decide +kernel
theorem dX11_storm_35 : decode cX11_storm 35 = .ok (.iconst 0, 1) := by decide +kernel
theorem dX11_storm_36 : decode cX11_storm 36 = .ok (.invokevirtual 182, 3) := by decide +kernel
theorem dX11_storm_39 : decode cX11_storm 39 = .ok (.aload_n 0, 1) := by decide +kernel
theorem dX11_storm_40 : decode cX11_storm 40 = .ok (.getfield 60, 3) := by decide +kernel
theorem dX11_storm_43 : decode cX11_storm 43 = .ok (.aload_n 0, 1) := by decide +kernel
theorem dX11_storm_44 : decode cX11_storm 44 = .ok (.getfield 56, 3) := by decide +kernel
theorem dX11_storm_47 : decode cX11_storm 47 = .ok (.invokevirtual 340, 3) := by decide +kernel
theorem dX11_storm_50 : decode cX11_storm 50 = .ok (.aload_n 0, 1) := by decide +kernel
theorem dX11_storm_51 : decode cX11_storm 51 = .ok (.getfield 86, 3) := by decide +kernel
theorem dX11_storm_54 : decode cX11_storm 54 = .ok (.aload_n 0, 1) := by decide +kernel
theorem dX11_storm_55 : decode cX11_storm 55 = .ok (.getfield 60, 3) := by decide +kernel
theorem dX11_storm_58 : decode cX11_storm 58 = .ok (.aload_n 0, 1) := by decide +kernel
theorem dX11_storm_59 : decode cX11_storm 59 = .ok (.getfield 49, 3) := by decide +kernel
theorem dX11_storm_62 : decode cX11_storm 62 = .ok (.iload_n 1, 1) := by decide +kernel
theorem dX11_storm_63 : decode cX11_storm 63 = .ok (.iload_n 2, 1) := by decide +kernel
theorem dX11_storm_64 : decode cX11_storm 64 = .ok (.iload_n 3, 1) := by decide +kernel
theorem dX11_storm_65 : decode cX11_storm 65 = .ok (.invokevirtual 343, 3) := by decide +kernel
theorem dX11_storm_68 : decode cX11_storm 68 = .ok (.iload 4, 2) := by decide +kernel
theorem dX11_storm_70 : decode cX11_storm 70 = .ok (.tableswitch 50 0 2 #[26, 34, 42], 26) := by decide +kernel
theorem dX11_storm_96 : decode cX11_storm 96 = .ok (.aload_n 0, 1) := by decide +kernel
theorem dX11_storm_97 : decode cX11_storm 97 = .ok (.getfield 60, 3) := by decide +kernel
theorem dX11_storm_100 : decode cX11_storm 100 = .ok (.getfield 186, 3) := by decide +kernel
theorem dX11_storm_103 : decode cX11_storm 103 = .ok (.ireturn, 1) := by decide +kernel
theorem dX11_storm_104 : decode cX11_storm 104 = .ok (.aload_n 0, 1) := by decide +kernel
theorem dX11_storm_105 : decode cX11_storm 105 = .ok (.getfield 60, 3) := by decide +kernel
theorem dX11_storm_108 : decode cX11_storm 108 = .ok (.getfield 189, 3) := by decide +kernel
theorem dX11_storm_111 : decode cX11_storm 111 = .ok (.ireturn, 1) := by decide +kernel
theorem dX11_storm_112 : decode cX11_storm 112 = .ok (.aload_n 0, 1) := by decide +kernel
theorem dX11_storm_113 : decode cX11_storm 113 = .ok (.getfield 60, 3) := by decide +kernel
theorem dX11_storm_116 : decode cX11_storm 116 = .ok (.getfield 204, 3) := by decide +kernel
theorem dX11_storm_119 : decode cX11_storm 119 = .ok (.ireturn, 1) := by decide +kernel
theorem dX11_storm_120 : decode cX11_storm 120 = .ok (.aload_n 0, 1) := by decide +kernel
theorem dX11_storm_121 : decode cX11_storm 121 = .ok (.getfield 60, 3) := by decide +kernel
theorem dX11_storm_124 : decode cX11_storm 124 = .ok (.aload_n 0, 1) := by decide +kernel
theorem dX11_storm_125 : decode cX11_storm 125 = .ok (.getfield 49, 3) := by decide +kernel
theorem dX11_storm_128 : decode cX11_storm 128 = .ok (.aload_n 0, 1) := by decide +kernel
theorem dX11_storm_129 : decode cX11_storm 129 = .ok (.getfield 60, 3) := by decide +kernel
theorem dX11_storm_132 : decode cX11_storm 132 = .ok (.invokevirtual 282, 3) := by decide +kernel
theorem dX11_storm_135 : decode cX11_storm 135 = .ok (.invokevirtual 308, 3) := by decide +kernel
theorem dX11_storm_138 : decode cX11_storm 138 = .ok (.ifCond .eq 7, 3) := by decide +kernel
theorem dX11_storm_141 : decode cX11_storm 141 = .ok (.iconst 1, 1) := by decide +kernel
theorem dX11_storm_142 : decode cX11_storm 142 = .ok (.goto 4, 3) := by decide +kernel
theorem dX11_storm_145 : decode cX11_storm 145 = .ok (.iconst 0, 1) := by decide +kernel
theorem dX11_storm_146 : decode cX11_storm 146 = .ok (.ireturn, 1) := by decide +kernel
theorem dX11_span_0 : decode cX11_span 0 = .ok (.aload_n 0, 1) := by decide +kernel
theorem dX11_span_1 : decode cX11_span 1 = .ok (.iload 6, 2) := by decide +kernel
theorem dX11_span_3 : decode cX11_span 3 = .ok (.invokevirtual 214, 3) := by decide +kernel
theorem dX11_span_6 : decode cX11_span 6 = .ok (.aload_n 0, 1) := by decide +kernel
theorem dX11_span_7 : decode cX11_span 7 = .ok (.iload_n 2, 1) := by decide +kernel
theorem dX11_span_8 : decode cX11_span 8 = .ok (.iconst 1, 1) := by decide +kernel
theorem dX11_span_9 : decode cX11_span 9 = .ok (.bipush 10, 2) := by decide +kernel
theorem dX11_span_11 : decode cX11_span 11 = .ok (.invokestatic 178, 3) := by decide +kernel
theorem dX11_span_14 : decode cX11_span 14 = .ok (.ifCond .eq 17, 3) := by decide +kernel
theorem dX11_span_17 : decode cX11_span 17 = .ok (.iload_n 3, 1) := by decide +kernel
theorem dX11_span_18 : decode cX11_span 18 = .ok (.iconst 1, 1) := by decide +kernel
theorem dX11_span_19 : decode cX11_span 19 = .ok (.bipush 96, 2) := by decide +kernel
theorem dX11_span_21 : decode cX11_span 21 = .ok (.invokestatic 178, 3) := by decide +kernel
theorem dX11_span_24 : decode cX11_span 24 = .ok (.ifCond .eq 7, 3) := by decide +kernel
theorem dX11_span_27 : decode cX11_span 27 = .ok (.iconst 1, 1) := by decide +kernel
theorem dX11_span_28 : decode cX11_span 28 = .ok (.goto 4, 3) := by decide +kernel
theorem dX11_span_31 : decode cX11_span 31 = .ok (.iconst 0, 1) := by decide +kernel
theorem dX11_span_32 : decode cX11_span 32 = .ok (.invokevirtual 182, 3) := by decide +kernel
theorem dX11_span_35 : decode cX11_span 35 = .ok (.aload_n 0, 1) := by decide +kernel
theorem dX11_span_36 : decode cX11_span 36 = .ok (.iload 4, 2) := by decide +kernel
theorem dX11_span_38 : decode cX11_span 38 = .ok (.iconst 0, 1) := by decide +kernel
theorem dX11_span_39 : decode cX11_span 39 = .ok (.bipush 16, 2) := by decide +kernel
theorem dX11_span_41 : decode cX11_span 41 = .ok (.invokestatic 178, 3) := by decide +kernel
theorem dX11_span_44 : decode cX11_span 44 = .ok (.ifCond .eq 17, 3) := by decide +kernel
theorem dX11_span_47 : decode cX11_span 47 = .ok (.iload 5, 2) := by decide +kernel
theorem dX11_span_49 : decode cX11_span 49 = .ok (.iconst 0, 1) := by decide +kernel
theorem dX11_span_50 : decode cX11_span 50 = .ok (.iconst 2, 1) := by decide +kernel
theorem dX11_span_51 : decode cX11_span 51 = .ok (.invokestatic 178, 3) := by decide +kernel
theorem dX11_span_54 : decode cX11_span 54 = .ok (.ifCond .eq 7, 3) := by decide +kernel
theorem dX11_span_57 : decode cX11_span 57 = .ok (.iconst 1, 1) := by decide +kernel
theorem dX11_span_58 : decode cX11_span 58 = .ok (.goto 4, 3) := by decide +kernel
theorem dX11_span_61 : decode cX11_span 61 = .ok (.iconst 0, 1) := by decide +kernel
theorem dX11_span_62 : decode cX11_span 62 = .ok (.invokevirtual 182, 3) := by decide +kernel
theorem dX11_span_65 : decode cX11_span 65 = .ok (.iconst 0, 1) := by decide +kernel
theorem dX11_span_66 : decode cX11_span 66 = .ok (.istore 7, 2) := by decide +kernel
theorem dX11_span_68 : decode cX11_span 68 = .ok (.iconst 0, 1) := by decide +kernel
theorem dX11_span_69 : decode cX11_span 69 = .ok (.istore 8, 2) := by decide +kernel
theorem dX11_span_71 : decode cX11_span 71 = .ok (.iconst 0, 1) := by decide +kernel
theorem dX11_span_72 : decode cX11_span 72 = .ok (.istore 9, 2) := by decide +kernel
theorem dX11_span_74 : decode cX11_span 74 = .ok (.iconst 0, 1) := by decide +kernel
theorem dX11_span_75 : decode cX11_span 75 = .ok (.istore 10, 2) := by decide +kernel
theorem dX11_span_77 : decode cX11_span 77 = .ok (.iload 10, 2) := by decide +kernel
theorem dX11_span_79 : decode cX11_span 79 = .ok (.iload_n 2, 1) := by decide +kernel
theorem dX11_span_80 : decode cX11_span 80 = .ok (.if_icmp .ge 107, 3) := by decide +kernel
theorem dX11_span_83 : decode cX11_span 83 = .ok (.aload_n 0, 1) := by decide +kernel
theorem dX11_span_84 : decode cX11_span 84 = .ok (.getfield 60, 3) := by decide +kernel
theorem dX11_span_87 : decode cX11_span 87 = .ok (.aload_n 0, 1) := by decide +kernel
theorem dX11_span_88 : decode cX11_span 88 = .ok (.getfield 56, 3) := by decide +kernel
theorem dX11_span_91 : decode cX11_span 91 = .ok (.invokevirtual 340, 3) := by decide +kernel
theorem dX11_span_94 : decode cX11_span 94 = .ok (.aload_n 0, 1) := by decide +kernel
theorem dX11_span_95 : decode cX11_span 95 = .ok (.getfield 86, 3) := by decide +kernel
theorem dX11_span_98 : decode cX11_span 98 = .ok (.aload_n 0, 1) := by decide +kernel
theorem dX11_span_99 : decode cX11_span 99 = .ok (.getfield 60, 3) := by decide +kernel
theorem dX11_span_102 : decode cX11_span 102 = .ok (.aload_n 0, 1) := by decide +kernel
theorem dX11_span_103 : decode cX11_span 103 = .ok (.getfield 49, 3) := by decide +kernel
theorem dX11_span_106 : decode cX11_span 106 = .ok (.iload_n 1, 1) := by decide +kernel
theorem dX11_span_107 : decode cX11_span 107 = .ok (.iload 10, 2) := by decide +kernel
theorem dX11_span_109 : decode cX11_span 109 = .ok (.iadd, 1) := by decide +kernel
theorem dX11_span_110 : decode cX11_span 110 = .ok (.iload_n 3, 1) := by decide +kernel
theorem dX11_span_111 : decode cX11_span 111 = .ok (.iload 4, 2) := by decide +kernel
theorem dX11_span_113 : decode cX11_span 113 = .ok (.invokevirtual 343, 3) := by decide +kernel
theorem dX11_span_116 : decode cX11_span 116 = .ok (.iload 10, 2) := by decide +kernel
theorem dX11_span_118 : decode cX11_span 118 = .ok (.ifCond .ne 13, 3) := by decide +kernel
theorem dX11_span_121 : decode cX11_span 121 = .ok (.aload_n 0, 1) := by decide +kernel
theorem dX11_span_122 : decode cX11_span 122 = .ok (.getfield 60, 3) := by decide +kernel
theorem dX11_span_125 : decode cX11_span 125 = .ok (.getfield 186, 3) := by decide +kernel
theorem dX11_span_128 : decode cX11_span 128 = .ok (.goto 15, 3) := by decide +kernel
theorem dX11_span_131 : decode cX11_span 131 = .ok (.iload 7, 2) := by decide +kernel
theorem dX11_span_133 : decode cX11_span 133 = .ok (.aload_n 0, 1) := by decide +kernel
theorem dX11_span_134 : decode cX11_span 134 = .ok (.getfield 60, 3) := by decide +kernel
theorem dX11_span_137 : decode cX11_span 137 = .ok (.getfield 186, 3) := by decide +kernel
theorem dX11_span_140 : decode cX11_span 140 = .ok (.invokestatic 346, 3) := by decide +kernel
theorem dX11_span_143 : decode cX11_span 143 = .ok (.istore 7, 2) := by decide +kernel
theorem dX11_span_145 : decode cX11_span 145 = .ok (.iload 8, 2) := by decide +kernel
theorem dX11_span_147 : decode cX11_span 147 = .ok (.aload_n 0, 1) := by decide +kernel
theorem dX11_span_148 : decode cX11_span 148 = .ok (.getfield 60, 3) := by decide +kernel
theorem dX11_span_151 : decode cX11_span 151 = .ok (.getfield 186, 3) := by decide +kernel
theorem dX11_span_154 : decode cX11_span 154 = .ok (.invokestatic 351, 3) := by decide +kernel
theorem dX11_span_157 : decode cX11_span 157 = .ok (.istore 8, 2) := by decide +kernel
theorem dX11_span_159 : decode cX11_span 159 = .ok (.iload 9, 2) := by decide +kernel
theorem dX11_span_161 : decode cX11_span 161 = .ok (.aload_n 0, 1) := by decide +kernel
theorem dX11_span_162 : decode cX11_span 162 = .ok (.getfield 60, 3) := by decide +kernel
theorem dX11_span_165 : decode cX11_span 165 = .ok (.iload 6, 2) := by decide +kernel
theorem dX11_span_167 : decode cX11_span 167 = .ok (.invokevirtual 217, 3) := by decide +kernel
theorem dX11_span_170 : decode cX11_span 170 = .ok (.ifCond .eq 7, 3) := by decide +kernel
theorem dX11_span_173 : decode cX11_span 173 = .ok (.iconst 1, 1) := by decide +kernel
theorem dX11_span_174 : decode cX11_span 174 = .ok (.goto 4, 3) := by decide +kernel
theorem dX11_span_177 : decode cX11_span 177 = .ok (.iconst 0, 1) := by decide +kernel
theorem dX11_span_178 : decode cX11_span 178 = .ok (.iadd, 1) := by decide +kernel
theorem dX11_span_179 : decode cX11_span 179 = .ok (.istore 9, 2) := by decide +kernel
theorem dX11_span_181 : decode cX11_span 181 = .ok (.iinc 10 1, 3) := by decide +kernel
theorem dX11_span_184 : decode cX11_span 184 = .ok (.goto (-107), 3) := by decide +kernel
theorem dX11_span_187 : decode cX11_span 187 = .ok (.iload 5, 2) := by decide +kernel
theorem dX11_span_189 : decode cX11_span 189 = .ok (.ifCond .ne 6, 3) := by decide +kernel
theorem dX11_span_192 : decode cX11_span 192 = .ok (.iload 7, 2) := by decide +kernel
theorem dX11_span_194 : decode cX11_span 194 = .ok (.ireturn, 1) := by decide +kernel
theorem dX11_span_195 : decode cX11_span 195 = .ok (.iload 5, 2) := by decide +kernel
theorem dX11_span_197 : decode cX11_span 197 = .ok (.iconst 1, 1) := by decide +kernel
theorem dX11_span_198 : decode cX11_span 198 = .ok (.if_icmp .ne 8, 3) := by decide +kernel
theorem dX11_span_201 : decode cX11_span 201 = .ok (.iload 8, 2) := by decide +kernel
theorem dX11_span_203 : decode cX11_span 203 = .ok (.goto 5, 3) := by decide +kernel
theorem dX11_span_206 : decode cX11_span 206 = .ok (.iload 9, 2) := by decide +kernel
theorem dX11_span_208 : decode cX11_span 208 = .ok (.ireturn, 1) := by decide +kernel
theorem dX11_image_0 : decode cX11_image 0 = .ok (.aload_n 0, 1) := by decide +kernel
theorem dX11_image_1 : decode cX11_image 1 = .ok (.getfield 128, 3) := by decide +kernel
theorem dX11_image_4 : decode cX11_image 4 = .ok (.aload_n 0, 1) := by decide +kernel
theorem dX11_image_5 : decode cX11_image 5 = .ok (.getfield 72, 3) := by decide +kernel
theorem dX11_image_8 : decode cX11_image 8 = .ok (.arraylength, 1) := by decide +kernel
theorem dX11_image_9 : decode cX11_image 9 = .ok (.if_icmp .lt 5, 3) := by decide +kernel
theorem dX11_image_12 : decode cX11_image 12 = .ok (.iconst (-1), 1) := by decide +kernel
theorem dX11_image_13 : decode cX11_image 13 = .ok (.ireturn, 1) := by decide +kernel
theorem dX11_image_14 : decode cX11_image 14 = .ok (.aload_n 0, 1) := by decide +kernel
theorem dX11_image_15 : decode cX11_image 15 = .ok (.getfield 72, 3) := by decide +kernel
theorem dX11_image_18 : decode cX11_image 18 = .ok (.aload_n 0, 1) := by decide +kernel
theorem dX11_image_19 : decode cX11_image 19 = .ok (.getfield 128, 3) := by decide +kernel
theorem dX11_image_22 : decode cX11_image 22 = .ok (.aaload, 1) := by decide +kernel
theorem dX11_image_23 : decode cX11_image 23 = .ok (.astore_n 1, 1) := by decide +kernel
theorem dX11_image_24 : decode cX11_image 24 = .ok (.aload_n 1, 1) := by decide +kernel
theorem dX11_image_25 : decode cX11_image 25 = .ok (.ifnonnull 21, 3) := by decide +kernel
theorem dX11_image_28 : decode cX11_image 28 = .ok (.new 70, 3) := by decide +kernel
theorem dX11_image_31 : decode cX11_image 31 = .ok (.dup, 1) := by decide +kernel
theorem dX11_image_32 : decode cX11_image 32 = .ok (.invokespecial 354, 3) := by decide +kernel
theorem dX11_image_35 : decode cX11_image 35 = .ok (.astore_n 1, 1) := by decide +kernel
theorem dX11_image_36 : decode cX11_image 36 = .ok (.aload_n 0, 1) := by decide +kernel
theorem dX11_image_37 : decode cX11_image 37 = .ok (.getfield 72, 3) := by decide +kernel
theorem dX11_image_40 : decode cX11_image 40 = .ok (.aload_n 0, 1) := by decide +kernel
theorem dX11_image_41 : decode cX11_image 41 = .ok (.getfield 128, 3) := by decide +kernel
theorem dX11_image_44 : decode cX11_image 44 = .ok (.aload_n 1, 1) := by decide +kernel
theorem dX11_image_45 : decode cX11_image 45 = .ok (.aastore, 1) := by decide +kernel
theorem dX11_image_46 : decode cX11_image 46 = .ok (.aload_n 1, 1) := by decide +kernel
theorem dX11_image_47 : decode cX11_image 47 = .ok (.getfield 355, 3) := by decide +kernel
theorem dX11_image_50 : decode cX11_image 50 = .ok (.aload_n 0, 1) := by decide +kernel
theorem dX11_image_51 : decode cX11_image 51 = .ok (.getfield 56, 3) := by decide +kernel
theorem dX11_image_54 : decode cX11_image 54 = .ok (.invokevirtual 340, 3) := by decide +kernel
theorem dX11_image_57 : decode cX11_image 57 = .ok (.aload_n 1, 1) := by decide +kernel
theorem dX11_image_58 : decode cX11_image 58 = .ok (.getfield 358, 3) := by decide +kernel
theorem dX11_image_61 : decode cX11_image 61 = .ok (.aload_n 0, 1) := by decide +kernel
theorem dX11_image_62 : decode cX11_image 62 = .ok (.getfield 66, 3) := by decide +kernel
theorem dX11_image_65 : decode cX11_image 65 = .ok (.invokevirtual 359, 3) := by decide +kernel
theorem dX11_image_68 : decode cX11_image 68 = .ok (.aload_n 0, 1) := by decide +kernel
theorem dX11_image_69 : decode cX11_image 69 = .ok (.dup, 1) := by decide +kernel
theorem dX11_image_70 : decode cX11_image 70 = .ok (.getfield 128, 3) := by decide +kernel
theorem dX11_image_73 : decode cX11_image 73 = .ok (.iconst 1, 1) := by decide +kernel
theorem dX11_image_74 : decode cX11_image 74 = .ok (.iadd, 1) := by decide +kernel
theorem dX11_image_75 : decode cX11_image 75 = .ok (.putfield 128, 3) := by decide +kernel
theorem dX11_image_78 : decode cX11_image 78 = .ok (.aload_n 0, 1) := by decide +kernel
theorem dX11_image_79 : decode cX11_image 79 = .ok (.getfield 128, 3) := by decide +kernel
theorem dX11_image_82 : decode cX11_image 82 = .ok (.ireturn, 1) := by decide +kernel
theorem dX11_restore_0 : decode cX11_restore 0 = .ok (.aload_n 0, 1) := by decide +kernel
theorem dX11_restore_1 : decode cX11_restore 1 = .ok (.getfield 128, 3) := by decide +kernel
theorem dX11_restore_4 : decode cX11_restore 4 = .ok (.ifCond .le 15, 3) := by decide +kernel
theorem dX11_restore_7 : decode cX11_restore 7 = .ok (.aload_n 0, 1) := by decide +kernel
theorem dX11_restore_8 : decode cX11_restore 8 = .ok (.getfield 128, 3) := by decide +kernel
theorem dX11_restore_11 : decode cX11_restore 11 = .ok (.aload_n 0, 1) := by decide +kernel
theorem dX11_restore_12 : decode cX11_restore 12 = .ok (.getfield 72, 3) := by decide +kernel
theorem dX11_restore_15 : decode cX11_restore 15 = .ok (.arraylength, 1) := by decide +kernel
theorem dX11_restore_16 : decode cX11_restore 16 = .ok (.if_icmp .le 5, 3) := by decide +kernel
theorem dX11_restore_19 : decode cX11_restore 19 = .ok (.iconst (-1), 1) := by decide +kernel
theorem dX11_restore_20 : decode cX11_restore 20 = .ok (.ireturn, 1) := by decide +kernel
theorem dX11_restore_21 : decode cX11_restore 21 = .ok (.aload_n 0, 1) := by decide +kernel
theorem dX11_restore_22 : decode cX11_restore 22 = .ok (.dup, 1) := by decide +kernel
theorem dX11_restore_23 : decode cX11_restore 23 = .ok (.getfield 128, 3) := by decide +kernel
theorem dX11_restore_26 : decode cX11_restore 26 = .ok (.iconst 1, 1) := by decide +kernel
theorem dX11_restore_27 : decode cX11_restore 27 = .ok (.isub, 1) := by decide +kernel
theorem dX11_restore_28 : decode cX11_restore 28 = .ok (.putfield 128, 3) := by decide +kernel
theorem dX11_restore_31 : decode cX11_restore 31 = .ok (.aload_n 0, 1) := by decide +kernel
theorem dX11_restore_32 : decode cX11_restore 32 = .ok (.getfield 72, 3) := by decide +kernel
theorem dX11_restore_35 : decode cX11_restore 35 = .ok (.aload_n 0, 1) := by decide +kernel
theorem dX11_restore_36 : decode cX11_restore 36 = .ok (.getfield 128, 3) := by decide +kernel
theorem dX11_restore_39 : decode cX11_restore 39 = .ok (.aaload, 1) := by decide +kernel
theorem dX11_restore_40 : decode cX11_restore 40 = .ok (.astore_n 1, 1) := by decide +kernel
theorem dX11_restore_41 : decode cX11_restore 41 = .ok (.aload_n 1, 1) := by decide +kernel
theorem dX11_restore_42 : decode cX11_restore 42 = .ok (.ifnull 25, 3) := by decide +kernel
theorem dX11_restore_45 : decode cX11_restore 45 = .ok (.aload_n 0, 1) := by decide +kernel
theorem dX11_restore_46 : decode cX11_restore 46 = .ok (.getfield 56, 3) := by decide +kernel
theorem dX11_restore_49 : decode cX11_restore 49 = .ok (.aload_n 1, 1) := by decide +kernel
theorem dX11_restore_50 : decode cX11_restore 50 = .ok (.getfield 355, 3) := by decide +kernel
theorem dX11_restore_53 : decode cX11_restore 53 = .ok (.invokevirtual 340, 3) := by decide +kernel
theorem dX11_restore_56 : decode cX11_restore 56 = .ok (.aload_n 0, 1) := by decide +kernel
theorem dX11_restore_57 : decode cX11_restore 57 = .ok (.getfield 66, 3) := by decide +kernel
theorem dX11_restore_60 : decode cX11_restore 60 = .ok (.aload_n 1, 1) := by decide +kernel
theorem dX11_restore_61 : decode cX11_restore 61 = .ok (.getfield 358, 3) := by decide +kernel
theorem dX11_restore_64 : decode cX11_restore 64 = .ok (.invokevirtual 359, 3) := by decide +kernel
theorem dX11_restore_67 : decode cX11_restore 67 = .ok (.aload_n 0, 1) := by decide +kernel
theorem dX11_restore_68 : decode cX11_restore 68 = .ok (.iconst 0, 1) := by decide +kernel
theorem dX11_restore_69 : decode cX11_restore 69 = .ok (.putfield 131, 3) := by decide +kernel
theorem dX11_restore_72 : decode cX11_restore 72 = .ok (.aload_n 0, 1) := by decide +kernel
theorem dX11_restore_73 : decode cX11_restore 73 = .ok (.getfield 128, 3) := by decide +kernel
theorem dX11_restore_76 : decode cX11_restore 76 = .ok (.ireturn, 1) := by decide +kernel
theorem dX11_status_0 : decode cX11_status 0 = .ok (.iload_n 1, 1) := by decide +kernel
theorem dX11_status_1 : decode cX11_status 1 = .ok (.iconst 0, 1) := by decide +kernel
theorem dX11_status_2 : decode cX11_status 2 = .ok (.aload_n 0, 1) := by decide +kernel
theorem dX11_status_3 : decode cX11_status 3 = .ok (.getfield 90, 3) := by decide +kernel
theorem dX11_status_6 : decode cX11_status 6 = .ok (.arraylength, 1) := by decide +kernel
theorem dX11_status_7 : decode cX11_status 7 = .ok (.iconst 1, 1) := by decide +kernel
theorem dX11_status_8 : decode cX11_status 8 = .ok (.isub, 1) := by decide +kernel
theorem dX11_status_9 : decode cX11_status 9 = .ok (.invokestatic 178, 3) := by decide +kernel
theorem dX11_status_12 : decode cX11_status 12 = .ok (.ifCond .eq 12, 3) := by decide +kernel
theorem dX11_status_15 : decode cX11_status 15 = .ok (.aload_n 0, 1) := by decide +kernel
theorem dX11_status_16 : decode cX11_status 16 = .ok (.getfield 90, 3) := by decide +kernel
theorem dX11_status_19 : decode cX11_status 19 = .ok (.iload_n 1, 1) := by decide +kernel
theorem dX11_status_20 : decode cX11_status 20 = .ok (.iaload, 1) := by decide +kernel
theorem dX11_status_21 : decode cX11_status 21 = .ok (.goto 4, 3) := by decide +kernel
theorem dX11_status_24 : decode cX11_status 24 = .ok (.iconst (-1), 1) := by decide +kernel
theorem dX11_status_25 : decode cX11_status 25 = .ok (.ireturn, 1) := by decide +kernel
theorem dX11_count_0 : decode cX11_count 0 = .ok (.iload_n 1, 1) := by decide +kernel
theorem dX11_count_1 : decode cX11_count 1 = .ok (.tableswitch 48 0 2 #[27, 32, 40], 27) := by decide +kernel
theorem dX11_count_28 : decode cX11_count 28 = .ok (.aload_n 0, 1) := by decide +kernel
theorem dX11_count_29 : decode cX11_count 29 = .ok (.getfield 128, 3) := by decide +kernel
theorem dX11_count_32 : decode cX11_count 32 = .ok (.ireturn, 1) := by decide +kernel
theorem dX11_count_33 : decode cX11_count 33 = .ok (.aload_n 0, 1) := by decide +kernel
theorem dX11_count_34 : decode cX11_count 34 = .ok (.getfield 10, 3) := by decide +kernel
theorem dX11_count_37 : decode cX11_count 37 = .ok (.getfield 106, 3) := by decide +kernel
theorem dX11_count_40 : decode cX11_count 40 = .ok (.ireturn, 1) := by decide +kernel
theorem dX11_count_41 : decode cX11_count 41 = .ok (.aload_n 0, 1) := by decide +kernel
theorem dX11_count_42 : decode cX11_count 42 = .ok (.getfield 66, 3) := by decide +kernel
theorem dX11_count_45 : decode cX11_count 45 = .ok (.getfield 175, 3) := by decide +kernel
theorem dX11_count_48 : decode cX11_count 48 = .ok (.ireturn, 1) := by decide +kernel
theorem dX11_count_49 : decode cX11_count 49 = .ok (.iconst (-1), 1) := by decide +kernel
theorem dX11_count_50 : decode cX11_count 50 = .ok (.ireturn, 1) := by decide +kernel
theorem dX11_needMember_0 : decode cX11_needMember 0 = .ok (.iload_n 1, 1) := by decide +kernel
theorem dX11_needMember_1 : decode cX11_needMember 1 = .ok (.iconst 0, 1) := by decide +kernel
theorem dX11_needMember_2 : decode cX11_needMember 2 = .ok (.aload_n 0, 1) := by decide +kernel
theorem dX11_needMember_3 : decode cX11_needMember 3 = .ok (.getfield 19, 3) := by decide +kernel
theorem dX11_needMember_6 : decode cX11_needMember 6 = .ok (.getfield 134, 3) := by decide +kernel
theorem dX11_needMember_9 : decode cX11_needMember 9 = .ok (.iconst 1, 1) := by decide +kernel
theorem dX11_needMember_10 : decode cX11_needMember 10 = .ok (.isub, 1) := by decide +kernel
theorem dX11_needMember_11 : decode cX11_needMember 11 = .ok (.invokestatic 178, 3) := by decide +kernel
theorem dX11_needMember_14 : decode cX11_needMember 14 = .ok (.ifCond .ne 21, 3) := by decide +kernel
theorem dX11_needMember_17 : decode cX11_needMember 17 = .ok (.aload_n 0, 1) := by decide +kernel
theorem dX11_needMember_18 : decode cX11_needMember 18 = .ok (.getfield 90, 3) := by decide +kernel
theorem dX11_needMember_21 : decode cX11_needMember 21 = .ok (.iconst 0, 1) := by decide +kernel
theorem dX11_needMember_22 : decode cX11_needMember 22 = .ok (.dup2, 1) := by decide +kernel
theorem dX11_needMember_23 : decode cX11_needMember 23 = .ok (.iaload, 1) := by decide +kernel
theorem dX11_needMember_24 : decode cX11_needMember 24 = .ok (.iconst 1, 1) := by decide +kernel
theorem dX11_needMember_25 : decode cX11_needMember 25 = .ok (.iadd, 1) := by decide +kernel
theorem dX11_needMember_26 : decode cX11_needMember 26 = .ok (.iastore, 1) := by decide +kernel
theorem dX11_needMember_27 : decode cX11_needMember 27 = .ok (.new 362, 3) := by decide +kernel
theorem dX11_needMember_30 : decode cX11_needMember 30 = .ok (.dup, 1) := by decide +kernel
theorem dX11_needMember_31 : decode cX11_needMember 31 = .ok (.invokespecial 364, 3) := by decide +kernel
theorem dX11_needMember_34 : decode cX11_needMember 34 = .ok (.athrow, 1) := by decide +kernel
theorem dX11_needMember_35 : decode cX11_needMember 35 = .ok (.return_, 1) := by decide +kernel
theorem dX11_need_0 : decode cX11_need 0 = .ok (.iload_n 1, 1) := by decide +kernel
theorem dX11_need_1 : decode cX11_need 1 = .ok (.ifCond .ne 21, 3) := by decide +kernel
theorem dX11_need_4 : decode cX11_need 4 = .ok (.aload_n 0, 1) := by decide +kernel
theorem dX11_need_5 : decode cX11_need 5 = .ok (.getfield 90, 3) := by decide +kernel
theorem dX11_need_8 : decode cX11_need 8 = .ok (.iconst 1, 1) := by decide +kernel
theorem dX11_need_9 : decode cX11_need 9 = .ok (.dup2, 1) := by decide +kernel
theorem dX11_need_10 : decode cX11_need 10 = .ok (.iaload, 1) := by decide +kernel
theorem dX11_need_11 : decode cX11_need 11 = .ok (.iconst 1, 1) := by decide +kernel
theorem dX11_need_12 : decode cX11_need 12 = .ok (.iadd, 1) := by decide +kernel
theorem dX11_need_13 : decode cX11_need 13 = .ok (.iastore, 1) := by decide +kernel
theorem dX11_need_14 : decode cX11_need 14 = .ok (.new 365, 3) := by decide +kernel
theorem dX11_need_17 : decode cX11_need 17 = .ok (.dup, 1) := by decide +kernel
theorem dX11_need_18 : decode cX11_need 18 = .ok (.invokespecial 367, 3) := by decide +kernel
theorem dX11_need_21 : decode cX11_need 21 = .ok (.athrow, 1) := by decide +kernel
theorem dX11_need_22 : decode cX11_need 22 = .ok (.return_, 1) := by decide +kernel
theorem dX11_needText_0 : decode cX11_needText 0 = .ok (.aload_n 0, 1) := by decide +kernel
theorem dX11_needText_1 : decode cX11_needText 1 = .ok (.iload_n 1, 1) := by decide +kernel
theorem dX11_needText_2 : decode cX11_needText 2 = .ok (.iconst 0, 1) := by decide +kernel
theorem dX11_needText_3 : decode cX11_needText 3 = .ok (.iload_n 2, 1) := by decide +kernel
theorem dX11_needText_4 : decode cX11_needText 4 = .ok (.aload_n 0, 1) := by decide +kernel
theorem dX11_needText_5 : decode cX11_needText 5 = .ok (.getfield 10, 3) := by decide +kernel
theorem dX11_needText_8 : decode cX11_needText 8 = .ok (.getfield 106, 3) := by decide +kernel
theorem dX11_needText_11 : decode cX11_needText 11 = .ok (.invokestatic 346, 3) := by decide +kernel
theorem dX11_needText_14 : decode cX11_needText 14 = .ok (.invokestatic 178, 3) := by decide +kernel
theorem dX11_needText_17 : decode cX11_needText 17 = .ok (.invokevirtual 182, 3) := by decide +kernel
theorem dX11_needText_20 : decode cX11_needText 20 = .ok (.return_, 1) := by decide +kernel
theorem dX11_needPointer_0 : decode cX11_needPointer 0 = .ok (.iload_n 1, 1) := by decide +kernel
theorem dX11_needPointer_1 : decode cX11_needPointer 1 = .ok (.ifCond .ne 21, 3) := by decide +kernel
theorem dX11_needPointer_4 : decode cX11_needPointer 4 = .ok (.aload_n 0, 1) := by decide +kernel
theorem dX11_needPointer_5 : decode cX11_needPointer 5 = .ok (.getfield 90, 3) := by decide +kernel
theorem dX11_needPointer_8 : decode cX11_needPointer 8 = .ok (.iconst 2, 1) := by decide +kernel
theorem dX11_needPointer_9 : decode cX11_needPointer 9 = .ok (.dup2, 1) := by decide +kernel
theorem dX11_needPointer_10 : decode cX11_needPointer 10 = .ok (.iaload, 1) := by decide +kernel
theorem dX11_needPointer_11 : decode cX11_needPointer 11 = .ok (.iconst 1, 1) := by decide +kernel
theorem dX11_needPointer_12 : decode cX11_needPointer 12 = .ok (.iadd, 1) := by decide +kernel
theorem dX11_needPointer_13 : decode cX11_needPointer 13 = .ok (.iastore, 1) := by decide +kernel
theorem dX11_needPointer_14 : decode cX11_needPointer 14 = .ok (.new 368, 3) := by decide +kernel
theorem dX11_needPointer_17 : decode cX11_needPointer 17 = .ok (.dup, 1) := by decide +kernel
theorem dX11_needPointer_18 : decode cX11_needPointer 18 = .ok (.invokespecial 370, 3) := by decide +kernel
theorem dX11_needPointer_21 : decode cX11_needPointer 21 = .ok (.athrow, 1) := by decide +kernel
theorem dX11_needPointer_22 : decode cX11_needPointer 22 = .ok (.return_, 1) := by decide +kernel
theorem dX11_needIndex_0 : decode cX11_needIndex 0 = .ok (.iload_n 1, 1) := by decide +kernel
theorem dX11_needIndex_1 : decode cX11_needIndex 1 = .ok (.ifCond .ne 21, 3) := by decide +kernel
theorem dX11_needIndex_4 : decode cX11_needIndex 4 = .ok (.aload_n 0, 1) := by decide +kernel
theorem dX11_needIndex_5 : decode cX11_needIndex 5 = .ok (.getfield 90, 3) := by decide +kernel
theorem dX11_needIndex_8 : decode cX11_needIndex 8 = .ok (.iconst 3, 1) := by decide +kernel
theorem dX11_needIndex_9 : decode cX11_needIndex 9 = .ok (.dup2, 1) := by decide +kernel
theorem dX11_needIndex_10 : decode cX11_needIndex 10 = .ok (.iaload, 1) := by decide +kernel
theorem dX11_needIndex_11 : decode cX11_needIndex 11 = .ok (.iconst 1, 1) := by decide +kernel
theorem dX11_needIndex_12 : decode cX11_needIndex 12 = .ok (.iadd, 1) := by decide +kernel
theorem dX11_needIndex_13 : decode cX11_needIndex 13 = .ok (.iastore, 1) := by decide +kernel
theorem dX11_needIndex_14 : decode cX11_needIndex 14 = .ok (.new 371, 3) := by decide +kernel
theorem dX11_needIndex_17 : decode cX11_needIndex 17 = .ok (.dup, 1) := by decide +kernel
theorem dX11_needIndex_18 : decode cX11_needIndex 18 = .ok (.invokespecial 373, 3) := by decide +kernel
theorem dX11_needIndex_21 : decode cX11_needIndex 21 = .ok (.athrow, 1) := by decide +kernel
theorem dX11_needIndex_22 : decode cX11_needIndex 22 = .ok (.return_, 1) := by decide +kernel
theorem dX11_isWithin_0 : decode cX11_isWithin 0 = .ok (.iload_n 0, 1) := by decide +kernel
theorem dX11_isWithin_1 : decode cX11_isWithin 1 = .ok (.iload_n 1, 1) := by decide +kernel
theorem dX11_isWithin_2 : decode cX11_isWithin 2 = .ok (.if_icmp .lt 12, 3) := by decide +kernel
theorem dX11_isWithin_5 : decode cX11_isWithin 5 = .ok (.iload_n 0, 1) := by decide +kernel
theorem dX11_isWithin_6 : decode cX11_isWithin 6 = .ok (.iload_n 2, 1) := by decide +kernel
theorem dX11_isWithin_7 : decode cX11_isWithin 7 = .ok (.if_icmp .gt 7, 3) := by decide +kernel
theorem dX11_isWithin_10 : decode cX11_isWithin 10 = .ok (.iconst 1, 1) := by decide +kernel
theorem dX11_isWithin_11 : decode cX11_isWithin 11 = .ok (.goto 4, 3) := by decide +kernel
theorem dX11_isWithin_14 : decode cX11_isWithin 14 = .ok (.iconst 0, 1) := by decide +kernel
theorem dX11_isWithin_15 : decode cX11_isWithin 15 = .ok (.ireturn, 1) := by decide +kernel
theorem dX11_has_0 : decode cX11_has 0 = .ok (.iload_n 1, 1) := by decide +kernel
theorem dX11_has_1 : decode cX11_has 1 = .ok (.ifCond .lt 21, 3) := by decide +kernel
theorem dX11_has_4 : decode cX11_has 4 = .ok (.iload_n 1, 1) := by decide +kernel
theorem dX11_has_5 : decode cX11_has 5 = .ok (.bipush 6, 2) := by decide +kernel
theorem dX11_has_7 : decode cX11_has 7 = .ok (.if_icmp .ge 15, 3) := by decide +kernel
theorem dX11_has_10 : decode cX11_has 10 = .ok (.iload_n 0, 1) := by decide +kernel
theorem dX11_has_11 : decode cX11_has 11 = .ok (.iload_n 1, 1) := by decide +kernel
theorem dX11_has_12 : decode cX11_has 12 = .ok (.ishr, 1) := by decide +kernel
theorem dX11_has_13 : decode cX11_has 13 = .ok (.iconst 1, 1) := by decide +kernel
theorem dX11_has_14 : decode cX11_has 14 = .ok (.iand, 1) := by decide +kernel
theorem dX11_has_15 : decode cX11_has 15 = .ok (.ifCond .eq 7, 3) := by decide +kernel
theorem dX11_has_18 : decode cX11_has 18 = .ok (.iconst 1, 1) := by decide +kernel
theorem dX11_has_19 : decode cX11_has 19 = .ok (.goto 4, 3) := by decide +kernel
theorem dX11_has_22 : decode cX11_has 22 = .ok (.iconst 0, 1) := by decide +kernel
theorem dX11_has_23 : decode cX11_has 23 = .ok (.ireturn, 1) := by decide +kernel
theorem dX11_allOf_0 : decode cX11_allOf 0 = .ok (.iconst 1, 1) := by decide +kernel
theorem dX11_allOf_1 : decode cX11_allOf 1 = .ok (.iload_n 0, 1) := by decide +kernel
theorem dX11_allOf_2 : decode cX11_allOf 2 = .ok (.ishl, 1) := by decide +kernel
theorem dX11_allOf_3 : decode cX11_allOf 3 = .ok (.iconst 1, 1) := by decide +kernel
theorem dX11_allOf_4 : decode cX11_allOf 4 = .ok (.isub, 1) := by decide +kernel
theorem dX11_allOf_5 : decode cX11_allOf 5 = .ok (.ireturn, 1) := by decide +kernel
theorem dX12_init_0 : decode cX12_init 0 = .ok (.aload_n 0, 1) := by decide +kernel
theorem dX12_init_1 : decode cX12_init 1 = .ok (.invokespecial 1, 3) := by decide +kernel
theorem dX12_init_4 : decode cX12_init 4 = .ok (.aload_n 0, 1) := by decide +kernel
theorem dX12_init_5 : decode cX12_init 5 = .ok (.iconst (-1), 1) := by decide +kernel
theorem dX12_init_6 : decode cX12_init 6 = .ok (.putfield 9, 3) := by decide +kernel
theorem dX12_init_9 : decode cX12_init 9 = .ok (.aload_n 0, 1) := by decide +kernel
theorem dX12_init_10 : decode cX12_init 10 = .ok (.sipush 600, 3) := by decide +kernel
theorem dX12_init_13 : decode cX12_init 13 = .ok (.newarray .int, 2) := by decide +kernel
theorem dX12_init_15 : decode cX12_init 15 = .ok (.putfield 13, 3) := by decide +kernel
theorem dX12_init_18 : decode cX12_init 18 = .ok (.aload_n 0, 1) := by decide +kernel
theorem dX12_init_19 : decode cX12_init 19 = .ok (.iconst 4, 1) := by decide +kernel
theorem dX12_init_20 : decode cX12_init 20 = .ok (.newarray .int, 2) := by decide +kernel
theorem dX12_init_22 : decode cX12_init 22 = .ok (.putfield 17, 3) := by decide +kernel
theorem dX12_init_25 : decode cX12_init 25 = .ok (.aload_n 0, 1) := by decide +kernel
theorem dX12_init_26 : decode cX12_init 26 = .ok (.iconst 3, 1) := by decide +kernel
theorem dX12_init_27 : decode cX12_init 27 = .ok (.newarray .int, 2) := by decide +kernel
theorem dX12_init_29 : decode cX12_init 29 = .ok (.putfield 20, 3) := by decide +kernel
theorem dX12_init_32 : decode cX12_init 32 = .ok (.aload_n 0, 1) := by decide +kernel
theorem dX12_init_33 : decode cX12_init 33 = .ok (.iconst 3, 1) := by decide +kernel
theorem dX12_init_34 : decode cX12_init 34 = .ok (.newarray .int, 2) := by decide +kernel
theorem dX12_init_36 : decode cX12_init 36 = .ok (.putfield 23, 3) := by decide +kernel
theorem dX12_init_39 : decode cX12_init 39 = .ok (.aload_n 0, 1) := by decide +kernel
theorem dX12_init_40 : decode cX12_init 40 = .ok (.sipush 160, 3) := by decide +kernel
theorem dX12_init_43 : decode cX12_init 43 = .ok (.iconst 2, 1) := by decide +kernel
theorem dX12_init_44 : decode cX12_init 44 = .ok (.multianewarray 26 2, 4) := by decide +kernel
theorem dX12_init_48 : decode cX12_init 48 = .ok (.putfield 28, 3) := by decide +kernel
theorem dX12_init_51 : decode cX12_init 51 = .ok (.aload_n 0, 1) := by decide +kernel
theorem dX12_init_52 : decode cX12_init 52 = .ok (.sipush 160, 3) := by decide +kernel
theorem dX12_init_55 : decode cX12_init 55 = .ok (.iconst 2, 1) := by decide +kernel
theorem dX12_init_56 : decode cX12_init 56 = .ok (.multianewarray 26 2, 4) := by decide +kernel
theorem dX12_init_60 : decode cX12_init 60 = .ok (.putfield 31, 3) := by decide +kernel
theorem dX12_init_63 : decode cX12_init 63 = .ok (.aload_n 0, 1) := by decide +kernel
theorem dX12_init_64 : decode cX12_init 64 = .ok (.bipush 6, 2) := by decide +kernel
theorem dX12_init_66 : decode cX12_init 66 = .ok (.iconst 2, 1) := by decide +kernel
theorem dX12_init_67 : decode cX12_init 67 = .ok (.multianewarray 26 2, 4) := by decide +kernel
theorem dX12_init_71 : decode cX12_init 71 = .ok (.putfield 34, 3) := by decide +kernel
theorem dX12_init_74 : decode cX12_init 74 = .ok (.aload_n 0, 1) := by decide +kernel
theorem dX12_init_75 : decode cX12_init 75 = .ok (.bipush 6, 2) := by decide +kernel
theorem dX12_init_77 : decode cX12_init 77 = .ok (.iconst 2, 1) := by decide +kernel
theorem dX12_init_78 : decode cX12_init 78 = .ok (.multianewarray 26 2, 4) := by decide +kernel
theorem dX12_init_82 : decode cX12_init 82 = .ok (.putfield 37, 3) := by decide +kernel
theorem dX12_init_85 : decode cX12_init 85 = .ok (.aload_n 0, 1) := by decide +kernel
theorem dX12_init_86 : decode cX12_init 86 = .ok (.sipush 160, 3) := by decide +kernel
theorem dX12_init_89 : decode cX12_init 89 = .ok (.newarray .int, 2) := by decide +kernel
theorem dX12_init_91 : decode cX12_init 91 = .ok (.putfield 40, 3) := by decide +kernel
theorem dX12_init_94 : decode cX12_init 94 = .ok (.aload_n 0, 1) := by decide +kernel
theorem dX12_init_95 : decode cX12_init 95 = .ok (.iconst 4, 1) := by decide +kernel
theorem dX12_init_96 : decode cX12_init 96 = .ok (.newarray .int, 2) := by decide +kernel
theorem dX12_init_98 : decode cX12_init 98 = .ok (.putfield 43, 3) := by decide +kernel
theorem dX12_init_101 : decode cX12_init 101 = .ok (.aload_n 0, 1) := by decide +kernel
theorem dX12_init_102 : decode cX12_init 102 = .ok (.bipush 80, 2) := by decide +kernel
theorem dX12_init_104 : decode cX12_init 104 = .ok (.iconst 4, 1) := by decide +kernel
theorem dX12_init_105 : decode cX12_init 105 = .ok (.multianewarray 26 2, 4) := by decide +kernel
theorem dX12_init_109 : decode cX12_init 109 = .ok (.putfield 46, 3) := by decide +kernel
theorem dX12_init_112 : decode cX12_init 112 = .ok (.aload_n 0, 1) := by decide +kernel
theorem dX12_init_113 : decode cX12_init 113 = .ok (.sipush 968, 3) := by decide +kernel
theorem dX12_init_116 : decode cX12_init 116 = .ok (.newarray .int, 2) := by decide +kernel
theorem dX12_init_118 : decode cX12_init 118 = .ok (.putfield 49, 3) := by decide +kernel
theorem dX12_init_121 : decode cX12_init 121 = .ok (.aload_n 0, 1) := by decide +kernel
theorem dX12_init_122 : decode cX12_init 122 = .ok (.sipush 968, 3) := by decide +kernel
theorem dX12_init_125 : decode cX12_init 125 = .ok (.newarray .int, 2) := by decide +kernel
theorem dX12_init_127 : decode cX12_init 127 = .ok (.putfield 52, 3) := by decide +kernel
theorem dX12_init_130 : decode cX12_init 130 = .ok (.aload_n 0, 1) := by decide +kernel
theorem dX12_init_131 : decode cX12_init 131 = .ok (.bipush 16, 2) := by decide +kernel
theorem dX12_init_133 : decode cX12_init 133 = .ok (.sipush 968, 3) := by decide +kernel
theorem dX12_init_136 : decode cX12_init 136 = .ok (.multianewarray 26 2, 4) := by decide +kernel
theorem dX12_init_140 : decode cX12_init 140 = .ok (.putfield 55, 3) := by decide +kernel
theorem dX12_init_143 : decode cX12_init 143 = .ok (.aload_n 0, 1) := by decide +kernel
theorem dX12_init_144 : decode cX12_init 144 = .ok (.iconst 3, 1) := by decide +kernel
theorem dX12_init_145 : decode cX12_init 145 = .ok (.sipush 16457, 3) := by decide +kernel
theorem dX12_init_148 : decode cX12_init 148 = .ok (.multianewarray 26 2, 4) := by decide +kernel
theorem dX12_init_152 : decode cX12_init 152 = .ok (.putfield 58, 3) := by decide +kernel
theorem dX12_init_155 : decode cX12_init 155 = .ok (.aload_n 0, 1) := by decide +kernel
theorem dX12_init_156 : decode cX12_init 156 = .ok (.bipush 60, 2) := by decide +kernel
theorem dX12_init_158 : decode cX12_init 158 = .ok (.newarray .int, 2) := by decide +kernel
theorem dX12_init_160 : decode cX12_init 160 = .ok (.putfield 61, 3) := by decide +kernel
theorem dX12_init_163 : decode cX12_init 163 = .ok (.aload_n 0, 1) := by decide +kernel
theorem dX12_init_164 : decode cX12_init 164 = .ok (.invokevirtual 64, 3) := by decide +kernel
theorem dX12_init_167 : decode cX12_init 167 = .ok (.aload_n 0, 1) := by decide +kernel
theorem dX12_init_168 : decode cX12_init 168 = .ok (.invokevirtual 67, 3) := by decide +kernel
theorem dX12_init_171 : decode cX12_init 171 = .ok (.return_, 1) := by decide +kernel
theorem dX12_tellsNothing_0 : decode cX12_tellsNothing 0 = .ok (.aload_n 0, 1) := by decide +kernel
theorem dX12_tellsNothing_1 : decode cX12_tellsNothing 1 = .ok (.getfield 20, 3) := by decide +kernel
theorem dX12_tellsNothing_4 : decode cX12_tellsNothing 4 = .ok (.iconst 0, 1) := by decide +kernel
theorem dX12_tellsNothing_5 : decode cX12_tellsNothing 5 = .ok (.iconst 0, 1) := by decide +kernel
theorem dX12_tellsNothing_6 : decode cX12_tellsNothing 6 = .ok (.iastore, 1) := by decide +kernel
theorem dX12_tellsNothing_7 : decode cX12_tellsNothing 7 = .ok (.aload_n 0, 1) := by decide +kernel
theorem dX12_tellsNothing_8 : decode cX12_tellsNothing 8 = .ok (.getfield 20, 3) := by decide +kernel
theorem dX12_tellsNothing_11 : decode cX12_tellsNothing 11 = .ok (.iconst 1, 1) := by decide +kernel
theorem dX12_tellsNothing_12 : decode cX12_tellsNothing 12 = .ok (.iconst 0, 1) := by decide +kernel
theorem dX12_tellsNothing_13 : decode cX12_tellsNothing 13 = .ok (.iastore, 1) := by decide +kernel
theorem dX12_tellsNothing_14 : decode cX12_tellsNothing 14 = .ok (.aload_n 0, 1) := by decide +kernel
theorem dX12_tellsNothing_15 : decode cX12_tellsNothing 15 = .ok (.getfield 20, 3) := by decide +kernel
theorem dX12_tellsNothing_18 : decode cX12_tellsNothing 18 = .ok (.iconst 2, 1) := by decide +kernel
theorem dX12_tellsNothing_19 : decode cX12_tellsNothing 19 = .ok (.bipush 30, 2) := by decide +kernel
theorem dX12_tellsNothing_21 : decode cX12_tellsNothing 21 = .ok (.iastore, 1) := by decide +kernel
theorem dX12_tellsNothing_22 : decode cX12_tellsNothing 22 = .ok (.return_, 1) := by decide +kernel
theorem dX12_thrown_0 : decode cX12_thrown 0 = .ok (.aload_n 0, 1) := by decide +kernel
theorem dX12_thrown_1 : decode cX12_thrown 1 = .ok (.getfield 70, 3) := by decide +kernel
theorem dX12_thrown_4 : decode cX12_thrown 4 = .ok (.ireturn, 1) := by decide +kernel
theorem dX12_bad_0 : decode cX12_bad 0 = .ok (.iload_n 1, 1) := by decide +kernel
theorem dX12_bad_1 : decode cX12_bad 1 = .ok (.ifCond .eq 25, 3) := by decide +kernel
theorem dX12_bad_4 : decode cX12_bad 4 = .ok (.aload_n 0, 1) := by decide +kernel
theorem dX12_bad_5 : decode cX12_bad 5 = .ok (.getfield 70, 3) := by decide +kernel
theorem dX12_bad_8 : decode cX12_bad 8 = .ok (.ifCond .ne 18, 3) := by decide +kernel
theorem dX12_bad_11 : decode cX12_bad 11 = .ok (.aload_n 0, 1) := by decide +kernel
theorem dX12_bad_12 : decode cX12_bad 12 = .ok (.iload_n 2, 1) := by decide +kernel
theorem dX12_bad_13 : decode cX12_bad 13 = .ok (.putfield 70, 3) := by decide +kernel
theorem dX12_bad_16 : decode cX12_bad 16 = .ok (.aload_n 0, 1) := by decide +kernel
theorem dX12_bad_17 : decode cX12_bad 17 = .ok (.getfield 17, 3) := by decide +kernel
theorem dX12_bad_20 : decode cX12_bad 20 = .ok (.iload_n 3, 1) := by decide +kernel
theorem dX12_bad_21 : decode cX12_bad 21 = .ok (.dup2, 1) := by decide +kernel
theorem dX12_bad_22 : decode cX12_bad 22 = .ok (.iaload, 1) := by decide +kernel
theorem dX12_bad_23 : decode cX12_bad 23 = .ok (.iconst 1, 1) := by decide +kernel
theorem dX12_bad_24 : decode cX12_bad 24 = .ok (.iadd, 1) := by decide +kernel
theorem dX12_bad_25 : decode cX12_bad 25 = .ok (.iastore, 1) := by decide +kernel
theorem dX12_bad_26 : decode cX12_bad 26 = .ok (.aload_n 0, 1) := by decide +kernel
theorem dX12_bad_27 : decode cX12_bad 27 = .ok (.getfield 70, 3) := by decide +kernel
theorem dX12_bad_30 : decode cX12_bad 30 = .ok (.ifCond .eq 7, 3) := by decide +kernel
theorem dX12_bad_33 : decode cX12_bad 33 = .ok (.iconst 1, 1) := by decide +kernel
theorem dX12_bad_34 : decode cX12_bad 34 = .ok (.goto 4, 3) := by decide +kernel
theorem dX12_bad_37 : decode cX12_bad 37 = .ok (.iconst 0, 1) := by decide +kernel
theorem dX12_bad_38 : decode cX12_bad 38 = .ok (.ireturn, 1) := by decide +kernel
theorem dX12_in_0 : decode cX12_in 0 = .ok (.iload_n 0, 1) := by decide +kernel
theorem dX12_in_1 : decode cX12_in 1 = .ok (.iload_n 1, 1) := by decide +kernel
theorem dX12_in_2 : decode cX12_in 2 = .ok (.if_icmp .lt 12, 3) := by decide +kernel
theorem dX12_in_5 : decode cX12_in 5 = .ok (.iload_n 0, 1) := by decide +kernel
theorem dX12_in_6 : decode cX12_in 6 = .ok (.iload_n 2, 1) := by decide +kernel
theorem dX12_in_7 : decode cX12_in 7 = .ok (.if_icmp .gt 7, 3) := by decide +kernel
theorem dX12_in_10 : decode cX12_in 10 = .ok (.iconst 1, 1) := by decide +kernel
theorem dX12_in_11 : decode cX12_in 11 = .ok (.goto 4, 3) := by decide +kernel
theorem dX12_in_14 : decode cX12_in 14 = .ok (.iconst 0, 1) := by decide +kernel
theorem dX12_in_15 : decode cX12_in 15 = .ok (.ireturn, 1) := by decide +kernel
theorem dX12_less_0 : decode cX12_less 0 = .ok (.iload_n 0, 1) := by decide +kernel
theorem dX12_less_1 : decode cX12_less 1 = .ok (.iload_n 1, 1) := by decide +kernel
theorem dX12_less_2 : decode cX12_less 2 = .ok (.if_icmp .ge 7, 3) := by decide +kernel
theorem dX12_less_5 : decode cX12_less 5 = .ok (.iload_n 0, 1) := by decide +kernel
theorem dX12_less_6 : decode cX12_less 6 = .ok (.goto 4, 3) := by decide +kernel
theorem dX12_less_9 : decode cX12_less 9 = .ok (.iload_n 1, 1) := by decide +kernel
theorem dX12_less_10 : decode cX12_less 10 = .ok (.ireturn, 1) := by decide +kernel
theorem dX12_more_0 : decode cX12_more 0 = .ok (.iload_n 0, 1) := by decide +kernel
theorem dX12_more_1 : decode cX12_more 1 = .ok (.iload_n 1, 1) := by decide +kernel
theorem dX12_more_2 : decode cX12_more 2 = .ok (.if_icmp .le 7, 3) := by decide +kernel
theorem dX12_more_5 : decode cX12_more 5 = .ok (.iload_n 0, 1) := by decide +kernel
theorem dX12_more_6 : decode cX12_more 6 = .ok (.goto 4, 3) := by decide +kernel
theorem dX12_more_9 : decode cX12_more 9 = .ok (.iload_n 1, 1) := by decide +kernel
theorem dX12_more_10 : decode cX12_more 10 = .ok (.ireturn, 1) := by decide +kernel
theorem dX12_has_0 : decode cX12_has 0 = .ok (.iload_n 0, 1) := by decide +kernel
theorem dX12_has_1 : decode cX12_has 1 = .ok (.iload_n 1, 1) := by decide +kernel
theorem dX12_has_2 : decode cX12_has 2 = .ok (.ishr, 1) := by decide +kernel
theorem dX12_has_3 : decode cX12_has 3 = .ok (.iconst 1, 1) := by decide +kernel
theorem dX12_has_4 : decode cX12_has 4 = .ok (.iand, 1) := by decide +kernel
theorem dX12_has_5 : decode cX12_has 5 = .ok (.iconst 1, 1) := by decide +kernel
theorem dX12_has_6 : decode cX12_has 6 = .ok (.if_icmp .ne 7, 3) := by decide +kernel
theorem dX12_has_9 : decode cX12_has 9 = .ok (.iconst 1, 1) := by decide +kernel
theorem dX12_has_10 : decode cX12_has 10 = .ok (.goto 4, 3) := by decide +kernel
theorem dX12_has_13 : decode cX12_has 13 = .ok (.iconst 0, 1) := by decide +kernel
theorem dX12_has_14 : decode cX12_has 14 = .ok (.ireturn, 1) := by decide +kernel
theorem dX12_feed_0 : decode cX12_feed 0 = .ok (.aload_n 0, 1) := by decide +kernel
theorem dX12_feed_1 : decode cX12_feed 1 = .ok (.iconst 0, 1) := by decide +kernel
theorem dX12_feed_2 : decode cX12_feed 2 = .ok (.putfield 70, 3) := by decide +kernel
theorem dX12_feed_5 : decode cX12_feed 5 = .ok (.aload_n 0, 1) := by decide +kernel
theorem dX12_feed_6 : decode cX12_feed 6 = .ok (.getfield 73, 3) := by decide +kernel
theorem dX12_feed_9 : decode cX12_feed 9 = .ok (.bipush 20, 2) := by decide +kernel
theorem dX12_feed_11 : decode cX12_feed 11 = .ok (.iadd, 1) := by decide +kernel
theorem dX12_feed_12 : decode cX12_feed 12 = .ok (.sipush 600, 3) := by decide +kernel
theorem dX12_feed_15 : decode cX12_feed 15 = .ok (.if_icmp .le 5, 3) := by decide +kernel
theorem dX12_feed_18 : decode cX12_feed 18 = .ok (.iconst (-1), 1) := by decide +kernel
theorem dX12_feed_19 : decode cX12_feed 19 = .ok (.ireturn, 1) := by decide +kernel
theorem dX12_feed_20 : decode cX12_feed 20 = .ok (.iconst 0, 1) := by decide +kernel
theorem dX12_feed_21 : decode cX12_feed 21 = .ok (.istore 6, 2) := by decide +kernel
theorem dX12_feed_23 : decode cX12_feed 23 = .ok (.iload 6, 2) := by decide +kernel
theorem dX12_feed_25 : decode cX12_feed 25 = .ok (.bipush 20, 2) := by decide +kernel
theorem dX12_feed_27 : decode cX12_feed 27 = .ok (.if_icmp .ge 93, 3) := by decide +kernel
theorem dX12_feed_30 : decode cX12_feed 30 = .ok (.iload 6, 2) := by decide +kernel
theorem dX12_feed_32 : decode cX12_feed 32 = .ok (.iconst 4, 1) := by decide +kernel
theorem dX12_feed_33 : decode cX12_feed 33 = .ok (.if_icmp .ge 7, 3) := by decide +kernel
theorem dX12_feed_36 : decode cX12_feed 36 = .ok (.iload_n 1, 1) := by decide +kernel
theorem dX12_feed_37 : decode cX12_feed 37 = .ok (.goto 39, 3) := by decide +kernel
theorem dX12_feed_40 : decode cX12_feed 40 = .ok (.iload 6, 2) := by decide +kernel
theorem dX12_feed_42 : decode cX12_feed 42 = .ok (.bipush 8, 2) := by decide +kernel
theorem dX12_feed_44 : decode cX12_feed 44 = .ok (.if_icmp .ge 7, 3) := by decide +kernel
theorem dX12_feed_47 : decode cX12_feed 47 = .ok (.iload_n 2, 1) := by decide +kernel
theorem dX12_feed_48 : decode cX12_feed 48 = .ok (.goto 28, 3) := by decide +kernel
theorem dX12_feed_51 : decode cX12_feed 51 = .ok (.iload 6, 2) := by decide +kernel
theorem dX12_feed_53 : decode cX12_feed 53 = .ok (.bipush 12, 2) := by decide +kernel
theorem dX12_feed_55 : decode cX12_feed 55 = .ok (.if_icmp .ge 7, 3) := by decide +kernel
theorem dX12_feed_58 : decode cX12_feed 58 = .ok (.iload_n 3, 1) := by decide +kernel
theorem dX12_feed_59 : decode cX12_feed 59 = .ok (.goto 17, 3) := by decide +kernel
theorem dX12_feed_62 : decode cX12_feed 62 = .ok (.iload 6, 2) := by decide +kernel
theorem dX12_feed_64 : decode cX12_feed 64 = .ok (.bipush 16, 2) := by decide +kernel
theorem dX12_feed_66 : decode cX12_feed 66 = .ok (.if_icmp .ge 8, 3) := by decide +kernel
theorem dX12_feed_69 : decode cX12_feed 69 = .ok (.iload 4, 2) := by decide +kernel
theorem dX12_feed_71 : decode cX12_feed 71 = .ok (.goto 5, 3) := by decide +kernel
theorem dX12_feed_74 : decode cX12_feed 74 = .ok (.iload 5, 2) := by decide +kernel
theorem dX12_feed_76 : decode cX12_feed 76 = .ok (.istore 7, 2) := by decide +kernel
theorem dX12_feed_78 : decode cX12_feed 78 = .ok (.aload_n 0, 1) := by decide +kernel
theorem dX12_feed_79 : decode cX12_feed 79 = .ok (.getfield 13, 3) := by decide +kernel
theorem dX12_feed_82 : decode cX12_feed 82 = .ok (.aload_n 0, 1) := by decide +kernel
theorem dX12_feed_83 : decode cX12_feed 83 = .ok (.getfield 73, 3) := by decide +kernel
theorem dX12_feed_86 : decode cX12_feed 86 = .ok (.iload 7, 2) := by decide +kernel
theorem dX12_feed_88 : decode cX12_feed 88 = .ok (.bipush 24, 2) := by decide +kernel
theorem dX12_feed_90 : decode cX12_feed 90 = .ok (.bipush 8, 2) := by decide +kernel
theorem dX12_feed_92 : decode cX12_feed 92 = .ok (.iload 6, 2) := by decide +kernel
theorem dX12_feed_94 : decode cX12_feed 94 = .ok (.iconst 4, 1) := by decide +kernel
theorem dX12_feed_95 : decode cX12_feed 95 = .ok (.irem, 1) := by decide +kernel
theorem dX12_feed_96 : decode cX12_feed 96 = .ok (.imul, 1) := by decide +kernel
theorem dX12_feed_97 : decode cX12_feed 97 = .ok (.isub, 1) := by decide +kernel
theorem dX12_feed_98 : decode cX12_feed 98 = .ok (.ishr, 1) := by decide +kernel
theorem dX12_feed_99 : decode cX12_feed 99 = .ok (.sipush 255, 3) := by decide +kernel
theorem dX12_feed_102 : decode cX12_feed 102 = .ok (.iand, 1) := by decide +kernel
theorem dX12_feed_103 : decode cX12_feed 103 = .ok (.iastore, 1) := by decide +kernel
theorem dX12_feed_104 : decode cX12_feed 104 = .ok (.aload_n 0, 1) := by decide +kernel
theorem dX12_feed_105 : decode cX12_feed 105 = .ok (.dup, 1) := by decide +kernel
theorem dX12_feed_106 : decode cX12_feed 106 = .ok (.getfield 73, 3) := by decide +kernel
theorem dX12_feed_109 : decode cX12_feed 109 = .ok (.iconst 1, 1) := by decide +kernel
theorem dX12_feed_110 : decode cX12_feed 110 = .ok (.iadd, 1) := by decide +kernel
theorem dX12_feed_111 : decode cX12_feed 111 = .ok (.putfield 73, 3) := by decide +kernel
theorem dX12_feed_114 : decode cX12_feed 114 = .ok (.iinc 6 1, 3) := by decide +kernel
theorem dX12_feed_117 : decode cX12_feed 117 = .ok (.goto (-94), 3) := by decide +kernel
theorem dX12_feed_120 : decode cX12_feed 120 = .ok (.aload_n 0, 1) := by decide +kernel
theorem dX12_feed_121 : decode cX12_feed 121 = .ok (.getfield 73, 3) := by decide +kernel
theorem dX12_feed_124 : decode cX12_feed 124 = .ok (.ireturn, 1) := by decide +kernel
theorem dX12_byteAt_0 : decode cX12_byteAt 0 = .ok (.iload_n 1, 1) := by decide +kernel
theorem dX12_byteAt_1 : decode cX12_byteAt 1 = .ok (.aload_n 0, 1) := by decide +kernel
theorem dX12_byteAt_2 : decode cX12_byteAt 2 = .ok (.getfield 76, 3) := by decide +kernel
theorem dX12_byteAt_5 : decode cX12_byteAt 5 = .ok (.if_icmp .lt 7, 3) := by decide +kernel
theorem dX12_byteAt_8 : decode cX12_byteAt 8 = .ok (.iconst (-1), 1) := by decide +kernel
theorem dX12_byteAt_9 : decode cX12_byteAt 9 = .ok (.goto 9, 3) := by decide +kernel
theorem dX12_byteAt_12 : decode cX12_byteAt 12 = .ok (.aload_n 0, 1) := by decide +kernel
theorem dX12_byteAt_13 : decode cX12_byteAt 13 = .ok (.getfield 13, 3) := by decide +kernel
theorem dX12_byteAt_16 : decode cX12_byteAt 16 = .ok (.iload_n 1, 1) := by decide +kernel
theorem dX12_byteAt_17 : decode cX12_byteAt 17 = .ok (.iaload, 1) := by decide +kernel
theorem dX12_byteAt_18 : decode cX12_byteAt 18 = .ok (.ireturn, 1) := by decide +kernel
theorem dX12_blanks_0 : decode cX12_blanks 0 = .ok (.aload_n 0, 1) := by decide +kernel
theorem dX12_blanks_1 : decode cX12_blanks 1 = .ok (.aload_n 0, 1) := by decide +kernel
theorem dX12_blanks_2 : decode cX12_blanks 2 = .ok (.getfield 79, 3) := by decide +kernel
theorem dX12_blanks_5 : decode cX12_blanks 5 = .ok (.invokevirtual 82, 3) := by decide +kernel
theorem dX12_blanks_8 : decode cX12_blanks 8 = .ok (.bipush 32, 2) := by decide +kernel
theorem dX12_blanks_10 : decode cX12_blanks 10 = .ok (.if_icmp .ne 16, 3) := by decide +kernel
theorem dX12_blanks_13 : decode cX12_blanks 13 = .ok (.aload_n 0, 1) := by decide +kernel
theorem dX12_blanks_14 : decode cX12_blanks 14 = .ok (.dup, 1) := by decide +kernel
theorem dX12_blanks_15 : decode cX12_blanks 15 = .ok (.getfield 79, 3) := by decide +kernel
theorem dX12_blanks_18 : decode cX12_blanks 18 = .ok (.iconst 1, 1) := by decide +kernel
theorem dX12_blanks_19 : decode cX12_blanks 19 = .ok (.iadd, 1) := by decide +kernel
theorem dX12_blanks_20 : decode cX12_blanks 20 = .ok (.putfield 79, 3) := by decide +kernel
theorem dX12_blanks_23 : decode cX12_blanks 23 = .ok (.goto (-23), 3) := by decide +kernel
theorem dX12_blanks_26 : decode cX12_blanks 26 = .ok (.return_, 1) := by decide +kernel
theorem dX12_wrong_0 : decode cX12_wrong 0 = .ok (.aload_n 0, 1) := by decide +kernel
theorem dX12_wrong_1 : decode cX12_wrong 1 = .ok (.getfield 86, 3) := by decide +kernel
theorem dX12_wrong_4 : decode cX12_wrong 4 = .ok (.ifCond .ne 13, 3) := by decide +kernel
theorem dX12_wrong_7 : decode cX12_wrong 7 = .ok (.aload_n 0, 1) := by decide +kernel
theorem dX12_wrong_8 : decode cX12_wrong 8 = .ok (.iload_n 1, 1) := by decide +kernel
theorem dX12_wrong_9 : decode cX12_wrong 9 = .ok (.putfield 86, 3) := by decide +kernel
theorem dX12_wrong_12 : decode cX12_wrong 12 = .ok (.aload_n 0, 1) := by decide +kernel
theorem dX12_wrong_13 : decode cX12_wrong 13 = .ok (.iload_n 2, 1) := by decide +kernel
theorem dX12_wrong_14 : decode cX12_wrong 14 = .ok (.putfield 89, 3) := by decide +kernel
theorem dX12_wrong_17 : decode cX12_wrong 17 = .ok (.return_, 1) := by decide +kernel
theorem dX12_isDigit_0 : decode cX12_isDigit 0 = .ok (.iload_n 0, 1) := by decide +kernel
theorem dX12_isDigit_1 : decode cX12_isDigit 1 = .ok (.bipush 48, 2) := by decide +kernel
theorem dX12_isDigit_3 : decode cX12_isDigit 3 = .ok (.if_icmp .lt 13, 3) := by decide +kernel
theorem dX12_isDigit_6 : decode cX12_isDigit 6 = .ok (.iload_n 0, 1) := by decide +kernel
theorem dX12_isDigit_7 : decode cX12_isDigit 7 = .ok (.bipush 57, 2) := by decide +kernel
theorem dX12_isDigit_9 : decode cX12_isDigit 9 = .ok (.if_icmp .gt 7, 3) := by decide +kernel
theorem dX12_isDigit_12 : decode cX12_isDigit 12 = .ok (.iconst 1, 1) := by decide +kernel
theorem dX12_isDigit_13 : decode cX12_isDigit 13 = .ok (.goto 4, 3) := by decide +kernel
theorem dX12_isDigit_16 : decode cX12_isDigit 16 = .ok (.iconst 0, 1) := by decide +kernel
theorem dX12_isDigit_17 : decode cX12_isDigit 17 = .ok (.ireturn, 1) := by decide +kernel
theorem dX12_isSmall_0 : decode cX12_isSmall 0 = .ok (.iload_n 0, 1) := by decide +kernel
theorem dX12_isSmall_1 : decode cX12_isSmall 1 = .ok (.bipush 97, 2) := by decide +kernel
theorem dX12_isSmall_3 : decode cX12_isSmall 3 = .ok (.if_icmp .lt 13, 3) := by decide +kernel
theorem dX12_isSmall_6 : decode cX12_isSmall 6 = .ok (.iload_n 0, 1) := by decide +kernel
theorem dX12_isSmall_7 : decode cX12_isSmall 7 = .ok (.bipush 122, 2) := by decide +kernel
theorem dX12_isSmall_9 : decode cX12_isSmall 9 = .ok (.if_icmp .gt 7, 3) := by decide +kernel
theorem dX12_isSmall_12 : decode cX12_isSmall 12 = .ok (.iconst 1, 1) := by decide +kernel
theorem dX12_isSmall_13 : decode cX12_isSmall 13 = .ok (.goto 4, 3) := by decide +kernel
theorem dX12_isSmall_16 : decode cX12_isSmall 16 = .ok (.iconst 0, 1) := by decide +kernel
theorem dX12_isSmall_17 : decode cX12_isSmall 17 = .ok (.ireturn, 1) := by decide +kernel
theorem dX12_number_0 : decode cX12_number 0 = .ok (.aload_n 0, 1) := by decide +kernel
theorem dX12_number_1 : decode cX12_number 1 = .ok (.getfield 86, 3) := by decide +kernel
theorem dX12_number_4 : decode cX12_number 4 = .ok (.ifCond .eq 5, 3) := by decide +kernel
theorem dX12_number_7 : decode cX12_number 7 = .ok (.iconst 0, 1) := by decide +kernel
theorem dX12_number_8 : decode cX12_number 8 = .ok (.ireturn, 1) := by decide +kernel
theorem dX12_number_9 : decode cX12_number 9 = .ok (.aload_n 0, 1) := by decide +kernel
theorem dX12_number_10 : decode cX12_number 10 = .ok (.invokevirtual 92, 3) := by decide +kernel
theorem dX12_number_13 : decode cX12_number 13 = .ok (.aload_n 0, 1) := by decide +kernel
theorem dX12_number_14 : decode cX12_number 14 = .ok (.getfield 79, 3) := by decide +kernel
theorem dX12_number_17 : decode cX12_number 17 = .ok (.istore_n 3, 1) := by decide +kernel
theorem dX12_number_18 : decode cX12_number 18 = .ok (.iconst 0, 1) := by decide +kernel
theorem dX12_number_19 : decode cX12_number 19 = .ok (.istore 4, 2) := by decide +kernel
theorem dX12_number_21 : decode cX12_number 21 = .ok (.aload_n 0, 1) := by decide +kernel
theorem dX12_number_22 : decode cX12_number 22 = .ok (.aload_n 0, 1) := by decide +kernel
theorem dX12_number_23 : decode cX12_number 23 = .ok (.getfield 79, 3) := by decide +kernel
theorem dX12_number_26 : decode cX12_number 26 = .ok (.invokevirtual 82, 3) := by decide +kernel
theorem dX12_number_29 : decode cX12_number 29 = .ok (.invokestatic 95, 3) := by decide +kernel
theorem dX12_number_32 : decode cX12_number 32 = .ok (.ifCond .ne 12, 3) := by decide +kernel
theorem dX12_number_35 : decode cX12_number 35 = .ok (.aload_n 0, 1) := by decide +kernel
theorem dX12_number_36 : decode cX12_number 36 = .ok (.iconst 1, 1) := by decide +kernel
theorem dX12_number_37 : decode cX12_number 37 = .ok (.aload_n 0, 1) := by decide +kernel
theorem dX12_number_38 : decode cX12_number 38 = .ok (.getfield 79, 3) := by decide +kernel
theorem dX12_number_41 : decode cX12_number 41 = .ok (.invokevirtual 99, 3) := by decide +kernel
theorem dX12_number_44 : decode cX12_number 44 = .ok (.aload_n 0, 1) := by decide +kernel
theorem dX12_number_45 : decode cX12_number 45 = .ok (.aload_n 0, 1) := by decide +kernel
theorem dX12_number_46 : decode cX12_number 46 = .ok (.getfield 79, 3) := by decide +kernel
theorem dX12_number_49 : decode cX12_number 49 = .ok (.invokevirtual 82, 3) := by decide +kernel
theorem dX12_number_52 : decode cX12_number 52 = .ok (.invokestatic 95, 3) := by decide +kernel
theorem dX12_number_55 : decode cX12_number 55 = .ok (.ifCond .eq 51, 3) := by decide +kernel
theorem dX12_number_58 : decode cX12_number 58 = .ok (.bipush 10, 2) := by decide +kernel
theorem dX12_number_60 : decode cX12_number 60 = .ok (.iload 4, 2) := by decide +kernel
theorem dX12_number_62 : decode cX12_number 62 = .ok (.imul, 1) := by decide +kernel
theorem dX12_number_63 : decode cX12_number 63 = .ok (.aload_n 0, 1) := by decide +kernel
theorem dX12_number_64 : decode cX12_number 64 = .ok (.aload_n 0, 1) := by decide +kernel
theorem dX12_number_65 : decode cX12_number 65 = .ok (.getfield 79, 3) := by decide +kernel
theorem dX12_number_68 : decode cX12_number 68 = .ok (.invokevirtual 82, 3) := by decide +kernel
theorem dX12_number_71 : decode cX12_number 71 = .ok (.iadd, 1) := by decide +kernel
theorem dX12_number_72 : decode cX12_number 72 = .ok (.bipush 48, 2) := by decide +kernel
theorem dX12_number_74 : decode cX12_number 74 = .ok (.isub, 1) := by decide +kernel
theorem dX12_number_75 : decode cX12_number 75 = .ok (.istore 4, 2) := by decide +kernel
theorem dX12_number_77 : decode cX12_number 77 = .ok (.iload 4, 2) := by decide +kernel
theorem dX12_number_79 : decode cX12_number 79 = .ok (.ldc 103, 2) := by decide +kernel
theorem dX12_number_81 : decode cX12_number 81 = .ok (.if_icmp .le 8, 3) := by decide +kernel
theorem dX12_number_84 : decode cX12_number 84 = .ok (.ldc 103, 2) := by decide +kernel
theorem dX12_number_86 : decode cX12_number 86 = .ok (.goto 5, 3) := by decide +kernel
theorem dX12_number_89 : decode cX12_number 89 = .ok (.iload 4, 2) := by decide +kernel
theorem dX12_number_91 : decode cX12_number 91 = .ok (.istore 4, 2) := by decide +kernel
theorem dX12_number_93 : decode cX12_number 93 = .ok (.aload_n 0, 1) := by decide +kernel
theorem dX12_number_94 : decode cX12_number 94 = .ok (.dup, 1) := by decide +kernel
theorem dX12_number_95 : decode cX12_number 95 = .ok (.getfield 79, 3) := by decide +kernel
theorem dX12_number_98 : decode cX12_number 98 = .ok (.iconst 1, 1) := by decide +kernel
theorem dX12_number_99 : decode cX12_number 99 = .ok (.iadd, 1) := by decide +kernel
theorem dX12_number_100 : decode cX12_number 100 = .ok (.putfield 79, 3) := by decide +kernel
theorem dX12_number_103 : decode cX12_number 103 = .ok (.goto (-59), 3) := by decide +kernel
theorem dX12_number_106 : decode cX12_number 106 = .ok (.iload 4, 2) := by decide +kernel
theorem dX12_number_108 : decode cX12_number 108 = .ok (.iload_n 1, 1) := by decide +kernel
theorem dX12_number_109 : decode cX12_number 109 = .ok (.iload_n 2, 1) := by decide +kernel
theorem dX12_number_110 : decode cX12_number 110 = .ok (.invokestatic 104, 3) := by decide +kernel
theorem dX12_number_113 : decode cX12_number 113 = .ok (.ifCond .ne 9, 3) := by decide +kernel
theorem dX12_number_116 : decode cX12_number 116 = .ok (.aload_n 0, 1) := by decide +kernel
theorem dX12_number_117 : decode cX12_number 117 = .ok (.iconst 2, 1) := by decide +kernel
theorem dX12_number_118 : decode cX12_number 118 = .ok (.iload_n 3, 1) := by decide +kernel
theorem dX12_number_119 : decode cX12_number 119 = .ok (.invokevirtual 99, 3) := by decide +kernel
theorem dX12_number_122 : decode cX12_number 122 = .ok (.aload_n 0, 1) := by decide +kernel
theorem dX12_number_123 : decode cX12_number 123 = .ok (.getfield 86, 3) := by decide +kernel
theorem dX12_number_126 : decode cX12_number 126 = .ok (.ifCond .ne 8, 3) := by decide +kernel
theorem dX12_number_129 : decode cX12_number 129 = .ok (.iload 4, 2) := by decide +kernel
theorem dX12_number_131 : decode cX12_number 131 = .ok (.goto 4, 3) := by decide +kernel
theorem dX12_number_134 : decode cX12_number 134 = .ok (.iconst 0, 1) := by decide +kernel
theorem dX12_number_135 : decode cX12_number 135 = .ok (.ireturn, 1) := by decide +kernel
theorem dX12_wordHere_0 : decode cX12_wordHere 0 = .ok (.aload_n 0, 1) := by decide +kernel
theorem dX12_wordHere_1 : decode cX12_wordHere 1 = .ok (.invokevirtual 92, 3) := by decide +kernel
theorem dX12_wordHere_4 : decode cX12_wordHere 4 = .ok (.iconst 0, 1) := by decide +kernel
theorem dX12_wordHere_5 : decode cX12_wordHere 5 = .ok (.istore_n 1, 1) := by decide +kernel
theorem dX12_wordHere_6 : decode cX12_wordHere 6 = .ok (.iconst 0, 1) := by decide +kernel
theorem dX12_wordHere_7 : decode cX12_wordHere 7 = .ok (.istore_n 2, 1) := by decide +kernel
theorem dX12_wordHere_8 : decode cX12_wordHere 8 = .ok (.aload_n 0, 1) := by decide +kernel
theorem dX12_wordHere_9 : decode cX12_wordHere 9 = .ok (.aload_n 0, 1) := by decide +kernel
theorem dX12_wordHere_10 : decode cX12_wordHere 10 = .ok (.getfield 79, 3) := by decide +kernel
theorem dX12_wordHere_13 : decode cX12_wordHere 13 = .ok (.iload_n 2, 1) := by decide +kernel
theorem dX12_wordHere_14 : decode cX12_wordHere 14 = .ok (.iadd, 1) := by decide +kernel
theorem dX12_wordHere_15 : decode cX12_wordHere 15 = .ok (.invokevirtual 82, 3) := by decide +kernel
theorem dX12_wordHere_18 : decode cX12_wordHere 18 = .ok (.invokestatic 108, 3) := by decide +kernel
theorem dX12_wordHere_21 : decode cX12_wordHere 21 = .ok (.ifCond .eq 40, 3) := by decide +kernel
theorem dX12_wordHere_24 : decode cX12_wordHere 24 = .ok (.iload_n 2, 1) := by decide +kernel
theorem dX12_wordHere_25 : decode cX12_wordHere 25 = .ok (.bipush 6, 2) := by decide +kernel
theorem dX12_wordHere_27 : decode cX12_wordHere 27 = .ok (.if_icmp .ge 26, 3) := by decide +kernel
theorem dX12_wordHere_30 : decode cX12_wordHere 30 = .ok (.bipush 27, 2) := by decide +kernel
theorem dX12_wordHere_32 : decode cX12_wordHere 32 = .ok (.iload_n 1, 1) := by decide +kernel
theorem dX12_wordHere_33 : decode cX12_wordHere 33 = .ok (.imul, 1) := by decide +kernel
theorem dX12_wordHere_34 : decode cX12_wordHere 34 = .ok (.aload_n 0, 1) := by decide +kernel
theorem dX12_wordHere_35 : decode cX12_wordHere 35 = .ok (.aload_n 0, 1) := by decide +kernel
theorem dX12_wordHere_36 : decode cX12_wordHere 36 = .ok (.getfield 79, 3) := by decide +kernel
theorem dX12_wordHere_39 : decode cX12_wordHere 39 = .ok (.iload_n 2, 1) := by decide +kernel
theorem dX12_wordHere_40 : decode cX12_wordHere 40 = .ok (.iadd, 1) := by decide +kernel
theorem dX12_wordHere_41 : decode cX12_wordHere 41 = .ok (.invokevirtual 82, 3) := by decide +kernel
theorem dX12_wordHere_44 : decode cX12_wordHere 44 = .ok (.iadd, 1) := by decide +kernel
theorem dX12_wordHere_45 : decode cX12_wordHere 45 = .ok (.bipush 97, 2) := by decide +kernel
theorem dX12_wordHere_47 : decode cX12_wordHere 47 = .ok (.isub, 1) := by decide +kernel
theorem dX12_wordHere_48 : decode cX12_wordHere 48 = .ok (.iconst 1, 1) := by decide +kernel
theorem dX12_wordHere_49 : decode cX12_wordHere 49 = .ok (.iadd, 1) := by decide +kernel
theorem dX12_wordHere_50 : decode cX12_wordHere 50 = .ok (.goto 4, 3) := by decide +kernel
theorem dX12_wordHere_53 : decode cX12_wordHere 53 = .ok (.iload_n 1, 1) := by decide +kernel
theorem dX12_wordHere_54 : decode cX12_wordHere 54 = .ok (.istore_n 1, 1) := by decide +kernel
theorem dX12_wordHere_55 : decode cX12_wordHere 55 = .ok (.iinc 2 1, 3) := by decide +kernel
theorem dX12_wordHere_58 : decode cX12_wordHere 58 = .ok (.goto (-50), 3) := by decide +kernel
theorem dX12_wordHere_61 : decode cX12_wordHere 61 = .ok (.iload_n 2, 1) := by decide +kernel
theorem dX12_wordHere_62 : decode cX12_wordHere 62 = .ok (.bipush 6, 2) := by decide +kernel
theorem dX12_wordHere_64 : decode cX12_wordHere 64 = .ok (.if_icmp .le 7, 3) := by decide +kernel
theorem dX12_wordHere_67 : decode cX12_wordHere 67 = .ok (.iconst (-1), 1) := by decide +kernel
theorem dX12_wordHere_68 : decode cX12_wordHere 68 = .ok (.goto 4, 3) := by decide +kernel
theorem dX12_wordHere_71 : decode cX12_wordHere 71 = .ok (.iload_n 1, 1) := by decide +kernel
theorem dX12_wordHere_72 : decode cX12_wordHere 72 = .ok (.ireturn, 1) := by decide +kernel
theorem dX12_six_0 : decode cX12_six 0 = .ok (.bipush 27, 2) := by decide +kernel
theorem dX12_six_2 : decode cX12_six 2 = .ok (.bipush 27, 2) := by decide +kernel
theorem dX12_six_4 : decode cX12_six 4 = .ok (.iload_n 0, 1) := by decide +kernel
theorem dX12_six_5 : decode cX12_six 5 = .ok (.imul, 1) := by decide +kernel
theorem dX12_six_6 : decode cX12_six 6 = .ok (.iload_n 1, 1) := by decide +kernel
theorem dX12_six_7 : decode cX12_six 7 = .ok (.iadd, 1) := by decide +kernel
theorem dX12_six_8 : decode cX12_six 8 = .ok (.imul, 1) := by decide +kernel
theorem dX12_six_9 : decode cX12_six 9 = .ok (.iload_n 2, 1) := by decide +kernel
theorem dX12_six_10 : decode cX12_six 10 = .ok (.iadd, 1) := by decide +kernel
theorem dX12_six_11 : decode cX12_six 11 = .ok (.istore 6, 2) := by decide +kernel
theorem dX12_six_13 : decode cX12_six 13 = .ok (.iload_n 3, 1) := by decide +kernel
theorem dX12_six_14 : decode cX12_six 14 = .ok (.ifCond .ne 8, 3) := by decide +kernel
theorem dX12_six_17 : decode cX12_six 17 = .ok (.iload 6, 2) := by decide +kernel
theorem dX12_six_19 : decode cX12_six 19 = .ok (.goto 10, 3) := by decide +kernel
theorem dX12_six_22 : decode cX12_six 22 = .ok (.bipush 27, 2) := by decide +kernel
theorem dX12_six_24 : decode cX12_six 24 = .ok (.iload 6, 2) := by decide +kernel
theorem dX12_six_26 : decode cX12_six 26 = .ok (.imul, 1) := by decide +kernel
theorem dX12_six_27 : decode cX12_six 27 = .ok (.iload_n 3, 1) := by decide +kernel
theorem dX12_six_28 : decode cX12_six 28 = .ok (.iadd, 1) := by decide +kernel
theorem dX12_six_29 : decode cX12_six 29 = .ok (.istore 6, 2) := by decide +kernel
theorem dX12_six_31 : decode cX12_six 31 = .ok (.iload 4, 2) := by decide +kernel
theorem dX12_six_33 : decode cX12_six 33 = .ok (.ifCond .ne 8, 3) := by decide +kernel
theorem dX12_six_36 : decode cX12_six 36 = .ok (.iload 6, 2) := by decide +kernel
theorem dX12_six_38 : decode cX12_six 38 = .ok (.goto 11, 3) := by decide +kernel
theorem dX12_six_41 : decode cX12_six 41 = .ok (.bipush 27, 2) := by decide +kernel
theorem dX12_six_43 : decode cX12_six 43 = .ok (.iload 6, 2) := by decide +kernel
theorem dX12_six_45 : decode cX12_six 45 = .ok (.imul, 1) := by decide +kernel
theorem dX12_six_46 : decode cX12_six 46 = .ok (.iload 4, 2) := by decide +kernel
theorem dX12_six_48 : decode cX12_six 48 = .ok (.iadd, 1) := by decide +kernel
theorem dX12_six_49 : decode cX12_six 49 = .ok (.istore 6, 2) := by decide +kernel
theorem dX12_six_51 : decode cX12_six 51 = .ok (.iload 5, 2) := by decide +kernel
theorem dX12_six_53 : decode cX12_six 53 = .ok (.ifCond .ne 8, 3) := by decide +kernel
theorem dX12_six_56 : decode cX12_six 56 = .ok (.iload 6, 2) := by decide +kernel
theorem dX12_six_58 : decode cX12_six 58 = .ok (.goto 11, 3) := by decide +kernel
theorem dX12_six_61 : decode cX12_six 61 = .ok (.bipush 27, 2) := by decide +kernel
theorem dX12_six_63 : decode cX12_six 63 = .ok (.iload 6, 2) := by decide +kernel
theorem dX12_six_65 : decode cX12_six 65 = .ok (.imul, 1) := by decide +kernel
theorem dX12_six_66 : decode cX12_six 66 = .ok (.iload 5, 2) := by decide +kernel
theorem dX12_six_68 : decode cX12_six 68 = .ok (.iadd, 1) := by decide +kernel
theorem dX12_six_69 : decode cX12_six 69 = .ok (.ireturn, 1) := by decide +kernel
theorem dX12_isWord_0 : decode cX12_isWord 0 = .ok (.aload_n 0, 1) := by decide +kernel
theorem dX12_isWord_1 : decode cX12_isWord 1 = .ok (.getfield 86, 3) := by decide +kernel
theorem dX12_isWord_4 : decode cX12_isWord 4 = .ok (.ifCond .ne 26, 3) := by decide +kernel
theorem dX12_isWord_7 : decode cX12_isWord 7 = .ok (.aload_n 0, 1) := by decide +kernel
theorem dX12_isWord_8 : decode cX12_isWord 8 = .ok (.invokevirtual 111, 3) := by decide +kernel
theorem dX12_isWord_11 : decode cX12_isWord 11 = .ok (.iload_n 1, 1) := by decide +kernel
theorem dX12_isWord_12 : decode cX12_isWord 12 = .ok (.iload_n 2, 1) := by decide +kernel
theorem dX12_isWord_13 : decode cX12_isWord 13 = .ok (.iload_n 3, 1) := by decide +kernel
theorem dX12_isWord_14 : decode cX12_isWord 14 = .ok (.iload 4, 2) := by decide +kernel
theorem dX12_isWord_16 : decode cX12_isWord 16 = .ok (.iload 5, 2) := by decide +kernel
theorem dX12_isWord_18 : decode cX12_isWord 18 = .ok (.iload 6, 2) := by decide +kernel
theorem dX12_isWord_20 : decode cX12_isWord 20 = .ok (.invokestatic 115, 3) := by decide +kernel
theorem dX12_isWord_23 : decode cX12_isWord 23 = .ok (.if_icmp .ne 7, 3) := by decide +kernel
theorem dX12_isWord_26 : decode cX12_isWord 26 = .ok (.iconst 1, 1) := by decide +kernel
theorem dX12_isWord_27 : decode cX12_isWord 27 = .ok (.goto 4, 3) := by decide +kernel
theorem dX12_isWord_30 : decode cX12_isWord 30 = .ok (.iconst 0, 1) := by decide +kernel
theorem dX12_isWord_31 : decode cX12_isWord 31 = .ok (.ireturn, 1) := by decide +kernel
theorem dX12_skipWord_0 : decode cX12_skipWord 0 = .ok (.aload_n 0, 1) := by decide +kernel
theorem dX12_skipWord_1 : decode cX12_skipWord 1 = .ok (.aload_n 0, 1) := by decide +kernel
theorem dX12_skipWord_2 : decode cX12_skipWord 2 = .ok (.getfield 79, 3) := by decide +kernel
theorem dX12_skipWord_5 : decode cX12_skipWord 5 = .ok (.invokevirtual 82, 3) := by decide +kernel
theorem dX12_skipWord_8 : decode cX12_skipWord 8 = .ok (.invokestatic 108, 3) := by decide +kernel
theorem dX12_skipWord_11 : decode cX12_skipWord 11 = .ok (.ifCond .eq 16, 3) := by decide +kernel
theorem dX12_skipWord_14 : decode cX12_skipWord 14 = .ok (.aload_n 0, 1) := by decide +kernel
theorem dX12_skipWord_15 : decode cX12_skipWord 15 = .ok (.dup, 1) := by decide +kernel
theorem dX12_skipWord_16 : decode cX12_skipWord 16 = .ok (.getfield 79, 3) := by decide +kernel
theorem dX12_skipWord_19 : decode cX12_skipWord 19 = .ok (.iconst 1, 1) := by decide +kernel
theorem dX12_skipWord_20 : decode cX12_skipWord 20 = .ok (.iadd, 1) := by decide +kernel
theorem dX12_skipWord_21 : decode cX12_skipWord 21 = .ok (.putfield 79, 3) := by decide +kernel
theorem dX12_skipWord_24 : decode cX12_skipWord 24 = .ok (.goto (-24), 3) := by decide +kernel
theorem dX12_skipWord_27 : decode cX12_skipWord 27 = .ok (.return_, 1) := by decide +kernel
theorem dX12_takes_0 : decode cX12_takes 0 = .ok (.aload_n 0, 1) := by decide +kernel
theorem dX12_takes_1 : decode cX12_takes 1 = .ok (.iload_n 1, 1) := by decide +kernel
theorem dX12_takes_2 : decode cX12_takes 2 = .ok (.iload_n 2, 1) := by decide +kernel
theorem dX12_takes_3 : decode cX12_takes 3 = .ok (.iload_n 3, 1) := by decide +kernel
theorem dX12_takes_4 : decode cX12_takes 4 = .ok (.iload 4, 2) := by decide +kernel
theorem dX12_takes_6 : decode cX12_takes 6 = .ok (.iload 5, 2) := by decide +kernel
theorem dX12_takes_8 : decode cX12_takes 8 = .ok (.iload 6, 2) := by decide +kernel
theorem dX12_takes_10 : decode cX12_takes 10 = .ok (.invokevirtual 119, 3) := by decide +kernel
theorem dX12_takes_13 : decode cX12_takes 13 = .ok (.istore 7, 2) := by decide +kernel
theorem dX12_takes_15 : decode cX12_takes 15 = .ok (.iload 7, 2) := by decide +kernel
theorem dX12_takes_17 : decode cX12_takes 17 = .ok (.ifCond .eq 7, 3) := by decide +kernel
theorem dX12_takes_20 : decode cX12_takes 20 = .ok (.aload_n 0, 1) := by decide +kernel
theorem dX12_takes_21 : decode cX12_takes 21 = .ok (.invokevirtual 123, 3) := by decide +kernel
theorem dX12_takes_24 : decode cX12_takes 24 = .ok (.iload 7, 2) := by decide +kernel
theorem dX12_takes_26 : decode cX12_takes 26 = .ok (.ireturn, 1) := by decide +kernel
theorem dX12_sign_0 : decode cX12_sign 0 = .ok (.aload_n 0, 1) := by decide +kernel
theorem dX12_sign_1 : decode cX12_sign 1 = .ok (.getfield 86, 3) := by decide +kernel
theorem dX12_sign_4 : decode cX12_sign 4 = .ok (.ifCond .eq 4, 3) := by decide +kernel
theorem dX12_sign_7 : decode cX12_sign 7 = .ok (.return_, 1) := by decide +kernel
theorem dX12_sign_8 : decode cX12_sign 8 = .ok (.aload_n 0, 1) := by decide +kernel
theorem dX12_sign_9 : decode cX12_sign 9 = .ok (.invokevirtual 92, 3) := by decide +kernel
theorem dX12_sign_12 : decode cX12_sign 12 = .ok (.aload_n 0, 1) := by decide +kernel
theorem dX12_sign_13 : decode cX12_sign 13 = .ok (.aload_n 0, 1) := by decide +kernel
theorem dX12_sign_14 : decode cX12_sign 14 = .ok (.getfield 79, 3) := by decide +kernel
theorem dX12_sign_17 : decode cX12_sign 17 = .ok (.invokevirtual 82, 3) := by decide +kernel
theorem dX12_sign_20 : decode cX12_sign 20 = .ok (.iload_n 1, 1) := by decide +kernel
theorem dX12_sign_21 : decode cX12_sign 21 = .ok (.if_icmp .ne 16, 3) := by decide +kernel
theorem dX12_sign_24 : decode cX12_sign 24 = .ok (.aload_n 0, 1) := by decide +kernel
theorem dX12_sign_25 : decode cX12_sign 25 = .ok (.dup, 1) := by decide +kernel
theorem dX12_sign_26 : decode cX12_sign 26 = .ok (.getfield 79, 3) := by decide +kernel
theorem dX12_sign_29 : decode cX12_sign 29 = .ok (.iconst 1, 1) := by decide +kernel
theorem dX12_sign_30 : decode cX12_sign 30 = .ok (.iadd, 1) := by decide +kernel
theorem dX12_sign_31 : decode cX12_sign 31 = .ok (.putfield 79, 3) := by decide +kernel
theorem dX12_sign_34 : decode cX12_sign 34 = .ok (.goto 12, 3) := by decide +kernel
theorem dX12_sign_37 : decode cX12_sign 37 = .ok (.aload_n 0, 1) := by decide +kernel
theorem dX12_sign_38 : decode cX12_sign 38 = .ok (.iconst 1, 1) := by decide +kernel
theorem dX12_sign_39 : decode cX12_sign 39 = .ok (.aload_n 0, 1) := by decide +kernel
theorem dX12_sign_40 : decode cX12_sign 40 = .ok (.getfield 79, 3) := by decide +kernel
theorem dX12_sign_43 : decode cX12_sign 43 = .ok (.invokevirtual 99, 3) := by decide +kernel
theorem dX12_sign_46 : decode cX12_sign 46 = .ok (.return_, 1) := by decide +kernel
theorem dX12_takesSign_0 : decode cX12_takesSign 0 = .ok (.aload_n 0, 1) := by decide +kernel
theorem dX12_takesSign_1 : decode cX12_takesSign 1 = .ok (.getfield 86, 3) := by decide +kernel
theorem dX12_takesSign_4 : decode cX12_takesSign 4 = .ok (.ifCond .eq 5, 3) := by decide +kernel
theorem dX12_takesSign_7 : decode cX12_takesSign 7 = .ok (.iconst 0, 1) := by decide +kernel
theorem dX12_takesSign_8 : decode cX12_takesSign 8 = .ok (.ireturn, 1) := by decide +kernel
theorem dX12_takesSign_9 : decode cX12_takesSign 9 = .ok (.aload_n 0, 1) := by decide +kernel
theorem dX12_takesSign_10 : decode cX12_takesSign 10 = .ok (.invokevirtual 92, 3) := by decide +kernel
theorem dX12_takesSign_13 : decode cX12_takesSign 13 = .ok (.aload_n 0, 1) := by decide +kernel
theorem dX12_takesSign_14 : decode cX12_takesSign 14 = .ok (.aload_n 0, 1) := by decide +kernel
theorem dX12_takesSign_15 : decode cX12_takesSign 15 = .ok (.getfield 79, 3) := by decide +kernel
theorem dX12_takesSign_18 : decode cX12_takesSign 18 = .ok (.invokevirtual 82, 3) := by decide +kernel
theorem dX12_takesSign_21 : decode cX12_takesSign 21 = .ok (.iload_n 1, 1) := by decide +kernel
theorem dX12_takesSign_22 : decode cX12_takesSign 22 = .ok (.if_icmp .ne 7, 3) := by decide +kernel
theorem dX12_takesSign_25 : decode cX12_takesSign 25 = .ok (.iconst 1, 1) := by decide +kernel
theorem dX12_takesSign_26 : decode cX12_takesSign 26 = .ok (.goto 4, 3) := by decide +kernel
theorem dX12_takesSign_29 : decode cX12_takesSign 29 = .ok (.iconst 0, 1) := by decide +kernel
theorem dX12_takesSign_30 : decode cX12_takesSign 30 = .ok (.istore_n 2, 1) := by decide +kernel
theorem dX12_takesSign_31 : decode cX12_takesSign 31 = .ok (.iload_n 2, 1) := by decide +kernel
theorem dX12_takesSign_32 : decode cX12_takesSign 32 = .ok (.ifCond .eq 13, 3) := by decide +kernel
theorem dX12_takesSign_35 : decode cX12_takesSign 35 = .ok (.aload_n 0, 1) := by decide +kernel
theorem dX12_takesSign_36 : decode cX12_takesSign 36 = .ok (.dup, 1) := by decide +kernel
theorem dX12_takesSign_37 : decode cX12_takesSign 37 = .ok (.getfield 79, 3) := by decide +kernel
theorem dX12_takesSign_40 : decode cX12_takesSign 40 = .ok (.iconst 1, 1) := by decide +kernel
theorem dX12_takesSign_41 : decode cX12_takesSign 41 = .ok (.iadd, 1) := by decide +kernel
theorem dX12_takesSign_42 : decode cX12_takesSign 42 = .ok (.putfield 79, 3) := by decide +kernel
theorem dX12_takesSign_45 : decode cX12_takesSign 45 = .ok (.iload_n 2, 1) := by decide +kernel
theorem dX12_takesSign_46 : decode cX12_takesSign 46 = .ok (.ireturn, 1) := by decide +kernel
theorem dX12_starts_0 : decode cX12_starts 0 = .ok (.aload_n 0, 1) := by decide +kernel
theorem dX12_starts_1 : decode cX12_starts 1 = .ok (.iconst 0, 1) := by decide +kernel
theorem dX12_starts_2 : decode cX12_starts 2 = .ok (.putfield 73, 3) := by decide +kernel
theorem dX12_starts_5 : decode cX12_starts 5 = .ok (.aload_n 0, 1) := by decide +kernel
theorem dX12_starts_6 : decode cX12_starts 6 = .ok (.iload_n 1, 1) := by decide +kernel
theorem dX12_starts_7 : decode cX12_starts 7 = .ok (.putfield 76, 3) := by decide +kernel
theorem dX12_starts_10 : decode cX12_starts 10 = .ok (.aload_n 0, 1) := by decide +kernel
theorem dX12_starts_11 : decode cX12_starts 11 = .ok (.iconst 0, 1) := by decide +kernel
theorem dX12_starts_12 : decode cX12_starts 12 = .ok (.putfield 79, 3) := by decide +kernel
theorem dX12_starts_15 : decode cX12_starts 15 = .ok (.aload_n 0, 1) := by decide +kernel
theorem dX12_starts_16 : decode cX12_starts 16 = .ok (.iconst 0, 1) := by decide +kernel
theorem dX12_starts_17 : decode cX12_starts 17 = .ok (.putfield 86, 3) := by decide +kernel
theorem dX12_starts_20 : decode cX12_starts 20 = .ok (.aload_n 0, 1) := by decide +kernel
theorem dX12_starts_21 : decode cX12_starts 21 = .ok (.iconst (-1), 1) := by decide +kernel
theorem dX12_starts_22 : decode cX12_starts 22 = .ok (.putfield 89, 3) := by decide +kernel
theorem dX12_starts_25 : decode cX12_starts 25 = .ok (.aload_n 0, 1) := by decide +kernel
theorem dX12_starts_26 : decode cX12_starts 26 = .ok (.iconst 0, 1) := by decide +kernel
theorem dX12_starts_27 : decode cX12_starts 27 = .ok (.putfield 126, 3) := by decide +kernel
theorem dX12_starts_30 : decode cX12_starts 30 = .ok (.aload_n 0, 1) := by decide +kernel
theorem dX12_starts_31 : decode cX12_starts 31 = .ok (.iconst 0, 1) := by decide +kernel
theorem dX12_starts_32 : decode cX12_starts 32 = .ok (.putfield 129, 3) := by decide +kernel
theorem dX12_starts_35 : decode cX12_starts 35 = .ok (.aload_n 0, 1) := by decide +kernel
theorem dX12_starts_36 : decode cX12_starts 36 = .ok (.invokevirtual 92, 3) := by decide +kernel
theorem dX12_starts_39 : decode cX12_starts 39 = .ok (.return_, 1) := by decide +kernel
theorem dX12_ends_0 : decode cX12_ends 0 = .ok (.aload_n 0, 1) := by decide +kernel
theorem dX12_ends_1 : decode cX12_ends 1 = .ok (.aload_n 0, 1) := by decide +kernel
theorem dX12_ends_2 : decode cX12_ends 2 = .ok (.getfield 89, 3) := by decide +kernel
theorem dX12_ends_5 : decode cX12_ends 5 = .ok (.putfield 9, 3) := by decide +kernel
theorem dX12_ends_8 : decode cX12_ends 8 = .ok (.aload_n 0, 1) := by decide +kernel
theorem dX12_ends_9 : decode cX12_ends 9 = .ok (.getfield 86, 3) := by decide +kernel
theorem dX12_ends_12 : decode cX12_ends 12 = .ok (.bipush 10, 2) := by decide +kernel
theorem dX12_ends_14 : decode cX12_ends 14 = .ok (.isub, 1) := by decide +kernel
theorem dX12_ends_15 : decode cX12_ends 15 = .ok (.ireturn, 1) := by decide +kernel
theorem dX12_clause_0 : decode cX12_clause 0 = .ok (.aload_n 0, 1) := by decide +kernel
theorem dX12_clause_1 : decode cX12_clause 1 = .ok (.bipush 13, 2) := by decide +kernel
theorem dX12_clause_3 : decode cX12_clause 3 = .ok (.iconst 5, 1) := by decide +kernel
theorem dX12_clause_4 : decode cX12_clause 4 = .ok (.bipush 13, 2) := by decide +kernel
theorem dX12_clause_6 : decode cX12_clause 6 = .ok (.iconst 2, 1) := by decide +kernel
theorem dX12_clause_7 : decode cX12_clause 7 = .ok (.iconst 5, 1) := by decide +kernel
theorem dX12_clause_8 : decode cX12_clause 8 = .ok (.bipush 18, 2) := by decide +kernel
theorem dX12_clause_10 : decode cX12_clause 10 = .ok (.invokevirtual 119, 3) := by decide +kernel
theorem dX12_clause_13 : decode cX12_clause 13 = .ok (.ifCond .eq 7, 3) := by decide +kernel
theorem dX12_clause_16 : decode cX12_clause 16 = .ok (.iconst 0, 1) := by decide +kernel
theorem dX12_clause_17 : decode cX12_clause 17 = .ok (.goto 26, 3) := by decide +kernel
theorem dX12_clause_20 : decode cX12_clause 20 = .ok (.aload_n 0, 1) := by decide +kernel
theorem dX12_clause_21 : decode cX12_clause 21 = .ok (.bipush 12, 2) := by decide +kernel
theorem dX12_clause_23 : decode cX12_clause 23 = .ok (.bipush 9, 2) := by decide +kernel
theorem dX12_clause_25 : decode cX12_clause 25 = .ok (.bipush 13, 2) := by decide +kernel
theorem dX12_clause_27 : decode cX12_clause 27 = .ok (.bipush 9, 2) := by decide +kernel
theorem dX12_clause_29 : decode cX12_clause 29 = .ok (.bipush 20, 2) := by decide +kernel
theorem dX12_clause_31 : decode cX12_clause 31 = .ok (.iconst 0, 1) := by decide +kernel
theorem dX12_clause_32 : decode cX12_clause 32 = .ok (.invokevirtual 119, 3) := by decide +kernel
theorem dX12_clause_35 : decode cX12_clause 35 = .ok (.ifCond .eq 7, 3) := by decide +kernel
theorem dX12_clause_38 : decode cX12_clause 38 = .ok (.iconst 1, 1) := by decide +kernel
theorem dX12_clause_39 : decode cX12_clause 39 = .ok (.goto 4, 3) := by decide +kernel
theorem dX12_clause_42 : decode cX12_clause 42 = .ok (.iconst (-1), 1) := by decide +kernel
theorem dX12_clause_43 : decode cX12_clause 43 = .ok (.istore_n 1, 1) := by decide +kernel
theorem dX12_clause_44 : decode cX12_clause 44 = .ok (.iload_n 1, 1) := by decide +kernel
theorem dX12_clause_45 : decode cX12_clause 45 = .ok (.iconst (-1), 1) := by decide +kernel
theorem dX12_clause_46 : decode cX12_clause 46 = .ok (.if_icmp .ne 15, 3) := by decide +kernel
theorem dX12_clause_49 : decode cX12_clause 49 = .ok (.aload_n 0, 1) := by decide +kernel
theorem dX12_clause_50 : decode cX12_clause 50 = .ok (.iconst 1, 1) := by decide +kernel
theorem dX12_clause_51 : decode cX12_clause 51 = .ok (.aload_n 0, 1) := by decide +kernel
theorem dX12_clause_52 : decode cX12_clause 52 = .ok (.getfield 79, 3) := by decide +kernel
theorem dX12_clause_55 : decode cX12_clause 55 = .ok (.invokevirtual 99, 3) := by decide +kernel
theorem dX12_clause_58 : decode cX12_clause 58 = .ok (.goto 36, 3) := by decide +kernel
theorem dX12_clause_61 : decode cX12_clause 61 = .ok (.aload_n 0, 1) := by decide +kernel
theorem dX12_clause_62 : decode cX12_clause 62 = .ok (.getfield 126, 3) := by decide +kernel
theorem dX12_clause_65 : decode cX12_clause 65 = .ok (.bipush 60, 2) := by decide +kernel
theorem dX12_clause_67 : decode cX12_clause 67 = .ok (.if_icmp .eq 18, 3) := by decide +kernel
theorem dX12_clause_70 : decode cX12_clause 70 = .ok (.iload_n 1, 1) := by decide +kernel
theorem dX12_clause_71 : decode cX12_clause 71 = .ok (.ifCond .ne 23, 3) := by decide +kernel
theorem dX12_clause_74 : decode cX12_clause 74 = .ok (.aload_n 0, 1) := by decide +kernel
theorem dX12_clause_75 : decode cX12_clause 75 = .ok (.getfield 20, 3) := by decide +kernel
theorem dX12_clause_78 : decode cX12_clause 78 = .ok (.iconst 0, 1) := by decide +kernel
theorem dX12_clause_79 : decode cX12_clause 79 = .ok (.iaload, 1) := by decide +kernel
theorem dX12_clause_80 : decode cX12_clause 80 = .ok (.bipush 6, 2) := by decide +kernel
theorem dX12_clause_82 : decode cX12_clause 82 = .ok (.if_icmp .ne 12, 3) := by decide +kernel
theorem dX12_clause_85 : decode cX12_clause 85 = .ok (.aload_n 0, 1) := by decide +kernel
theorem dX12_clause_86 : decode cX12_clause 86 = .ok (.iconst 3, 1) := by decide +kernel
theorem dX12_clause_87 : decode cX12_clause 87 = .ok (.aload_n 0, 1) := by decide +kernel
theorem dX12_clause_88 : decode cX12_clause 88 = .ok (.getfield 79, 3) := by decide +kernel
theorem dX12_clause_91 : decode cX12_clause 91 = .ok (.invokevirtual 99, 3) := by decide +kernel
theorem dX12_clause_94 : decode cX12_clause 94 = .ok (.aload_n 0, 1) := by decide +kernel
theorem dX12_clause_95 : decode cX12_clause 95 = .ok (.getfield 86, 3) := by decide +kernel
theorem dX12_clause_98 : decode cX12_clause 98 = .ok (.ifCond .eq 4, 3) := by decide +kernel
theorem dX12_clause_101 : decode cX12_clause 101 = .ok (.return_, 1) := by decide +kernel
theorem dX12_clause_102 : decode cX12_clause 102 = .ok (.aload_n 0, 1) := by decide +kernel
theorem dX12_clause_103 : decode cX12_clause 103 = .ok (.invokevirtual 123, 3) := by decide +kernel
theorem dX12_clause_106 : decode cX12_clause 106 = .ok (.aload_n 0, 1) := by decide +kernel
theorem dX12_clause_107 : decode cX12_clause 107 = .ok (.dup, 1) := by decide +kernel
theorem dX12_clause_108 : decode cX12_clause 108 = .ok (.getfield 126, 3) := by decide +kernel
theorem dX12_clause_111 : decode cX12_clause 111 = .ok (.iconst 1, 1) := by decide +kernel
theorem dX12_clause_112 : decode cX12_clause 112 = .ok (.iadd, 1) := by decide +kernel
theorem dX12_clause_113 : decode cX12_clause 113 = .ok (.putfield 126, 3) := by decide +kernel
theorem dX12_clause_116 : decode cX12_clause 116 = .ok (.iload_n 1, 1) := by decide +kernel
theorem dX12_clause_117 : decode cX12_clause 117 = .ok (.ifCond .ne 12, 3) := by decide +kernel
theorem dX12_clause_120 : decode cX12_clause 120 = .ok (.aload_n 0, 1) := by decide +kernel
theorem dX12_clause_121 : decode cX12_clause 121 = .ok (.iconst 0, 1) := by decide +kernel
theorem dX12_clause_122 : decode cX12_clause 122 = .ok (.iconst 1, 1) := by decide +kernel
theorem dX12_clause_123 : decode cX12_clause 123 = .ok (.invokevirtual 132, 3) := by decide +kernel
theorem dX12_clause_126 : decode cX12_clause 126 = .ok (.goto 10, 3) := by decide +kernel
theorem dX12_clause_129 : decode cX12_clause 129 = .ok (.aload_n 0, 1) := by decide +kernel
theorem dX12_clause_130 : decode cX12_clause 130 = .ok (.iconst 1, 1) := by decide +kernel
theorem dX12_clause_131 : decode cX12_clause 131 = .ok (.bipush 30, 2) := by decide +kernel
theorem dX12_clause_133 : decode cX12_clause 133 = .ok (.invokevirtual 132, 3) := by decide +kernel
theorem dX12_clause_136 : decode cX12_clause 136 = .ok (.istore_n 2, 1) := by decide +kernel
theorem dX12_clause_137 : decode cX12_clause 137 = .ok (.aload_n 0, 1) := by decide +kernel
theorem dX12_clause_138 : decode cX12_clause 138 = .ok (.bipush 59, 2) := by decide +kernel
theorem dX12_clause_140 : decode cX12_clause 140 = .ok (.invokevirtual 136, 3) := by decide +kernel
theorem dX12_clause_143 : decode cX12_clause 143 = .ok (.aload_n 0, 1) := by decide +kernel
theorem dX12_clause_144 : decode cX12_clause 144 = .ok (.getfield 86, 3) := by decide +kernel
theorem dX12_clause_147 : decode cX12_clause 147 = .ok (.ifCond .eq 4, 3) := by decide +kernel
theorem dX12_clause_150 : decode cX12_clause 150 = .ok (.return_, 1) := by decide +kernel
theorem dX12_clause_151 : decode cX12_clause 151 = .ok (.iload_n 1, 1) := by decide +kernel
theorem dX12_clause_152 : decode cX12_clause 152 = .ok (.iconst 1, 1) := by decide +kernel
theorem dX12_clause_153 : decode cX12_clause 153 = .ok (.if_icmp .ne 11, 3) := by decide +kernel
theorem dX12_clause_156 : decode cX12_clause 156 = .ok (.aload_n 0, 1) := by decide +kernel
theorem dX12_clause_157 : decode cX12_clause 157 = .ok (.getfield 20, 3) := by decide +kernel
theorem dX12_clause_160 : decode cX12_clause 160 = .ok (.iconst 2, 1) := by decide +kernel
theorem dX12_clause_161 : decode cX12_clause 161 = .ok (.iload_n 2, 1) := by decide +kernel
theorem dX12_clause_162 : decode cX12_clause 162 = .ok (.iastore, 1) := by decide +kernel
theorem dX12_clause_163 : decode cX12_clause 163 = .ok (.return_, 1) := by decide +kernel
theorem dX12_clause_164 : decode cX12_clause 164 = .ok (.aload_n 0, 1) := by decide +kernel
theorem dX12_clause_165 : decode cX12_clause 165 = .ok (.getfield 20, 3) := by decide +kernel
theorem dX12_clause_168 : decode cX12_clause 168 = .ok (.iconst 1, 1) := by decide +kernel
theorem dX12_clause_169 : decode cX12_clause 169 = .ok (.dup2, 1) := by decide +kernel
theorem dX12_clause_170 : decode cX12_clause 170 = .ok (.iaload, 1) := by decide +kernel
theorem dX12_clause_171 : decode cX12_clause 171 = .ok (.iload_n 2, 1) := by decide +kernel
theorem dX12_clause_172 : decode cX12_clause 172 = .ok (.aload_n 0, 1) := by decide +kernel
theorem dX12_clause_173 : decode cX12_clause 173 = .ok (.getfield 20, 3) := by decide +kernel
theorem dX12_clause_176 : decode cX12_clause 176 = .ok (.iconst 0, 1) := by decide +kernel
theorem dX12_clause_177 : decode cX12_clause 177 = .ok (.iaload, 1) := by decide +kernel
theorem dX12_clause_178 : decode cX12_clause 178 = .ok (.ishl, 1) := by decide +kernel
theorem dX12_clause_179 : decode cX12_clause 179 = .ok (.ior, 1) := by decide +kernel
theorem dX12_clause_180 : decode cX12_clause 180 = .ok (.iastore, 1) := by decide +kernel
theorem dX12_clause_181 : decode cX12_clause 181 = .ok (.aload_n 0, 1) := by decide +kernel
theorem dX12_clause_182 : decode cX12_clause 182 = .ok (.getfield 20, 3) := by decide +kernel
theorem dX12_clause_185 : decode cX12_clause 185 = .ok (.iconst 0, 1) := by decide +kernel
theorem dX12_clause_186 : decode cX12_clause 186 = .ok (.dup2, 1) := by decide +kernel
theorem dX12_clause_187 : decode cX12_clause 187 = .ok (.iaload, 1) := by decide +kernel
theorem dX12_clause_188 : decode cX12_clause 188 = .ok (.iconst 1, 1) := by decide +kernel
theorem dX12_clause_189 : decode cX12_clause 189 = .ok (.iadd, 1) := by decide +kernel
theorem dX12_clause_190 : decode cX12_clause 190 = .ok (.iastore, 1) := by decide +kernel
theorem dX12_clause_191 : decode cX12_clause 191 = .ok (.return_, 1) := by decide +kernel
theorem dX12_group_0 : decode cX12_group 0 = .ok (.aload_n 0, 1) := by decide +kernel
theorem dX12_group_1 : decode cX12_group 1 = .ok (.iconst 0, 1) := by decide +kernel
theorem dX12_group_2 : decode cX12_group 2 = .ok (.putfield 70, 3) := by decide +kernel
theorem dX12_group_5 : decode cX12_group 5 = .ok (.aload_n 0, 1) := by decide +kernel
theorem dX12_group_6 : decode cX12_group 6 = .ok (.iload_n 1, 1) := by decide +kernel
theorem dX12_group_7 : decode cX12_group 7 = .ok (.iconst 0, 1) := by decide +kernel
theorem dX12_group_8 : decode cX12_group 8 = .ok (.aload_n 0, 1) := by decide +kernel
theorem dX12_group_9 : decode cX12_group 9 = .ok (.getfield 73, 3) := by decide +kernel
theorem dX12_group_12 : decode cX12_group 12 = .ok (.invokestatic 104, 3) := by decide +kernel
theorem dX12_group_15 : decode cX12_group 15 = .ok (.ifCond .ne 7, 3) := by decide +kernel
theorem dX12_group_18 : decode cX12_group 18 = .ok (.iconst 1, 1) := by decide +kernel
theorem dX12_group_19 : decode cX12_group 19 = .ok (.goto 4, 3) := by decide +kernel
theorem dX12_group_22 : decode cX12_group 22 = .ok (.iconst 0, 1) := by decide +kernel
theorem dX12_group_23 : decode cX12_group 23 = .ok (.iconst 1, 1) := by decide +kernel
theorem dX12_group_24 : decode cX12_group 24 = .ok (.iconst 1, 1) := by decide +kernel
theorem dX12_group_25 : decode cX12_group 25 = .ok (.invokevirtual 140, 3) := by decide +kernel
theorem dX12_group_28 : decode cX12_group 28 = .ok (.ifCond .eq 5, 3) := by decide +kernel
theorem dX12_group_31 : decode cX12_group 31 = .ok (.iconst 0, 1) := by decide +kernel
theorem dX12_group_32 : decode cX12_group 32 = .ok (.ireturn, 1) := by decide +kernel
theorem dX12_group_33 : decode cX12_group 33 = .ok (.aload_n 0, 1) := by decide +kernel
theorem dX12_group_34 : decode cX12_group 34 = .ok (.iload_n 1, 1) := by decide +kernel
theorem dX12_group_35 : decode cX12_group 35 = .ok (.invokevirtual 144, 3) := by decide +kernel
theorem dX12_group_38 : decode cX12_group 38 = .ok (.aload_n 0, 1) := by decide +kernel
theorem dX12_group_39 : decode cX12_group 39 = .ok (.invokevirtual 64, 3) := by decide +kernel
theorem dX12_group_42 : decode cX12_group 42 = .ok (.aload_n 0, 1) := by decide +kernel
theorem dX12_group_43 : decode cX12_group 43 = .ok (.getfield 86, 3) := by decide +kernel
theorem dX12_group_46 : decode cX12_group 46 = .ok (.ifCond .ne 25, 3) := by decide +kernel
theorem dX12_group_49 : decode cX12_group 49 = .ok (.aload_n 0, 1) := by decide +kernel
theorem dX12_group_50 : decode cX12_group 50 = .ok (.getfield 79, 3) := by decide +kernel
theorem dX12_group_53 : decode cX12_group 53 = .ok (.aload_n 0, 1) := by decide +kernel
theorem dX12_group_54 : decode cX12_group 54 = .ok (.getfield 76, 3) := by decide +kernel
theorem dX12_group_57 : decode cX12_group 57 = .ok (.if_icmp .ge 14, 3) := by decide +kernel
theorem dX12_group_60 : decode cX12_group 60 = .ok (.aload_n 0, 1) := by decide +kernel
theorem dX12_group_61 : decode cX12_group 61 = .ok (.invokevirtual 147, 3) := by decide +kernel
theorem dX12_group_64 : decode cX12_group 64 = .ok (.aload_n 0, 1) := by decide +kernel
theorem dX12_group_65 : decode cX12_group 65 = .ok (.invokevirtual 92, 3) := by decide +kernel
theorem dX12_group_68 : decode cX12_group 68 = .ok (.goto (-26), 3) := by decide +kernel
theorem dX12_group_71 : decode cX12_group 71 = .ok (.aload_n 0, 1) := by decide +kernel
theorem dX12_group_72 : decode cX12_group 72 = .ok (.getfield 86, 3) := by decide +kernel
theorem dX12_group_75 : decode cX12_group 75 = .ok (.ifCond .eq 8, 3) := by decide +kernel
theorem dX12_group_78 : decode cX12_group 78 = .ok (.aload_n 0, 1) := by decide +kernel
theorem dX12_group_79 : decode cX12_group 79 = .ok (.invokevirtual 150, 3) := by decide +kernel
theorem dX12_group_82 : decode cX12_group 82 = .ok (.ireturn, 1) := by decide +kernel
theorem dX12_group_83 : decode cX12_group 83 = .ok (.aload_n 0, 1) := by decide +kernel
theorem dX12_group_84 : decode cX12_group 84 = .ok (.iconst (-1), 1) := by decide +kernel
theorem dX12_group_85 : decode cX12_group 85 = .ok (.putfield 9, 3) := by decide +kernel
theorem dX12_group_88 : decode cX12_group 88 = .ok (.aload_n 0, 1) := by decide +kernel
theorem dX12_group_89 : decode cX12_group 89 = .ok (.invokevirtual 67, 3) := by decide +kernel
theorem dX12_group_92 : decode cX12_group 92 = .ok (.aload_n 0, 1) := by decide +kernel
theorem dX12_group_93 : decode cX12_group 93 = .ok (.getfield 23, 3) := by decide +kernel
theorem dX12_group_96 : decode cX12_group 96 = .ok (.iconst 0, 1) := by decide +kernel
theorem dX12_group_97 : decode cX12_group 97 = .ok (.iaload, 1) := by decide +kernel
theorem dX12_group_98 : decode cX12_group 98 = .ok (.ireturn, 1) := by decide +kernel
theorem dX12_lays_0 : decode cX12_lays 0 = .ok (.iconst 0, 1) := by decide +kernel
theorem dX12_lays_1 : decode cX12_lays 1 = .ok (.istore_n 3, 1) := by decide +kernel
theorem dX12_lays_2 : decode cX12_lays 2 = .ok (.iload_n 3, 1) := by decide +kernel
theorem dX12_lays_3 : decode cX12_lays 3 = .ok (.iload_n 2, 1) := by decide +kernel
theorem dX12_lays_4 : decode cX12_lays 4 = .ok (.if_icmp .ge 39, 3) := by decide +kernel
theorem dX12_lays_7 : decode cX12_lays 7 = .ok (.iconst 0, 1) := by decide +kernel
theorem dX12_lays_8 : decode cX12_lays 8 = .ok (.istore 4, 2) := by decide +kernel
theorem dX12_lays_10 : decode cX12_lays 10 = .ok (.iload 4, 2) := by decide +kernel
theorem dX12_lays_12 : decode cX12_lays 12 = .ok (.aload_n 1, 1) := by decide +kernel
theorem dX12_lays_13 : decode cX12_lays 13 = .ok (.iload_n 3, 1) := by decide +kernel
theorem dX12_lays_14 : decode cX12_lays 14 = .ok (.aaload, 1) := by decide +kernel
theorem dX12_lays_15 : decode cX12_lays 15 = .ok (.arraylength, 1) := by decide +kernel
theorem dX12_lays_16 : decode cX12_lays 16 = .ok (.if_icmp .ge 21, 3) := by decide +kernel
theorem dX12_lays_19 : decode cX12_lays 19 = .ok (.aload_n 1, 1) := by decide +kernel
theorem dX12_lays_20 : decode cX12_lays 20 = .ok (.iload_n 3, 1) := by decide +kernel
theorem dX12_lays_21 : decode cX12_lays 21 = .ok (.aaload, 1) := by decide +kernel
theorem dX12_lays_22 : decode cX12_lays 22 = .ok (.iload 4, 2) := by decide +kernel
theorem dX12_lays_24 : decode cX12_lays 24 = .ok (.aload_n 0, 1) := by decide +kernel
theorem dX12_lays_25 : decode cX12_lays 25 = .ok (.iload_n 3, 1) := by decide +kernel
theorem dX12_lays_26 : decode cX12_lays 26 = .ok (.aaload, 1) := by decide +kernel
theorem dX12_lays_27 : decode cX12_lays 27 = .ok (.iload 4, 2) := by decide +kernel
theorem dX12_lays_29 : decode cX12_lays 29 = .ok (.iaload, 1) := by decide +kernel
theorem dX12_lays_30 : decode cX12_lays 30 = .ok (.iastore, 1) := by decide +kernel
theorem dX12_lays_31 : decode cX12_lays 31 = .ok (.iinc 4 1, 3) := by decide +kernel
theorem dX12_lays_34 : decode cX12_lays 34 = .ok (.goto (-24), 3) := by decide +kernel
theorem dX12_lays_37 : decode cX12_lays 37 = .ok (.iinc 3 1, 3) := by decide +kernel
theorem dX12_lays_40 : decode cX12_lays 40 = .ok (.goto (-38), 3) := by decide +kernel
theorem dX12_lays_43 : decode cX12_lays 43 = .ok (.return_, 1) := by decide +kernel
theorem dX12_copies_0 : decode cX12_copies 0 = .ok (.iconst 0, 1) := by decide +kernel
theorem dX12_copies_1 : decode cX12_copies 1 = .ok (.istore_n 2, 1) := by decide +kernel
theorem dX12_copies_2 : decode cX12_copies 2 = .ok (.iload_n 2, 1) := by decide +kernel
theorem dX12_copies_3 : decode cX12_copies 3 = .ok (.sipush 968, 3) := by decide +kernel
theorem dX12_copies_6 : decode cX12_copies 6 = .ok (.if_icmp .ge 15, 3) := by decide +kernel
theorem dX12_copies_9 : decode cX12_copies 9 = .ok (.aload_n 1, 1) := by decide +kernel
theorem dX12_copies_10 : decode cX12_copies 10 = .ok (.iload_n 2, 1) := by decide +kernel
theorem dX12_copies_11 : decode cX12_copies 11 = .ok (.aload_n 0, 1) := by decide +kernel
theorem dX12_copies_12 : decode cX12_copies 12 = .ok (.iload_n 2, 1) := by decide +kernel
theorem dX12_copies_13 : decode cX12_copies 13 = .ok (.iaload, 1) := by decide +kernel
theorem dX12_copies_14 : decode cX12_copies 14 = .ok (.iastore, 1) := by decide +kernel
theorem dX12_copies_15 : decode cX12_copies 15 = .ok (.iinc 2 1, 3) := by decide +kernel
theorem dX12_copies_18 : decode cX12_copies 18 = .ok (.goto (-16), 3) := by decide +kernel
theorem dX12_copies_21 : decode cX12_copies 21 = .ok (.return_, 1) := by decide +kernel
theorem dX12_beginsAnew_0 : decode cX12_beginsAnew 0 = .ok (.iconst 0, 1) := by decide +kernel
theorem dX12_beginsAnew_1 : decode cX12_beginsAnew 1 = .ok (.istore_n 1, 1) := by decide +kernel
theorem dX12_beginsAnew_2 : decode cX12_beginsAnew 2 = .ok (.iload_n 1, 1) := by decide +kernel
theorem dX12_beginsAnew_3 : decode cX12_beginsAnew 3 = .ok (.iconst 3, 1) := by decide +kernel
theorem dX12_beginsAnew_4 : decode cX12_beginsAnew 4 = .ok (.if_icmp .ge 21, 3) := by decide +kernel
theorem dX12_beginsAnew_7 : decode cX12_beginsAnew 7 = .ok (.aload_n 0, 1) := by decide +kernel
theorem dX12_beginsAnew_8 : decode cX12_beginsAnew 8 = .ok (.getfield 23, 3) := by decide +kernel
theorem dX12_beginsAnew_11 : decode cX12_beginsAnew 11 = .ok (.iload_n 1, 1) := by decide +kernel
theorem dX12_beginsAnew_12 : decode cX12_beginsAnew 12 = .ok (.aload_n 0, 1) := by decide +kernel
theorem dX12_beginsAnew_13 : decode cX12_beginsAnew 13 = .ok (.getfield 20, 3) := by decide +kernel
theorem dX12_beginsAnew_16 : decode cX12_beginsAnew 16 = .ok (.iload_n 1, 1) := by decide +kernel
theorem dX12_beginsAnew_17 : decode cX12_beginsAnew 17 = .ok (.iaload, 1) := by decide +kernel
theorem dX12_beginsAnew_18 : decode cX12_beginsAnew 18 = .ok (.iastore, 1) := by decide +kernel
theorem dX12_beginsAnew_19 : decode cX12_beginsAnew 19 = .ok (.iinc 1 1, 3) := by decide +kernel
theorem dX12_beginsAnew_22 : decode cX12_beginsAnew 22 = .ok (.goto (-20), 3) := by decide +kernel
theorem dX12_beginsAnew_25 : decode cX12_beginsAnew 25 = .ok (.iconst 0, 1) := by decide +kernel
theorem dX12_beginsAnew_26 : decode cX12_beginsAnew 26 = .ok (.istore_n 1, 1) := by decide +kernel
theorem dX12_beginsAnew_27 : decode cX12_beginsAnew 27 = .ok (.iload_n 1, 1) := by decide +kernel
theorem dX12_beginsAnew_28 : decode cX12_beginsAnew 28 = .ok (.sipush 968, 3) := by decide +kernel
theorem dX12_beginsAnew_31 : decode cX12_beginsAnew 31 = .ok (.if_icmp .ge 16, 3) := by decide +kernel
theorem dX12_beginsAnew_34 : decode cX12_beginsAnew 34 = .ok (.aload_n 0, 1) := by decide +kernel
theorem dX12_beginsAnew_35 : decode cX12_beginsAnew 35 = .ok (.getfield 49, 3) := by decide +kernel
theorem dX12_beginsAnew_38 : decode cX12_beginsAnew 38 = .ok (.iload_n 1, 1) := by decide +kernel
theorem dX12_beginsAnew_39 : decode cX12_beginsAnew 39 = .ok (.iconst 0, 1) := by decide +kernel
theorem dX12_beginsAnew_40 : decode cX12_beginsAnew 40 = .ok (.iastore, 1) := by decide +kernel
theorem dX12_beginsAnew_41 : decode cX12_beginsAnew 41 = .ok (.iinc 1 1, 3) := by decide +kernel
theorem dX12_beginsAnew_44 : decode cX12_beginsAnew 44 = .ok (.goto (-17), 3) := by decide +kernel
theorem dX12_beginsAnew_47 : decode cX12_beginsAnew 47 = .ok (.iconst 0, 1) := by decide +kernel
theorem dX12_beginsAnew_48 : decode cX12_beginsAnew 48 = .ok (.istore_n 1, 1) := by decide +kernel
theorem dX12_beginsAnew_49 : decode cX12_beginsAnew 49 = .ok (.iload_n 1, 1) := by decide +kernel
theorem dX12_beginsAnew_50 : decode cX12_beginsAnew 50 = .ok (.bipush 6, 2) := by decide +kernel
theorem dX12_beginsAnew_52 : decode cX12_beginsAnew 52 = .ok (.if_icmp .ge 54, 3) := by decide +kernel
theorem dX12_beginsAnew_55 : decode cX12_beginsAnew 55 = .ok (.aload_n 0, 1) := by decide +kernel
theorem dX12_beginsAnew_56 : decode cX12_beginsAnew 56 = .ok (.getfield 49, 3) := by decide +kernel
theorem dX12_beginsAnew_59 : decode cX12_beginsAnew 59 = .ok (.iconst 0, 1) := by decide +kernel
theorem dX12_beginsAnew_60 : decode cX12_beginsAnew 60 = .ok (.iload_n 1, 1) := by decide +kernel
theorem dX12_beginsAnew_61 : decode cX12_beginsAnew 61 = .ok (.iadd, 1) := by decide +kernel
theorem dX12_beginsAnew_62 : decode cX12_beginsAnew 62 = .ok (.aload_n 0, 1) := by decide +kernel
theorem dX12_beginsAnew_63 : decode cX12_beginsAnew 63 = .ok (.getfield 23, 3) := by decide +kernel
theorem dX12_beginsAnew_66 : decode cX12_beginsAnew 66 = .ok (.iconst 1, 1) := by decide +kernel
theorem dX12_beginsAnew_67 : decode cX12_beginsAnew 67 = .ok (.iaload, 1) := by decide +kernel
theorem dX12_beginsAnew_68 : decode cX12_beginsAnew 68 = .ok (.iload_n 1, 1) := by decide +kernel
theorem dX12_beginsAnew_69 : decode cX12_beginsAnew 69 = .ok (.ishr, 1) := by decide +kernel
theorem dX12_beginsAnew_70 : decode cX12_beginsAnew 70 = .ok (.iconst 1, 1) := by decide +kernel
theorem dX12_beginsAnew_71 : decode cX12_beginsAnew 71 = .ok (.iand, 1) := by decide +kernel
theorem dX12_beginsAnew_72 : decode cX12_beginsAnew 72 = .ok (.iastore, 1) := by decide +kernel
theorem dX12_beginsAnew_73 : decode cX12_beginsAnew 73 = .ok (.aload_n 0, 1) := by decide +kernel
theorem dX12_beginsAnew_74 : decode cX12_beginsAnew 74 = .ok (.getfield 49, 3) := by decide +kernel
theorem dX12_beginsAnew_77 : decode cX12_beginsAnew 77 = .ok (.bipush 6, 2) := by decide +kernel
theorem dX12_beginsAnew_79 : decode cX12_beginsAnew 79 = .ok (.iload_n 1, 1) := by decide +kernel
theorem dX12_beginsAnew_80 : decode cX12_beginsAnew 80 = .ok (.iadd, 1) := by decide +kernel
theorem dX12_beginsAnew_81 : decode cX12_beginsAnew 81 = .ok (.aload_n 0, 1) := by decide +kernel
theorem dX12_beginsAnew_82 : decode cX12_beginsAnew 82 = .ok (.getfield 23, 3) := by decide +kernel
theorem dX12_beginsAnew_85 : decode cX12_beginsAnew 85 = .ok (.iconst 1, 1) := by decide +kernel
theorem dX12_beginsAnew_86 : decode cX12_beginsAnew 86 = .ok (.iaload, 1) := by decide +kernel
theorem dX12_beginsAnew_87 : decode cX12_beginsAnew 87 = .ok (.iload_n 1, 1) := by decide +kernel
theorem dX12_beginsAnew_88 : decode cX12_beginsAnew 88 = .ok (.invokestatic 153, 3) := by decide +kernel
theorem dX12_beginsAnew_91 : decode cX12_beginsAnew 91 = .ok (.ifCond .eq 7, 3) := by decide +kernel
theorem dX12_beginsAnew_94 : decode cX12_beginsAnew 94 = .ok (.iconst 0, 1) := by decide +kernel
theorem dX12_beginsAnew_95 : decode cX12_beginsAnew 95 = .ok (.goto 4, 3) := by decide +kernel
theorem dX12_beginsAnew_98 : decode cX12_beginsAnew 98 = .ok (.iconst (-1), 1) := by decide +kernel
theorem dX12_beginsAnew_99 : decode cX12_beginsAnew 99 = .ok (.iastore, 1) := by decide +kernel
theorem dX12_beginsAnew_100 : decode cX12_beginsAnew 100 = .ok (.iinc 1 1, 3) := by decide +kernel
theorem dX12_beginsAnew_103 : decode cX12_beginsAnew 103 = .ok (.goto (-54), 3) := by decide +kernel
theorem dX12_beginsAnew_106 : decode cX12_beginsAnew 106 = .ok (.aload_n 0, 1) := by decide +kernel
theorem dX12_beginsAnew_107 : decode cX12_beginsAnew 107 = .ok (.getfield 49, 3) := by decide +kernel
theorem dX12_beginsAnew_110 : decode cX12_beginsAnew 110 = .ok (.sipush 181, 3) := by decide +kernel
theorem dX12_beginsAnew_113 : decode cX12_beginsAnew 113 = .ok (.iconst 1, 1) := by decide +kernel
theorem dX12_beginsAnew_114 : decode cX12_beginsAnew 114 = .ok (.iastore, 1) := by decide +kernel
theorem dX12_beginsAnew_115 : decode cX12_beginsAnew 115 = .ok (.aload_n 0, 1) := by decide +kernel
theorem dX12_beginsAnew_116 : decode cX12_beginsAnew 116 = .ok (.getfield 49, 3) := by decide +kernel
theorem dX12_beginsAnew_119 : decode cX12_beginsAnew 119 = .ok (.sipush 182, 3) := by decide +kernel
theorem dX12_beginsAnew_122 : decode cX12_beginsAnew 122 = .ok (.aload_n 0, 1) := by decide +kernel
theorem dX12_beginsAnew_123 : decode cX12_beginsAnew 123 = .ok (.getfield 23, 3) := by decide +kernel
theorem dX12_beginsAnew_126 : decode cX12_beginsAnew 126 = .ok (.iconst 1, 1) := by decide +kernel
theorem dX12_beginsAnew_127 : decode cX12_beginsAnew 127 = .ok (.iaload, 1) := by decide +kernel
theorem dX12_beginsAnew_128 : decode cX12_beginsAnew 128 = .ok (.iastore, 1) := by decide +kernel
theorem dX12_beginsAnew_129 : decode cX12_beginsAnew 129 = .ok (.aload_n 0, 1) := by decide +kernel
theorem dX12_beginsAnew_130 : decode cX12_beginsAnew 130 = .ok (.getfield 49, 3) := by decide +kernel
theorem dX12_beginsAnew_133 : decode cX12_beginsAnew 133 = .ok (.sipush 183, 3) := by decide +kernel
theorem dX12_beginsAnew_136 : decode cX12_beginsAnew 136 = .ok (.aload_n 0, 1) := by decide +kernel
theorem dX12_beginsAnew_137 : decode cX12_beginsAnew 137 = .ok (.getfield 23, 3) := by decide +kernel
theorem dX12_beginsAnew_140 : decode cX12_beginsAnew 140 = .ok (.iconst 1, 1) := by decide +kernel
theorem dX12_beginsAnew_141 : decode cX12_beginsAnew 141 = .ok (.iaload, 1) := by decide +kernel
theorem dX12_beginsAnew_142 : decode cX12_beginsAnew 142 = .ok (.iastore, 1) := by decide +kernel
theorem dX12_beginsAnew_143 : decode cX12_beginsAnew 143 = .ok (.aload_n 0, 1) := by decide +kernel
theorem dX12_beginsAnew_144 : decode cX12_beginsAnew 144 = .ok (.getfield 49, 3) := by decide +kernel
theorem dX12_beginsAnew_147 : decode cX12_beginsAnew 147 = .ok (.sipush 184, 3) := by decide +kernel
theorem dX12_beginsAnew_150 : decode cX12_beginsAnew 150 = .ok (.iconst 1, 1) := by decide +kernel
theorem dX12_beginsAnew_151 : decode cX12_beginsAnew 151 = .ok (.aload_n 0, 1) := by decide +kernel
theorem dX12_beginsAnew_152 : decode cX12_beginsAnew 152 = .ok (.getfield 23, 3) := by decide +kernel
theorem dX12_beginsAnew_155 : decode cX12_beginsAnew 155 = .ok (.iconst 0, 1) := by decide +kernel
theorem dX12_beginsAnew_156 : decode cX12_beginsAnew 156 = .ok (.iaload, 1) := by decide +kernel
theorem dX12_beginsAnew_157 : decode cX12_beginsAnew 157 = .ok (.ishl, 1) := by decide +kernel
theorem dX12_beginsAnew_158 : decode cX12_beginsAnew 158 = .ok (.iconst 1, 1) := by decide +kernel
theorem dX12_beginsAnew_159 : decode cX12_beginsAnew 159 = .ok (.isub, 1) := by decide +kernel
theorem dX12_beginsAnew_160 : decode cX12_beginsAnew 160 = .ok (.iastore, 1) := by decide +kernel
theorem dX12_beginsAnew_161 : decode cX12_beginsAnew 161 = .ok (.aload_n 0, 1) := by decide +kernel
theorem dX12_beginsAnew_162 : decode cX12_beginsAnew 162 = .ok (.iconst 0, 1) := by decide +kernel
theorem dX12_beginsAnew_163 : decode cX12_beginsAnew 163 = .ok (.putfield 157, 3) := by decide +kernel
theorem dX12_beginsAnew_166 : decode cX12_beginsAnew 166 = .ok (.aload_n 0, 1) := by decide +kernel
theorem dX12_beginsAnew_167 : decode cX12_beginsAnew 167 = .ok (.iconst 0, 1) := by decide +kernel
theorem dX12_beginsAnew_168 : decode cX12_beginsAnew 168 = .ok (.putfield 160, 3) := by decide +kernel
theorem dX12_beginsAnew_171 : decode cX12_beginsAnew 171 = .ok (.aload_n 0, 1) := by decide +kernel
theorem dX12_beginsAnew_172 : decode cX12_beginsAnew 172 = .ok (.iconst 0, 1) := by decide +kernel
theorem dX12_beginsAnew_173 : decode cX12_beginsAnew 173 = .ok (.putfield 163, 3) := by decide +kernel
theorem dX12_beginsAnew_176 : decode cX12_beginsAnew 176 = .ok (.aload_n 0, 1) := by decide +kernel
theorem dX12_beginsAnew_177 : decode cX12_beginsAnew 177 = .ok (.iconst 0, 1) := by decide +kernel
theorem dX12_beginsAnew_178 : decode cX12_beginsAnew 178 = .ok (.putfield 166, 3) := by decide +kernel
theorem dX12_beginsAnew_181 : decode cX12_beginsAnew 181 = .ok (.aload_n 0, 1) := by decide +kernel
theorem dX12_beginsAnew_182 : decode cX12_beginsAnew 182 = .ok (.iconst 0, 1) := by decide +kernel
theorem dX12_beginsAnew_183 : decode cX12_beginsAnew 183 = .ok (.putfield 169, 3) := by decide +kernel
theorem dX12_beginsAnew_186 : decode cX12_beginsAnew 186 = .ok (.return_, 1) := by decide +kernel
theorem dX12_notes_0 : decode cX12_notes 0 = .ok (.aload_n 0, 1) := by decide +kernel
theorem dX12_notes_1 : decode cX12_notes 1 = .ok (.getfield 86, 3) := by decide +kernel
theorem dX12_notes_4 : decode cX12_notes 4 = .ok (.ifCond .eq 4, 3) := by decide +kernel
theorem dX12_notes_7 : decode cX12_notes 7 = .ok (.return_, 1) := by decide +kernel
theorem dX12_notes_8 : decode cX12_notes 8 = .ok (.aload_n 0, 1) := by decide +kernel
theorem dX12_notes_9 : decode cX12_notes 9 = .ok (.getfield 31, 3) := by decide +kernel
theorem dX12_notes_12 : decode cX12_notes 12 = .ok (.aload_n 0, 1) := by decide +kernel
theorem dX12_notes_13 : decode cX12_notes 13 = .ok (.getfield 172, 3) := by decide +kernel
theorem dX12_notes_16 : decode cX12_notes 16 = .ok (.aaload, 1) := by decide +kernel
theorem dX12_notes_17 : decode cX12_notes 17 = .ok (.iconst 0, 1) := by decide +kernel
theorem dX12_notes_18 : decode cX12_notes 18 = .ok (.iload_n 1, 1) := by decide +kernel
theorem dX12_notes_19 : decode cX12_notes 19 = .ok (.iastore, 1) := by decide +kernel
theorem dX12_notes_20 : decode cX12_notes 20 = .ok (.aload_n 0, 1) := by decide +kernel
theorem dX12_notes_21 : decode cX12_notes 21 = .ok (.getfield 31, 3) := by decide +kernel
theorem dX12_notes_24 : decode cX12_notes 24 = .ok (.aload_n 0, 1) := by decide +kernel
theorem dX12_notes_25 : decode cX12_notes 25 = .ok (.getfield 172, 3) := by decide +kernel
theorem dX12_notes_28 : decode cX12_notes 28 = .ok (.aaload, 1) := by decide +kernel
theorem dX12_notes_29 : decode cX12_notes 29 = .ok (.iconst 1, 1) := by decide +kernel
theorem dX12_notes_30 : decode cX12_notes 30 = .ok (.iload_n 2, 1) := by decide +kernel
theorem dX12_notes_31 : decode cX12_notes 31 = .ok (.iastore, 1) := by decide +kernel
theorem dX12_notes_32 : decode cX12_notes 32 = .ok (.aload_n 0, 1) := by decide +kernel
theorem dX12_notes_33 : decode cX12_notes 33 = .ok (.dup, 1) := by decide +kernel
theorem dX12_notes_34 : decode cX12_notes 34 = .ok (.getfield 172, 3) := by decide +kernel
theorem dX12_notes_37 : decode cX12_notes 37 = .ok (.iconst 1, 1) := by decide +kernel
theorem dX12_notes_38 : decode cX12_notes 38 = .ok (.iadd, 1) := by decide +kernel
theorem dX12_notes_39 : decode cX12_notes 39 = .ok (.putfield 172, 3) := by decide +kernel
theorem dX12_notes_42 : decode cX12_notes 42 = .ok (.return_, 1) := by decide +kernel
theorem dX12_opensOne_0 : decode cX12_opensOne 0 = .ok (.aload_n 0, 1) := by decide +kernel
theorem dX12_opensOne_1 : decode cX12_opensOne 1 = .ok (.getfield 86, 3) := by decide +kernel
theorem dX12_opensOne_4 : decode cX12_opensOne 4 = .ok (.ifCond .ne 24, 3) := by decide +kernel
theorem dX12_opensOne_7 : decode cX12_opensOne 7 = .ok (.aload_n 0, 1) := by decide +kernel
theorem dX12_opensOne_8 : decode cX12_opensOne 8 = .ok (.getfield 129, 3) := by decide +kernel
theorem dX12_opensOne_11 : decode cX12_opensOne 11 = .ok (.bipush 6, 2) := by decide +kernel
theorem dX12_opensOne_13 : decode cX12_opensOne 13 = .ok (.if_icmp .ne 15, 3) := by decide +kernel
theorem dX12_opensOne_16 : decode cX12_opensOne 16 = .ok (.aload_n 0, 1) := by decide +kernel
theorem dX12_opensOne_17 : decode cX12_opensOne 17 = .ok (.iconst 3, 1) := by decide +kernel
theorem dX12_opensOne_18 : decode cX12_opensOne 18 = .ok (.aload_n 0, 1) := by decide +kernel
theorem dX12_opensOne_19 : decode cX12_opensOne 19 = .ok (.getfield 79, 3) := by decide +kernel
theorem dX12_opensOne_22 : decode cX12_opensOne 22 = .ok (.invokevirtual 99, 3) := by decide +kernel
theorem dX12_opensOne_25 : decode cX12_opensOne 25 = .ok (.goto 20, 3) := by decide +kernel
theorem dX12_opensOne_28 : decode cX12_opensOne 28 = .ok (.aload_n 0, 1) := by decide +kernel
theorem dX12_opensOne_29 : decode cX12_opensOne 29 = .ok (.getfield 86, 3) := by decide +kernel
theorem dX12_opensOne_32 : decode cX12_opensOne 32 = .ok (.ifCond .ne 13, 3) := by decide +kernel
theorem dX12_opensOne_35 : decode cX12_opensOne 35 = .ok (.aload_n 0, 1) := by decide +kernel
theorem dX12_opensOne_36 : decode cX12_opensOne 36 = .ok (.dup, 1) := by decide +kernel
theorem dX12_opensOne_37 : decode cX12_opensOne 37 = .ok (.getfield 129, 3) := by decide +kernel
theorem dX12_opensOne_40 : decode cX12_opensOne 40 = .ok (.iconst 1, 1) := by decide +kernel
theorem dX12_opensOne_41 : decode cX12_opensOne 41 = .ok (.iadd, 1) := by decide +kernel
theorem dX12_opensOne_42 : decode cX12_opensOne 42 = .ok (.putfield 129, 3) := by decide +kernel
theorem dX12_opensOne_45 : decode cX12_opensOne 45 = .ok (.aload_n 0, 1) := by decide +kernel
theorem dX12_opensOne_46 : decode cX12_opensOne 46 = .ok (.getfield 86, 3) := by decide +kernel
theorem dX12_opensOne_49 : decode cX12_opensOne 49 = .ok (.ifCond .ne 7, 3) := by decide +kernel
theorem dX12_opensOne_52 : decode cX12_opensOne 52 = .ok (.iconst 1, 1) := by decide +kernel
theorem dX12_opensOne_53 : decode cX12_opensOne 53 = .ok (.goto 4, 3) := by decide +kernel
theorem dX12_opensOne_56 : decode cX12_opensOne 56 = .ok (.iconst 0, 1) := by decide +kernel
theorem dX12_opensOne_57 : decode cX12_opensOne 57 = .ok (.ireturn, 1) := by decide +kernel
theorem dX12_sum_0 : decode cX12_sum 0 = .ok (.aload_n 0, 1) := by decide +kernel
theorem dX12_sum_1 : decode cX12_sum 1 = .ok (.invokevirtual 175, 3) := by decide +kernel
theorem dX12_sum_4 : decode cX12_sum 4 = .ok (.aload_n 0, 1) := by decide +kernel
theorem dX12_sum_5 : decode cX12_sum 5 = .ok (.getfield 86, 3) := by decide +kernel
theorem dX12_sum_8 : decode cX12_sum 8 = .ok (.ifCond .ne 50, 3) := by decide +kernel
theorem dX12_sum_11 : decode cX12_sum 11 = .ok (.aload_n 0, 1) := by decide +kernel
theorem dX12_sum_12 : decode cX12_sum 12 = .ok (.bipush 43, 2) := by decide +kernel
theorem dX12_sum_14 : decode cX12_sum 14 = .ok (.invokevirtual 178, 3) := by decide +kernel
theorem dX12_sum_17 : decode cX12_sum 17 = .ok (.ifCond .eq 7, 3) := by decide +kernel
theorem dX12_sum_20 : decode cX12_sum 20 = .ok (.iconst 2, 1) := by decide +kernel
theorem dX12_sum_21 : decode cX12_sum 21 = .ok (.goto 17, 3) := by decide +kernel
theorem dX12_sum_24 : decode cX12_sum 24 = .ok (.aload_n 0, 1) := by decide +kernel
theorem dX12_sum_25 : decode cX12_sum 25 = .ok (.bipush 45, 2) := by decide +kernel
theorem dX12_sum_27 : decode cX12_sum 27 = .ok (.invokevirtual 178, 3) := by decide +kernel
theorem dX12_sum_30 : decode cX12_sum 30 = .ok (.ifCond .eq 7, 3) := by decide +kernel
theorem dX12_sum_33 : decode cX12_sum 33 = .ok (.iconst 3, 1) := by decide +kernel
theorem dX12_sum_34 : decode cX12_sum 34 = .ok (.goto 4, 3) := by decide +kernel
theorem dX12_sum_37 : decode cX12_sum 37 = .ok (.iconst (-1), 1) := by decide +kernel
theorem dX12_sum_38 : decode cX12_sum 38 = .ok (.istore_n 1, 1) := by decide +kernel
theorem dX12_sum_39 : decode cX12_sum 39 = .ok (.iload_n 1, 1) := by decide +kernel
theorem dX12_sum_40 : decode cX12_sum 40 = .ok (.iconst (-1), 1) := by decide +kernel
theorem dX12_sum_41 : decode cX12_sum 41 = .ok (.if_icmp .ne 4, 3) := by decide +kernel
theorem dX12_sum_44 : decode cX12_sum 44 = .ok (.return_, 1) := by decide +kernel
theorem dX12_sum_45 : decode cX12_sum 45 = .ok (.aload_n 0, 1) := by decide +kernel
theorem dX12_sum_46 : decode cX12_sum 46 = .ok (.invokevirtual 175, 3) := by decide +kernel
theorem dX12_sum_49 : decode cX12_sum 49 = .ok (.aload_n 0, 1) := by decide +kernel
theorem dX12_sum_50 : decode cX12_sum 50 = .ok (.iload_n 1, 1) := by decide +kernel
theorem dX12_sum_51 : decode cX12_sum 51 = .ok (.iconst 0, 1) := by decide +kernel
theorem dX12_sum_52 : decode cX12_sum 52 = .ok (.invokevirtual 181, 3) := by decide +kernel
theorem dX12_sum_55 : decode cX12_sum 55 = .ok (.goto (-51), 3) := by decide +kernel
theorem dX12_sum_58 : decode cX12_sum 58 = .ok (.return_, 1) := by decide +kernel
theorem dX12_product_0 : decode cX12_product 0 = .ok (.aload_n 0, 1) := by decide +kernel
theorem dX12_product_1 : decode cX12_product 1 = .ok (.invokevirtual 184, 3) := by decide +kernel
theorem dX12_product_4 : decode cX12_product 4 = .ok (.aload_n 0, 1) := by decide +kernel
theorem dX12_product_5 : decode cX12_product 5 = .ok (.getfield 86, 3) := by decide +kernel
theorem dX12_product_8 : decode cX12_product 8 = .ok (.ifCond .ne 64, 3) := by decide +kernel
theorem dX12_product_11 : decode cX12_product 11 = .ok (.aload_n 0, 1) := by decide +kernel
theorem dX12_product_12 : decode cX12_product 12 = .ok (.bipush 42, 2) := by decide +kernel
theorem dX12_product_14 : decode cX12_product 14 = .ok (.invokevirtual 178, 3) := by decide +kernel
theorem dX12_product_17 : decode cX12_product 17 = .ok (.ifCond .eq 7, 3) := by decide +kernel
theorem dX12_product_20 : decode cX12_product 20 = .ok (.iconst 4, 1) := by decide +kernel
theorem dX12_product_21 : decode cX12_product 21 = .ok (.goto 31, 3) := by decide +kernel
theorem dX12_product_24 : decode cX12_product 24 = .ok (.aload_n 0, 1) := by decide +kernel
theorem dX12_product_25 : decode cX12_product 25 = .ok (.bipush 47, 2) := by decide +kernel
theorem dX12_product_27 : decode cX12_product 27 = .ok (.invokevirtual 178, 3) := by decide +kernel
theorem dX12_product_30 : decode cX12_product 30 = .ok (.ifCond .eq 7, 3) := by decide +kernel
theorem dX12_product_33 : decode cX12_product 33 = .ok (.iconst 5, 1) := by decide +kernel
theorem dX12_product_34 : decode cX12_product 34 = .ok (.goto 18, 3) := by decide +kernel
theorem dX12_product_37 : decode cX12_product 37 = .ok (.aload_n 0, 1) := by decide +kernel
theorem dX12_product_38 : decode cX12_product 38 = .ok (.bipush 37, 2) := by decide +kernel
theorem dX12_product_40 : decode cX12_product 40 = .ok (.invokevirtual 178, 3) := by decide +kernel
theorem dX12_product_43 : decode cX12_product 43 = .ok (.ifCond .eq 8, 3) := by decide +kernel
theorem dX12_product_46 : decode cX12_product 46 = .ok (.bipush 6, 2) := by decide +kernel
theorem dX12_product_48 : decode cX12_product 48 = .ok (.goto 4, 3) := by decide +kernel
theorem dX12_product_51 : decode cX12_product 51 = .ok (.iconst (-1), 1) := by decide +kernel
theorem dX12_product_52 : decode cX12_product 52 = .ok (.istore_n 1, 1) := by decide +kernel
theorem dX12_product_53 : decode cX12_product 53 = .ok (.iload_n 1, 1) := by decide +kernel
theorem dX12_product_54 : decode cX12_product 54 = .ok (.iconst (-1), 1) := by decide +kernel
theorem dX12_product_55 : decode cX12_product 55 = .ok (.if_icmp .ne 4, 3) := by decide +kernel
theorem dX12_product_58 : decode cX12_product 58 = .ok (.return_, 1) := by decide +kernel
theorem dX12_product_59 : decode cX12_product 59 = .ok (.aload_n 0, 1) := by decide +kernel
theorem dX12_product_60 : decode cX12_product 60 = .ok (.invokevirtual 184, 3) := by decide +kernel
theorem dX12_product_63 : decode cX12_product 63 = .ok (.aload_n 0, 1) := by decide +kernel
theorem dX12_product_64 : decode cX12_product 64 = .ok (.iload_n 1, 1) := by decide +kernel
theorem dX12_product_65 : decode cX12_product 65 = .ok (.iconst 0, 1) := by decide +kernel
theorem dX12_product_66 : decode cX12_product 66 = .ok (.invokevirtual 181, 3) := by decide +kernel
theorem dX12_product_69 : decode cX12_product 69 = .ok (.goto (-65), 3) := by decide +kernel
theorem dX12_product_72 : decode cX12_product 72 = .ok (.return_, 1) := by decide +kernel
theorem dX12_knownHere_0 : decode cX12_knownHere 0 = .ok (.aload_n 0, 1) := by decide +kernel
theorem dX12_knownHere_1 : decode cX12_knownHere 1 = .ok (.bipush 13, 2) := by decide +kernel
theorem dX12_knownHere_3 : decode cX12_knownHere 3 = .ok (.iconst 5, 1) := by decide +kernel
theorem dX12_knownHere_4 : decode cX12_knownHere 4 = .ok (.bipush 13, 2) := by decide +kernel
theorem dX12_knownHere_6 : decode cX12_knownHere 6 = .ok (.iconst 2, 1) := by decide +kernel
theorem dX12_knownHere_7 : decode cX12_knownHere 7 = .ok (.iconst 5, 1) := by decide +kernel
theorem dX12_knownHere_8 : decode cX12_knownHere 8 = .ok (.bipush 18, 2) := by decide +kernel
theorem dX12_knownHere_10 : decode cX12_knownHere 10 = .ok (.invokevirtual 187, 3) := by decide +kernel
theorem dX12_knownHere_13 : decode cX12_knownHere 13 = .ok (.ifCond .eq 5, 3) := by decide +kernel
theorem dX12_knownHere_16 : decode cX12_knownHere 16 = .ok (.iconst 0, 1) := by decide +kernel
theorem dX12_knownHere_17 : decode cX12_knownHere 17 = .ok (.ireturn, 1) := by decide +kernel
theorem dX12_knownHere_18 : decode cX12_knownHere 18 = .ok (.aload_n 0, 1) := by decide +kernel
theorem dX12_knownHere_19 : decode cX12_knownHere 19 = .ok (.iconst 1, 1) := by decide +kernel
theorem dX12_knownHere_20 : decode cX12_knownHere 20 = .ok (.bipush 7, 2) := by decide +kernel
theorem dX12_knownHere_22 : decode cX12_knownHere 22 = .ok (.iconst 5, 1) := by decide +kernel
theorem dX12_knownHere_23 : decode cX12_knownHere 23 = .ok (.iconst 0, 1) := by decide +kernel
theorem dX12_knownHere_24 : decode cX12_knownHere 24 = .ok (.iconst 0, 1) := by decide +kernel
theorem dX12_knownHere_25 : decode cX12_knownHere 25 = .ok (.iconst 0, 1) := by decide +kernel
theorem dX12_knownHere_26 : decode cX12_knownHere 26 = .ok (.invokevirtual 187, 3) := by decide +kernel
theorem dX12_knownHere_29 : decode cX12_knownHere 29 = .ok (.ifCond .eq 5, 3) := by decide +kernel
theorem dX12_knownHere_32 : decode cX12_knownHere 32 = .ok (.iconst 1, 1) := by decide +kernel
theorem dX12_knownHere_33 : decode cX12_knownHere 33 = .ok (.ireturn, 1) := by decide +kernel
theorem dX12_knownHere_34 : decode cX12_knownHere 34 = .ok (.aload_n 0, 1) := by decide +kernel
theorem dX12_knownHere_35 : decode cX12_knownHere 35 = .ok (.bipush 22, 2) := by decide +kernel
theorem dX12_knownHere_37 : decode cX12_knownHere 37 = .ok (.bipush 9, 2) := by decide +kernel
theorem dX12_knownHere_39 : decode cX12_knownHere 39 = .ok (.iconst 5, 1) := by decide +kernel
theorem dX12_knownHere_40 : decode cX12_knownHere 40 = .ok (.bipush 23, 2) := by decide +kernel
theorem dX12_knownHere_42 : decode cX12_knownHere 42 = .ok (.iconst 0, 1) := by decide +kernel
theorem dX12_knownHere_43 : decode cX12_knownHere 43 = .ok (.iconst 0, 1) := by decide +kernel
theorem dX12_knownHere_44 : decode cX12_knownHere 44 = .ok (.invokevirtual 187, 3) := by decide +kernel
theorem dX12_knownHere_47 : decode cX12_knownHere 47 = .ok (.ifCond .eq 5, 3) := by decide +kernel
theorem dX12_knownHere_50 : decode cX12_knownHere 50 = .ok (.iconst 2, 1) := by decide +kernel
theorem dX12_knownHere_51 : decode cX12_knownHere 51 = .ok (.ireturn, 1) := by decide +kernel
theorem dX12_knownHere_52 : decode cX12_knownHere 52 = .ok (.aload_n 0, 1) := by decide +kernel
theorem dX12_knownHere_53 : decode cX12_knownHere 53 = .ok (.bipush 19, 2) := by decide +kernel
theorem dX12_knownHere_55 : decode cX12_knownHere 55 = .ok (.bipush 9, 2) := by decide +kernel
theorem dX12_knownHere_57 : decode cX12_knownHere 57 = .ok (.bipush 26, 2) := by decide +kernel
theorem dX12_knownHere_59 : decode cX12_knownHere 59 = .ok (.iconst 5, 1) := by decide +kernel
theorem dX12_knownHere_60 : decode cX12_knownHere 60 = .ok (.iconst 0, 1) := by decide +kernel
theorem dX12_knownHere_61 : decode cX12_knownHere 61 = .ok (.iconst 0, 1) := by decide +kernel
theorem dX12_knownHere_62 : decode cX12_knownHere 62 = .ok (.invokevirtual 187, 3) := by decide +kernel
theorem dX12_knownHere_65 : decode cX12_knownHere 65 = .ok (.ifCond .eq 7, 3) := by decide +kernel
theorem dX12_knownHere_68 : decode cX12_knownHere 68 = .ok (.iconst 3, 1) := by decide +kernel
theorem dX12_knownHere_69 : decode cX12_knownHere 69 = .ok (.goto 4, 3) := by decide +kernel
theorem dX12_knownHere_72 : decode cX12_knownHere 72 = .ok (.iconst (-1), 1) := by decide +kernel
theorem dX12_knownHere_73 : decode cX12_knownHere 73 = .ok (.ireturn, 1) := by decide +kernel
theorem dX12_one_0 : decode cX12_one 0 = .ok (.aload_n 0, 1) := by decide +kernel
theorem dX12_one_1 : decode cX12_one 1 = .ok (.getfield 86, 3) := by decide +kernel
theorem dX12_one_4 : decode cX12_one 4 = .ok (.ifCond .eq 4, 3) := by decide +kernel
theorem dX12_one_7 : decode cX12_one 7 = .ok (.return_, 1) := by decide +kernel
theorem dX12_one_8 : decode cX12_one 8 = .ok (.aload_n 0, 1) := by decide +kernel
theorem dX12_one_9 : decode cX12_one 9 = .ok (.invokevirtual 92, 3) := by decide +kernel
theorem dX12_one_12 : decode cX12_one 12 = .ok (.aload_n 0, 1) := by decide +kernel
theorem dX12_one_13 : decode cX12_one 13 = .ok (.bipush 12, 2) := by decide +kernel
theorem dX12_one_15 : decode cX12_one 15 = .ok (.iconst 5, 1) := by decide +kernel
theorem dX12_one_16 : decode cX12_one 16 = .ok (.iconst 1, 1) := by decide +kernel
theorem dX12_one_17 : decode cX12_one 17 = .ok (.bipush 19, 2) := by decide +kernel
theorem dX12_one_19 : decode cX12_one 19 = .ok (.bipush 20, 2) := by decide +kernel
theorem dX12_one_21 : decode cX12_one 21 = .ok (.iconst 0, 1) := by decide +kernel
theorem dX12_one_22 : decode cX12_one 22 = .ok (.invokevirtual 119, 3) := by decide +kernel
theorem dX12_one_25 : decode cX12_one 25 = .ok (.ifCond .eq 8, 3) := by decide +kernel
theorem dX12_one_28 : decode cX12_one 28 = .ok (.bipush 7, 2) := by decide +kernel
theorem dX12_one_30 : decode cX12_one 30 = .ok (.goto 26, 3) := by decide +kernel
theorem dX12_one_33 : decode cX12_one 33 = .ok (.aload_n 0, 1) := by decide +kernel
theorem dX12_one_34 : decode cX12_one 34 = .ok (.bipush 13, 2) := by decide +kernel
theorem dX12_one_36 : decode cX12_one 36 = .ok (.bipush 15, 2) := by decide +kernel
theorem dX12_one_38 : decode cX12_one 38 = .ok (.bipush 19, 2) := by decide +kernel
theorem dX12_one_40 : decode cX12_one 40 = .ok (.bipush 20, 2) := by decide +kernel
theorem dX12_one_42 : decode cX12_one 42 = .ok (.iconst 0, 1) := by decide +kernel
theorem dX12_one_43 : decode cX12_one 43 = .ok (.iconst 0, 1) := by decide +kernel
theorem dX12_one_44 : decode cX12_one 44 = .ok (.invokevirtual 119, 3) := by decide +kernel
theorem dX12_one_47 : decode cX12_one 47 = .ok (.ifCond .eq 8, 3) := by decide +kernel
theorem dX12_one_50 : decode cX12_one 50 = .ok (.bipush 8, 2) := by decide +kernel
theorem dX12_one_52 : decode cX12_one 52 = .ok (.goto 4, 3) := by decide +kernel
theorem dX12_one_55 : decode cX12_one 55 = .ok (.iconst (-1), 1) := by decide +kernel
theorem dX12_one_56 : decode cX12_one 56 = .ok (.istore_n 1, 1) := by decide +kernel
theorem dX12_one_57 : decode cX12_one 57 = .ok (.iload_n 1, 1) := by decide +kernel
theorem dX12_one_58 : decode cX12_one 58 = .ok (.iconst (-1), 1) := by decide +kernel
theorem dX12_one_59 : decode cX12_one 59 = .ok (.if_icmp .eq 58, 3) := by decide +kernel
theorem dX12_one_62 : decode cX12_one 62 = .ok (.aload_n 0, 1) := by decide +kernel
theorem dX12_one_63 : decode cX12_one 63 = .ok (.invokevirtual 190, 3) := by decide +kernel
theorem dX12_one_66 : decode cX12_one 66 = .ok (.ifCond .ne 4, 3) := by decide +kernel
theorem dX12_one_69 : decode cX12_one 69 = .ok (.return_, 1) := by decide +kernel
theorem dX12_one_70 : decode cX12_one 70 = .ok (.aload_n 0, 1) := by decide +kernel
theorem dX12_one_71 : decode cX12_one 71 = .ok (.invokevirtual 123, 3) := by decide +kernel
theorem dX12_one_74 : decode cX12_one 74 = .ok (.aload_n 0, 1) := by decide +kernel
theorem dX12_one_75 : decode cX12_one 75 = .ok (.bipush 91, 2) := by decide +kernel
theorem dX12_one_77 : decode cX12_one 77 = .ok (.invokevirtual 136, 3) := by decide +kernel
theorem dX12_one_80 : decode cX12_one 80 = .ok (.aload_n 0, 1) := by decide +kernel
theorem dX12_one_81 : decode cX12_one 81 = .ok (.invokevirtual 194, 3) := by decide +kernel
theorem dX12_one_84 : decode cX12_one 84 = .ok (.aload_n 0, 1) := by decide +kernel
theorem dX12_one_85 : decode cX12_one 85 = .ok (.bipush 44, 2) := by decide +kernel
theorem dX12_one_87 : decode cX12_one 87 = .ok (.invokevirtual 136, 3) := by decide +kernel
theorem dX12_one_90 : decode cX12_one 90 = .ok (.aload_n 0, 1) := by decide +kernel
theorem dX12_one_91 : decode cX12_one 91 = .ok (.invokevirtual 194, 3) := by decide +kernel
theorem dX12_one_94 : decode cX12_one 94 = .ok (.aload_n 0, 1) := by decide +kernel
theorem dX12_one_95 : decode cX12_one 95 = .ok (.bipush 93, 2) := by decide +kernel
theorem dX12_one_97 : decode cX12_one 97 = .ok (.invokevirtual 136, 3) := by decide +kernel
theorem dX12_one_100 : decode cX12_one 100 = .ok (.aload_n 0, 1) := by decide +kernel
theorem dX12_one_101 : decode cX12_one 101 = .ok (.iload_n 1, 1) := by decide +kernel
theorem dX12_one_102 : decode cX12_one 102 = .ok (.iconst 0, 1) := by decide +kernel
theorem dX12_one_103 : decode cX12_one 103 = .ok (.invokevirtual 181, 3) := by decide +kernel
theorem dX12_one_106 : decode cX12_one 106 = .ok (.aload_n 0, 1) := by decide +kernel
theorem dX12_one_107 : decode cX12_one 107 = .ok (.dup, 1) := by decide +kernel
theorem dX12_one_108 : decode cX12_one 108 = .ok (.getfield 129, 3) := by decide +kernel
theorem dX12_one_111 : decode cX12_one 111 = .ok (.iconst 1, 1) := by decide +kernel
theorem dX12_one_112 : decode cX12_one 112 = .ok (.isub, 1) := by decide +kernel
theorem dX12_one_113 : decode cX12_one 113 = .ok (.putfield 129, 3) := by decide +kernel
theorem dX12_one_116 : decode cX12_one 116 = .ok (.return_, 1) := by decide +kernel
theorem dX12_one_117 : decode cX12_one 117 = .ok (.aload_n 0, 1) := by decide +kernel
theorem dX12_one_118 : decode cX12_one 118 = .ok (.aload_n 0, 1) := by decide +kernel
theorem dX12_one_119 : decode cX12_one 119 = .ok (.getfield 79, 3) := by decide +kernel
theorem dX12_one_122 : decode cX12_one 122 = .ok (.invokevirtual 82, 3) := by decide +kernel
theorem dX12_one_125 : decode cX12_one 125 = .ok (.bipush 40, 2) := by decide +kernel
theorem dX12_one_127 : decode cX12_one 127 = .ok (.if_icmp .ne 42, 3) := by decide +kernel
theorem dX12_one_130 : decode cX12_one 130 = .ok (.aload_n 0, 1) := by decide +kernel
theorem dX12_one_131 : decode cX12_one 131 = .ok (.invokevirtual 190, 3) := by decide +kernel
theorem dX12_one_134 : decode cX12_one 134 = .ok (.ifCond .ne 4, 3) := by decide +kernel
theorem dX12_one_137 : decode cX12_one 137 = .ok (.return_, 1) := by decide +kernel
theorem dX12_one_138 : decode cX12_one 138 = .ok (.aload_n 0, 1) := by decide +kernel
theorem dX12_one_139 : decode cX12_one 139 = .ok (.dup, 1) := by decide +kernel
theorem dX12_one_140 : decode cX12_one 140 = .ok (.getfield 79, 3) := by decide +kernel
theorem dX12_one_143 : decode cX12_one 143 = .ok (.iconst 1, 1) := by decide +kernel
theorem dX12_one_144 : decode cX12_one 144 = .ok (.iadd, 1) := by decide +kernel
theorem dX12_one_145 : decode cX12_one 145 = .ok (.putfield 79, 3) := by decide +kernel
theorem dX12_one_148 : decode cX12_one 148 = .ok (.aload_n 0, 1) := by decide +kernel
theorem dX12_one_149 : decode cX12_one 149 = .ok (.invokevirtual 194, 3) := by decide +kernel
theorem dX12_one_152 : decode cX12_one 152 = .ok (.aload_n 0, 1) := by decide +kernel
theorem dX12_one_153 : decode cX12_one 153 = .ok (.bipush 41, 2) := by decide +kernel
theorem dX12_one_155 : decode cX12_one 155 = .ok (.invokevirtual 136, 3) := by decide +kernel
theorem dX12_one_158 : decode cX12_one 158 = .ok (.aload_n 0, 1) := by decide +kernel
theorem dX12_one_159 : decode cX12_one 159 = .ok (.dup, 1) := by decide +kernel
theorem dX12_one_160 : decode cX12_one 160 = .ok (.getfield 129, 3) := by decide +kernel
theorem dX12_one_163 : decode cX12_one 163 = .ok (.iconst 1, 1) := by decide +kernel
theorem dX12_one_164 : decode cX12_one 164 = .ok (.isub, 1) := by decide +kernel
theorem dX12_one_165 : decode cX12_one 165 = .ok (.putfield 129, 3) := by decide +kernel
theorem dX12_one_168 : decode cX12_one 168 = .ok (.return_, 1) := by decide +kernel
theorem dX12_one_169 : decode cX12_one 169 = .ok (.aload_n 0, 1) := by decide +kernel
theorem dX12_one_170 : decode cX12_one 170 = .ok (.invokevirtual 197, 3) := by decide +kernel
theorem dX12_one_173 : decode cX12_one 173 = .ok (.istore_n 2, 1) := by decide +kernel
theorem dX12_one_174 : decode cX12_one 174 = .ok (.iload_n 2, 1) := by decide +kernel
theorem dX12_one_175 : decode cX12_one 175 = .ok (.iconst (-1), 1) := by decide +kernel
theorem dX12_one_176 : decode cX12_one 176 = .ok (.if_icmp .eq 12, 3) := by decide +kernel
theorem dX12_one_179 : decode cX12_one 179 = .ok (.aload_n 0, 1) := by decide +kernel
theorem dX12_one_180 : decode cX12_one 180 = .ok (.iconst 1, 1) := by decide +kernel
theorem dX12_one_181 : decode cX12_one 181 = .ok (.iload_n 2, 1) := by decide +kernel
theorem dX12_one_182 : decode cX12_one 182 = .ok (.invokevirtual 181, 3) := by decide +kernel
theorem dX12_one_185 : decode cX12_one 185 = .ok (.goto 16, 3) := by decide +kernel
theorem dX12_one_188 : decode cX12_one 188 = .ok (.aload_n 0, 1) := by decide +kernel
theorem dX12_one_189 : decode cX12_one 189 = .ok (.iconst 0, 1) := by decide +kernel
theorem dX12_one_190 : decode cX12_one 190 = .ok (.aload_n 0, 1) := by decide +kernel
theorem dX12_one_191 : decode cX12_one 191 = .ok (.iconst 0, 1) := by decide +kernel
theorem dX12_one_192 : decode cX12_one 192 = .ok (.sipush 999, 3) := by decide +kernel
theorem dX12_one_195 : decode cX12_one 195 = .ok (.invokevirtual 132, 3) := by decide +kernel
theorem dX12_one_198 : decode cX12_one 198 = .ok (.invokevirtual 181, 3) := by decide +kernel
theorem dX12_one_201 : decode cX12_one 201 = .ok (.return_, 1) := by decide +kernel
theorem dX12_law_0 : decode cX12_law 0 = .ok (.aload_n 0, 1) := by decide +kernel
theorem dX12_law_1 : decode cX12_law 1 = .ok (.iconst 0, 1) := by decide +kernel
theorem dX12_law_2 : decode cX12_law 2 = .ok (.putfield 70, 3) := by decide +kernel
theorem dX12_law_5 : decode cX12_law 5 = .ok (.aload_n 0, 1) := by decide +kernel
theorem dX12_law_6 : decode cX12_law 6 = .ok (.iload_n 1, 1) := by decide +kernel
theorem dX12_law_7 : decode cX12_law 7 = .ok (.iconst 0, 1) := by decide +kernel
theorem dX12_law_8 : decode cX12_law 8 = .ok (.aload_n 0, 1) := by decide +kernel
theorem dX12_law_9 : decode cX12_law 9 = .ok (.getfield 73, 3) := by decide +kernel
theorem dX12_law_12 : decode cX12_law 12 = .ok (.invokestatic 104, 3) := by decide +kernel
theorem dX12_law_15 : decode cX12_law 15 = .ok (.ifCond .eq 10, 3) := by decide +kernel
theorem dX12_law_18 : decode cX12_law 18 = .ok (.iload_n 1, 1) := by decide +kernel
theorem dX12_law_19 : decode cX12_law 19 = .ok (.sipush 150, 3) := by decide +kernel
theorem dX12_law_22 : decode cX12_law 22 = .ok (.if_icmp .le 7, 3) := by decide +kernel
theorem dX12_law_25 : decode cX12_law 25 = .ok (.iconst 1, 1) := by decide +kernel
theorem dX12_law_26 : decode cX12_law 26 = .ok (.goto 4, 3) := by decide +kernel
theorem dX12_law_29 : decode cX12_law 29 = .ok (.iconst 0, 1) := by decide +kernel
theorem dX12_law_30 : decode cX12_law 30 = .ok (.iconst 1, 1) := by decide +kernel
theorem dX12_law_31 : decode cX12_law 31 = .ok (.iconst 1, 1) := by decide +kernel
theorem dX12_law_32 : decode cX12_law 32 = .ok (.invokevirtual 140, 3) := by decide +kernel
theorem dX12_law_35 : decode cX12_law 35 = .ok (.ifCond .eq 5, 3) := by decide +kernel
theorem dX12_law_38 : decode cX12_law 38 = .ok (.iconst 0, 1) := by decide +kernel
theorem dX12_law_39 : decode cX12_law 39 = .ok (.ireturn, 1) := by decide +kernel
theorem dX12_law_40 : decode cX12_law 40 = .ok (.aload_n 0, 1) := by decide +kernel
theorem dX12_law_41 : decode cX12_law 41 = .ok (.iload_n 1, 1) := by decide +kernel
theorem dX12_law_42 : decode cX12_law 42 = .ok (.invokevirtual 144, 3) := by decide +kernel
theorem dX12_law_45 : decode cX12_law 45 = .ok (.aload_n 0, 1) := by decide +kernel
theorem dX12_law_46 : decode cX12_law 46 = .ok (.iconst 0, 1) := by decide +kernel
theorem dX12_law_47 : decode cX12_law 47 = .ok (.putfield 172, 3) := by decide +kernel
