theorem dX12_told_153 : decode cX12_told 153 = .ok (.sipush 184, 3) := by decide +kernel
theorem dX12_told_156 : decode cX12_told 156 = .ok (.iaload, 1) := by decide +kernel
theorem dX12_told_157 : decode cX12_told 157 = .ok (.ireturn, 1) := by decide +kernel
theorem dX12_told_158 : decode cX12_told 158 = .ok (.aload_n 0, 1) := by decide +kernel
theorem dX12_told_159 : decode cX12_told 159 = .ok (.getfield 49, 3) := by decide +kernel
theorem dX12_told_162 : decode cX12_told 162 = .ok (.sipush 185, 3) := by decide +kernel
theorem dX12_told_165 : decode cX12_told 165 = .ok (.iaload, 1) := by decide +kernel
theorem dX12_told_166 : decode cX12_told 166 = .ok (.ireturn, 1) := by decide +kernel
theorem dX12_told_167 : decode cX12_told 167 = .ok (.aload_n 0, 1) := by decide +kernel
theorem dX12_told_168 : decode cX12_told 168 = .ok (.getfield 49, 3) := by decide +kernel
theorem dX12_told_171 : decode cX12_told 171 = .ok (.sipush 186, 3) := by decide +kernel
theorem dX12_told_174 : decode cX12_told 174 = .ok (.iaload, 1) := by decide +kernel
theorem dX12_told_175 : decode cX12_told 175 = .ok (.ireturn, 1) := by decide +kernel
theorem dX12_told_176 : decode cX12_told 176 = .ok (.aload_n 0, 1) := by decide +kernel
theorem dX12_told_177 : decode cX12_told 177 = .ok (.getfield 49, 3) := by decide +kernel
theorem dX12_told_180 : decode cX12_told 180 = .ok (.sipush 180, 3) := by decide +kernel
theorem dX12_told_183 : decode cX12_told 183 = .ok (.iaload, 1) := by decide +kernel
theorem dX12_told_184 : decode cX12_told 184 = .ok (.ireturn, 1) := by decide +kernel
theorem dX12_told_185 : decode cX12_told 185 = .ok (.aload_n 0, 1) := by decide +kernel
theorem dX12_told_186 : decode cX12_told 186 = .ok (.getfield 49, 3) := by decide +kernel
theorem dX12_told_189 : decode cX12_told 189 = .ok (.sipush 187, 3) := by decide +kernel
theorem dX12_told_192 : decode cX12_told 192 = .ok (.iaload, 1) := by decide +kernel
theorem dX12_told_193 : decode cX12_told 193 = .ok (.ireturn, 1) := by decide +kernel
theorem dX12_told_194 : decode cX12_told 194 = .ok (.iload_n 2, 1) := by decide +kernel
theorem dX12_told_195 : decode cX12_told 195 = .ok (.ireturn, 1) := by decide +kernel
theorem dX12_told_196 : decode cX12_told 196 = .ok (.aload_n 0, 1) := by decide +kernel
theorem dX12_told_197 : decode cX12_told 197 = .ok (.getfield 160, 3) := by decide +kernel
theorem dX12_told_200 : decode cX12_told 200 = .ok (.ireturn, 1) := by decide +kernel
theorem dX12_told_201 : decode cX12_told 201 = .ok (.aload_n 0, 1) := by decide +kernel
theorem dX12_told_202 : decode cX12_told 202 = .ok (.getfield 166, 3) := by decide +kernel
theorem dX12_told_205 : decode cX12_told 205 = .ok (.ireturn, 1) := by decide +kernel
theorem dX12_told_206 : decode cX12_told 206 = .ok (.aload_n 0, 1) := by decide +kernel
theorem dX12_told_207 : decode cX12_told 207 = .ok (.getfield 23, 3) := by decide +kernel
theorem dX12_told_210 : decode cX12_told 210 = .ok (.iconst 2, 1) := by decide +kernel
theorem dX12_told_211 : decode cX12_told 211 = .ok (.iaload, 1) := by decide +kernel
theorem dX12_told_212 : decode cX12_told 212 = .ok (.ireturn, 1) := by decide +kernel
theorem dX12_isMember_0 : decode cX12_isMember 0 = .ok (.iload_n 1, 1) := by decide +kernel
theorem dX12_isMember_1 : decode cX12_isMember 1 = .ok (.iconst 0, 1) := by decide +kernel
theorem dX12_isMember_2 : decode cX12_isMember 2 = .ok (.aload_n 0, 1) := by decide +kernel
theorem dX12_isMember_3 : decode cX12_isMember 3 = .ok (.getfield 23, 3) := by decide +kernel
theorem dX12_isMember_6 : decode cX12_isMember 6 = .ok (.iconst 0, 1) := by decide +kernel
theorem dX12_isMember_7 : decode cX12_isMember 7 = .ok (.iaload, 1) := by decide +kernel
theorem dX12_isMember_8 : decode cX12_isMember 8 = .ok (.iconst 1, 1) := by decide +kernel
theorem dX12_isMember_9 : decode cX12_isMember 9 = .ok (.isub, 1) := by decide +kernel
theorem dX12_isMember_10 : decode cX12_isMember 10 = .ok (.invokestatic 104, 3) := by decide +kernel
theorem dX12_isMember_13 : decode cX12_isMember 13 = .ok (.ireturn, 1) := by decide +kernel
theorem dX12_member_0 : decode cX12_member 0 = .ok (.aload_n 0, 1) := by decide +kernel
theorem dX12_member_1 : decode cX12_member 1 = .ok (.iconst 0, 1) := by decide +kernel
theorem dX12_member_2 : decode cX12_member 2 = .ok (.putfield 70, 3) := by decide +kernel
theorem dX12_member_5 : decode cX12_member 5 = .ok (.aload_n 0, 1) := by decide +kernel
theorem dX12_member_6 : decode cX12_member 6 = .ok (.aload_n 0, 1) := by decide +kernel
theorem dX12_member_7 : decode cX12_member 7 = .ok (.iload_n 1, 1) := by decide +kernel
theorem dX12_member_8 : decode cX12_member 8 = .ok (.invokevirtual 355, 3) := by decide +kernel
theorem dX12_member_11 : decode cX12_member 11 = .ok (.ifCond .ne 7, 3) := by decide +kernel
theorem dX12_member_14 : decode cX12_member 14 = .ok (.iconst 1, 1) := by decide +kernel
theorem dX12_member_15 : decode cX12_member 15 = .ok (.goto 4, 3) := by decide +kernel
theorem dX12_member_18 : decode cX12_member 18 = .ok (.iconst 0, 1) := by decide +kernel
theorem dX12_member_19 : decode cX12_member 19 = .ok (.iconst 1, 1) := by decide +kernel
theorem dX12_member_20 : decode cX12_member 20 = .ok (.iconst 0, 1) := by decide +kernel
theorem dX12_member_21 : decode cX12_member 21 = .ok (.invokevirtual 140, 3) := by decide +kernel
theorem dX12_member_24 : decode cX12_member 24 = .ok (.ifCond .ne 27, 3) := by decide +kernel
theorem dX12_member_27 : decode cX12_member 27 = .ok (.aload_n 0, 1) := by decide +kernel
theorem dX12_member_28 : decode cX12_member 28 = .ok (.iload_n 2, 1) := by decide +kernel
theorem dX12_member_29 : decode cX12_member 29 = .ok (.iconst 0, 1) := by decide +kernel
theorem dX12_member_30 : decode cX12_member 30 = .ok (.bipush 6, 2) := by decide +kernel
theorem dX12_member_32 : decode cX12_member 32 = .ok (.invokestatic 104, 3) := by decide +kernel
theorem dX12_member_35 : decode cX12_member 35 = .ok (.ifCond .ne 7, 3) := by decide +kernel
theorem dX12_member_38 : decode cX12_member 38 = .ok (.iconst 1, 1) := by decide +kernel
theorem dX12_member_39 : decode cX12_member 39 = .ok (.goto 4, 3) := by decide +kernel
theorem dX12_member_42 : decode cX12_member 42 = .ok (.iconst 0, 1) := by decide +kernel
theorem dX12_member_43 : decode cX12_member 43 = .ok (.iconst 2, 1) := by decide +kernel
theorem dX12_member_44 : decode cX12_member 44 = .ok (.iconst 1, 1) := by decide +kernel
theorem dX12_member_45 : decode cX12_member 45 = .ok (.invokevirtual 140, 3) := by decide +kernel
theorem dX12_member_48 : decode cX12_member 48 = .ok (.ifCond .eq 5, 3) := by decide +kernel
theorem dX12_member_51 : decode cX12_member 51 = .ok (.iconst 0, 1) := by decide +kernel
theorem dX12_member_52 : decode cX12_member 52 = .ok (.ireturn, 1) := by decide +kernel
theorem dX12_member_53 : decode cX12_member 53 = .ok (.iload_n 2, 1) := by decide +kernel
theorem dX12_member_54 : decode cX12_member 54 = .ok (.tableswitch 114 0 5 #[38, 59, 68, 81, 94, 104], 38) := by decide +kernel
theorem dX12_member_92 : decode cX12_member 92 = .ok (.aload_n 0, 1) := by decide +kernel
theorem dX12_member_93 : decode cX12_member 93 = .ok (.getfield 49, 3) := by decide +kernel
theorem dX12_member_96 : decode cX12_member 96 = .ok (.sipush 183, 3) := by decide +kernel
theorem dX12_member_99 : decode cX12_member 99 = .ok (.iaload, 1) := by decide +kernel
theorem dX12_member_100 : decode cX12_member 100 = .ok (.iload_n 1, 1) := by decide +kernel
theorem dX12_member_101 : decode cX12_member 101 = .ok (.invokestatic 153, 3) := by decide +kernel
theorem dX12_member_104 : decode cX12_member 104 = .ok (.ifCond .eq 7, 3) := by decide +kernel
theorem dX12_member_107 : decode cX12_member 107 = .ok (.iconst 1, 1) := by decide +kernel
theorem dX12_member_108 : decode cX12_member 108 = .ok (.goto 4, 3) := by decide +kernel
theorem dX12_member_111 : decode cX12_member 111 = .ok (.iconst 0, 1) := by decide +kernel
theorem dX12_member_112 : decode cX12_member 112 = .ok (.ireturn, 1) := by decide +kernel
theorem dX12_member_113 : decode cX12_member 113 = .ok (.aload_n 0, 1) := by decide +kernel
theorem dX12_member_114 : decode cX12_member 114 = .ok (.getfield 49, 3) := by decide +kernel
theorem dX12_member_117 : decode cX12_member 117 = .ok (.iconst 0, 1) := by decide +kernel
theorem dX12_member_118 : decode cX12_member 118 = .ok (.iload_n 1, 1) := by decide +kernel
theorem dX12_member_119 : decode cX12_member 119 = .ok (.iadd, 1) := by decide +kernel
theorem dX12_member_120 : decode cX12_member 120 = .ok (.iaload, 1) := by decide +kernel
theorem dX12_member_121 : decode cX12_member 121 = .ok (.ireturn, 1) := by decide +kernel
theorem dX12_member_122 : decode cX12_member 122 = .ok (.aload_n 0, 1) := by decide +kernel
theorem dX12_member_123 : decode cX12_member 123 = .ok (.getfield 49, 3) := by decide +kernel
theorem dX12_member_126 : decode cX12_member 126 = .ok (.bipush 12, 2) := by decide +kernel
theorem dX12_member_128 : decode cX12_member 128 = .ok (.iload_n 1, 1) := by decide +kernel
theorem dX12_member_129 : decode cX12_member 129 = .ok (.iadd, 1) := by decide +kernel
theorem dX12_member_130 : decode cX12_member 130 = .ok (.iaload, 1) := by decide +kernel
theorem dX12_member_131 : decode cX12_member 131 = .ok (.invokestatic 268, 3) := by decide +kernel
theorem dX12_member_134 : decode cX12_member 134 = .ok (.ireturn, 1) := by decide +kernel
theorem dX12_member_135 : decode cX12_member 135 = .ok (.aload_n 0, 1) := by decide +kernel
theorem dX12_member_136 : decode cX12_member 136 = .ok (.getfield 49, 3) := by decide +kernel
theorem dX12_member_139 : decode cX12_member 139 = .ok (.bipush 18, 2) := by decide +kernel
theorem dX12_member_141 : decode cX12_member 141 = .ok (.iload_n 1, 1) := by decide +kernel
theorem dX12_member_142 : decode cX12_member 142 = .ok (.iadd, 1) := by decide +kernel
theorem dX12_member_143 : decode cX12_member 143 = .ok (.iaload, 1) := by decide +kernel
theorem dX12_member_144 : decode cX12_member 144 = .ok (.invokestatic 268, 3) := by decide +kernel
theorem dX12_member_147 : decode cX12_member 147 = .ok (.ireturn, 1) := by decide +kernel
theorem dX12_member_148 : decode cX12_member 148 = .ok (.aload_n 0, 1) := by decide +kernel
theorem dX12_member_149 : decode cX12_member 149 = .ok (.getfield 49, 3) := by decide +kernel
theorem dX12_member_152 : decode cX12_member 152 = .ok (.bipush 30, 2) := by decide +kernel
theorem dX12_member_154 : decode cX12_member 154 = .ok (.iload_n 1, 1) := by decide +kernel
theorem dX12_member_155 : decode cX12_member 155 = .ok (.iadd, 1) := by decide +kernel
theorem dX12_member_156 : decode cX12_member 156 = .ok (.iaload, 1) := by decide +kernel
theorem dX12_member_157 : decode cX12_member 157 = .ok (.ireturn, 1) := by decide +kernel
theorem dX12_member_158 : decode cX12_member 158 = .ok (.aload_n 0, 1) := by decide +kernel
theorem dX12_member_159 : decode cX12_member 159 = .ok (.aload_n 0, 1) := by decide +kernel
theorem dX12_member_160 : decode cX12_member 160 = .ok (.getfield 49, 3) := by decide +kernel
theorem dX12_member_163 : decode cX12_member 163 = .ok (.iload_n 1, 1) := by decide +kernel
theorem dX12_member_164 : decode cX12_member 164 = .ok (.invokevirtual 275, 3) := by decide +kernel
theorem dX12_member_167 : decode cX12_member 167 = .ok (.ireturn, 1) := by decide +kernel
theorem dX12_member_168 : decode cX12_member 168 = .ok (.iconst 0, 1) := by decide +kernel
theorem dX12_member_169 : decode cX12_member 169 = .ok (.aload_n 0, 1) := by decide +kernel
theorem dX12_member_170 : decode cX12_member 170 = .ok (.getfield 49, 3) := by decide +kernel
theorem dX12_member_173 : decode cX12_member 173 = .ok (.bipush 6, 2) := by decide +kernel
theorem dX12_member_175 : decode cX12_member 175 = .ok (.iload_n 1, 1) := by decide +kernel
theorem dX12_member_176 : decode cX12_member 176 = .ok (.iadd, 1) := by decide +kernel
theorem dX12_member_177 : decode cX12_member 177 = .ok (.iaload, 1) := by decide +kernel
theorem dX12_member_178 : decode cX12_member 178 = .ok (.invokestatic 207, 3) := by decide +kernel
theorem dX12_member_181 : decode cX12_member 181 = .ok (.ireturn, 1) := by decide +kernel
theorem dX12_tally_0 : decode cX12_tally 0 = .ok (.aload_n 0, 1) := by decide +kernel
theorem dX12_tally_1 : decode cX12_tally 1 = .ok (.iconst 0, 1) := by decide +kernel
theorem dX12_tally_2 : decode cX12_tally 2 = .ok (.putfield 70, 3) := by decide +kernel
theorem dX12_tally_5 : decode cX12_tally 5 = .ok (.aload_n 0, 1) := by decide +kernel
theorem dX12_tally_6 : decode cX12_tally 6 = .ok (.aload_n 0, 1) := by decide +kernel
theorem dX12_tally_7 : decode cX12_tally 7 = .ok (.iload_n 1, 1) := by decide +kernel
theorem dX12_tally_8 : decode cX12_tally 8 = .ok (.invokevirtual 355, 3) := by decide +kernel
theorem dX12_tally_11 : decode cX12_tally 11 = .ok (.ifCond .ne 7, 3) := by decide +kernel
theorem dX12_tally_14 : decode cX12_tally 14 = .ok (.iconst 1, 1) := by decide +kernel
theorem dX12_tally_15 : decode cX12_tally 15 = .ok (.goto 4, 3) := by decide +kernel
theorem dX12_tally_18 : decode cX12_tally 18 = .ok (.iconst 0, 1) := by decide +kernel
theorem dX12_tally_19 : decode cX12_tally 19 = .ok (.iconst 1, 1) := by decide +kernel
theorem dX12_tally_20 : decode cX12_tally 20 = .ok (.iconst 0, 1) := by decide +kernel
theorem dX12_tally_21 : decode cX12_tally 21 = .ok (.invokevirtual 140, 3) := by decide +kernel
theorem dX12_tally_24 : decode cX12_tally 24 = .ok (.ifCond .eq 5, 3) := by decide +kernel
theorem dX12_tally_27 : decode cX12_tally 27 = .ok (.lconst 0, 1) := by decide +kernel
theorem dX12_tally_28 : decode cX12_tally 28 = .ok (.lreturn, 1) := by decide +kernel
theorem dX12_tally_29 : decode cX12_tally 29 = .ok (.aload_n 0, 1) := by decide +kernel
theorem dX12_tally_30 : decode cX12_tally 30 = .ok (.getfield 49, 3) := by decide +kernel
theorem dX12_tally_33 : decode cX12_tally 33 = .ok (.sipush 188, 3) := by decide +kernel
theorem dX12_tally_36 : decode cX12_tally 36 = .ok (.iconst 2, 1) := by decide +kernel
theorem dX12_tally_37 : decode cX12_tally 37 = .ok (.iload_n 1, 1) := by decide +kernel
theorem dX12_tally_38 : decode cX12_tally 38 = .ok (.imul, 1) := by decide +kernel
theorem dX12_tally_39 : decode cX12_tally 39 = .ok (.iadd, 1) := by decide +kernel
theorem dX12_tally_40 : decode cX12_tally 40 = .ok (.invokestatic 228, 3) := by decide +kernel
theorem dX12_tally_43 : decode cX12_tally 43 = .ok (.lreturn, 1) := by decide +kernel
theorem dX12_log_0 : decode cX12_log 0 = .ok (.aload_n 0, 1) := by decide +kernel
theorem dX12_log_1 : decode cX12_log 1 = .ok (.iconst 0, 1) := by decide +kernel
theorem dX12_log_2 : decode cX12_log 2 = .ok (.putfield 70, 3) := by decide +kernel
theorem dX12_log_5 : decode cX12_log 5 = .ok (.aload_n 0, 1) := by decide +kernel
theorem dX12_log_6 : decode cX12_log 6 = .ok (.aload_n 0, 1) := by decide +kernel
theorem dX12_log_7 : decode cX12_log 7 = .ok (.iload_n 1, 1) := by decide +kernel
theorem dX12_log_8 : decode cX12_log 8 = .ok (.invokevirtual 355, 3) := by decide +kernel
theorem dX12_log_11 : decode cX12_log 11 = .ok (.ifCond .ne 7, 3) := by decide +kernel
theorem dX12_log_14 : decode cX12_log 14 = .ok (.iconst 1, 1) := by decide +kernel
theorem dX12_log_15 : decode cX12_log 15 = .ok (.goto 4, 3) := by decide +kernel
theorem dX12_log_18 : decode cX12_log 18 = .ok (.iconst 0, 1) := by decide +kernel
theorem dX12_log_19 : decode cX12_log 19 = .ok (.iconst 1, 1) := by decide +kernel
theorem dX12_log_20 : decode cX12_log 20 = .ok (.iconst 0, 1) := by decide +kernel
theorem dX12_log_21 : decode cX12_log 21 = .ok (.invokevirtual 140, 3) := by decide +kernel
theorem dX12_log_24 : decode cX12_log 24 = .ok (.ifCond .ne 63, 3) := by decide +kernel
theorem dX12_log_27 : decode cX12_log 27 = .ok (.aload_n 0, 1) := by decide +kernel
theorem dX12_log_28 : decode cX12_log 28 = .ok (.aload_n 0, 1) := by decide +kernel
theorem dX12_log_29 : decode cX12_log 29 = .ok (.getfield 49, 3) := by decide +kernel
theorem dX12_log_32 : decode cX12_log 32 = .ok (.bipush 6, 2) := by decide +kernel
theorem dX12_log_34 : decode cX12_log 34 = .ok (.iload_n 1, 1) := by decide +kernel
theorem dX12_log_35 : decode cX12_log 35 = .ok (.iadd, 1) := by decide +kernel
theorem dX12_log_36 : decode cX12_log 36 = .ok (.iaload, 1) := by decide +kernel
theorem dX12_log_37 : decode cX12_log 37 = .ok (.iconst (-1), 1) := by decide +kernel
theorem dX12_log_38 : decode cX12_log 38 = .ok (.if_icmp .ne 7, 3) := by decide +kernel
theorem dX12_log_41 : decode cX12_log 41 = .ok (.iconst 1, 1) := by decide +kernel
theorem dX12_log_42 : decode cX12_log 42 = .ok (.goto 4, 3) := by decide +kernel
theorem dX12_log_45 : decode cX12_log 45 = .ok (.iconst 0, 1) := by decide +kernel
theorem dX12_log_46 : decode cX12_log 46 = .ok (.iconst 2, 1) := by decide +kernel
theorem dX12_log_47 : decode cX12_log 47 = .ok (.iconst 2, 1) := by decide +kernel
theorem dX12_log_48 : decode cX12_log 48 = .ok (.invokevirtual 140, 3) := by decide +kernel
theorem dX12_log_51 : decode cX12_log 51 = .ok (.ifCond .ne 36, 3) := by decide +kernel
theorem dX12_log_54 : decode cX12_log 54 = .ok (.aload_n 0, 1) := by decide +kernel
theorem dX12_log_55 : decode cX12_log 55 = .ok (.iload_n 2, 1) := by decide +kernel
theorem dX12_log_56 : decode cX12_log 56 = .ok (.iconst 0, 1) := by decide +kernel
theorem dX12_log_57 : decode cX12_log 57 = .ok (.aload_n 0, 1) := by decide +kernel
theorem dX12_log_58 : decode cX12_log 58 = .ok (.getfield 49, 3) := by decide +kernel
theorem dX12_log_61 : decode cX12_log 61 = .ok (.bipush 6, 2) := by decide +kernel
theorem dX12_log_63 : decode cX12_log 63 = .ok (.iload_n 1, 1) := by decide +kernel
theorem dX12_log_64 : decode cX12_log 64 = .ok (.iadd, 1) := by decide +kernel
theorem dX12_log_65 : decode cX12_log 65 = .ok (.iaload, 1) := by decide +kernel
theorem dX12_log_66 : decode cX12_log 66 = .ok (.iconst 1, 1) := by decide +kernel
theorem dX12_log_67 : decode cX12_log 67 = .ok (.isub, 1) := by decide +kernel
theorem dX12_log_68 : decode cX12_log 68 = .ok (.invokestatic 104, 3) := by decide +kernel
theorem dX12_log_71 : decode cX12_log 71 = .ok (.ifCond .ne 7, 3) := by decide +kernel
theorem dX12_log_74 : decode cX12_log 74 = .ok (.iconst 1, 1) := by decide +kernel
theorem dX12_log_75 : decode cX12_log 75 = .ok (.goto 4, 3) := by decide +kernel
theorem dX12_log_78 : decode cX12_log 78 = .ok (.iconst 0, 1) := by decide +kernel
theorem dX12_log_79 : decode cX12_log 79 = .ok (.iconst 3, 1) := by decide +kernel
theorem dX12_log_80 : decode cX12_log 80 = .ok (.iconst 3, 1) := by decide +kernel
theorem dX12_log_81 : decode cX12_log 81 = .ok (.invokevirtual 140, 3) := by decide +kernel
theorem dX12_log_84 : decode cX12_log 84 = .ok (.ifCond .eq 5, 3) := by decide +kernel
theorem dX12_log_87 : decode cX12_log 87 = .ok (.lconst 0, 1) := by decide +kernel
theorem dX12_log_88 : decode cX12_log 88 = .ok (.lreturn, 1) := by decide +kernel
theorem dX12_log_89 : decode cX12_log 89 = .ok (.aload_n 0, 1) := by decide +kernel
theorem dX12_log_90 : decode cX12_log 90 = .ok (.getfield 49, 3) := by decide +kernel
theorem dX12_log_93 : decode cX12_log 93 = .ok (.iload_n 1, 1) := by decide +kernel
theorem dX12_log_94 : decode cX12_log 94 = .ok (.iload_n 2, 1) := by decide +kernel
theorem dX12_log_95 : decode cX12_log 95 = .ok (.invokestatic 225, 3) := by decide +kernel
theorem dX12_log_98 : decode cX12_log 98 = .ok (.invokestatic 228, 3) := by decide +kernel
theorem dX12_log_101 : decode cX12_log 101 = .ok (.lreturn, 1) := by decide +kernel
theorem dX12_whoHas_0 : decode cX12_whoHas 0 = .ok (.iconst 0, 1) := by decide +kernel
theorem dX12_whoHas_1 : decode cX12_whoHas 1 = .ok (.istore_n 3, 1) := by decide +kernel
theorem dX12_whoHas_2 : decode cX12_whoHas 2 = .ok (.iconst 0, 1) := by decide +kernel
theorem dX12_whoHas_3 : decode cX12_whoHas 3 = .ok (.istore 4, 2) := by decide +kernel
theorem dX12_whoHas_5 : decode cX12_whoHas 5 = .ok (.iload 4, 2) := by decide +kernel
theorem dX12_whoHas_7 : decode cX12_whoHas 7 = .ok (.aload_n 0, 1) := by decide +kernel
theorem dX12_whoHas_8 : decode cX12_whoHas 8 = .ok (.getfield 23, 3) := by decide +kernel
theorem dX12_whoHas_11 : decode cX12_whoHas 11 = .ok (.iconst 0, 1) := by decide +kernel
theorem dX12_whoHas_12 : decode cX12_whoHas 12 = .ok (.iaload, 1) := by decide +kernel
theorem dX12_whoHas_13 : decode cX12_whoHas 13 = .ok (.if_icmp .ge 36, 3) := by decide +kernel
theorem dX12_whoHas_16 : decode cX12_whoHas 16 = .ok (.iload_n 3, 1) := by decide +kernel
theorem dX12_whoHas_17 : decode cX12_whoHas 17 = .ok (.aload_n 0, 1) := by decide +kernel
theorem dX12_whoHas_18 : decode cX12_whoHas 18 = .ok (.getfield 49, 3) := by decide +kernel
theorem dX12_whoHas_21 : decode cX12_whoHas 21 = .ok (.iload_n 1, 1) := by decide +kernel
theorem dX12_whoHas_22 : decode cX12_whoHas 22 = .ok (.iload 4, 2) := by decide +kernel
theorem dX12_whoHas_24 : decode cX12_whoHas 24 = .ok (.iadd, 1) := by decide +kernel
theorem dX12_whoHas_25 : decode cX12_whoHas 25 = .ok (.iaload, 1) := by decide +kernel
theorem dX12_whoHas_26 : decode cX12_whoHas 26 = .ok (.iload_n 2, 1) := by decide +kernel
theorem dX12_whoHas_27 : decode cX12_whoHas 27 = .ok (.invokestatic 153, 3) := by decide +kernel
theorem dX12_whoHas_30 : decode cX12_whoHas 30 = .ok (.ifCond .eq 10, 3) := by decide +kernel
theorem dX12_whoHas_33 : decode cX12_whoHas 33 = .ok (.iconst 1, 1) := by decide +kernel
theorem dX12_whoHas_34 : decode cX12_whoHas 34 = .ok (.iload 4, 2) := by decide +kernel
theorem dX12_whoHas_36 : decode cX12_whoHas 36 = .ok (.ishl, 1) := by decide +kernel
theorem dX12_whoHas_37 : decode cX12_whoHas 37 = .ok (.goto 4, 3) := by decide +kernel
theorem dX12_whoHas_40 : decode cX12_whoHas 40 = .ok (.iconst 0, 1) := by decide +kernel
theorem dX12_whoHas_41 : decode cX12_whoHas 41 = .ok (.ior, 1) := by decide +kernel
theorem dX12_whoHas_42 : decode cX12_whoHas 42 = .ok (.istore_n 3, 1) := by decide +kernel
theorem dX12_whoHas_43 : decode cX12_whoHas 43 = .ok (.iinc 4 1, 3) := by decide +kernel
theorem dX12_whoHas_46 : decode cX12_whoHas 46 = .ok (.goto (-41), 3) := by decide +kernel
theorem dX12_whoHas_49 : decode cX12_whoHas 49 = .ok (.iload_n 3, 1) := by decide +kernel
theorem dX12_whoHas_50 : decode cX12_whoHas 50 = .ok (.ireturn, 1) := by decide +kernel
theorem dX12_message_0 : decode cX12_message 0 = .ok (.aload_n 0, 1) := by decide +kernel
theorem dX12_message_1 : decode cX12_message 1 = .ok (.iconst 0, 1) := by decide +kernel
theorem dX12_message_2 : decode cX12_message 2 = .ok (.putfield 70, 3) := by decide +kernel
theorem dX12_message_5 : decode cX12_message 5 = .ok (.aload_n 0, 1) := by decide +kernel
theorem dX12_message_6 : decode cX12_message 6 = .ok (.iload_n 2, 1) := by decide +kernel
theorem dX12_message_7 : decode cX12_message 7 = .ok (.iconst 0, 1) := by decide +kernel
theorem dX12_message_8 : decode cX12_message 8 = .ok (.iconst 4, 1) := by decide +kernel
theorem dX12_message_9 : decode cX12_message 9 = .ok (.invokestatic 104, 3) := by decide +kernel
theorem dX12_message_12 : decode cX12_message 12 = .ok (.ifCond .ne 7, 3) := by decide +kernel
theorem dX12_message_15 : decode cX12_message 15 = .ok (.iconst 1, 1) := by decide +kernel
theorem dX12_message_16 : decode cX12_message 16 = .ok (.goto 4, 3) := by decide +kernel
theorem dX12_message_19 : decode cX12_message 19 = .ok (.iconst 0, 1) := by decide +kernel
theorem dX12_message_20 : decode cX12_message 20 = .ok (.iconst 1, 1) := by decide +kernel
theorem dX12_message_21 : decode cX12_message 21 = .ok (.iconst 1, 1) := by decide +kernel
theorem dX12_message_22 : decode cX12_message 22 = .ok (.invokevirtual 140, 3) := by decide +kernel
theorem dX12_message_25 : decode cX12_message 25 = .ok (.ifCond .ne 53, 3) := by decide +kernel
theorem dX12_message_28 : decode cX12_message 28 = .ok (.aload_n 0, 1) := by decide +kernel
theorem dX12_message_29 : decode cX12_message 29 = .ok (.iload_n 1, 1) := by decide +kernel
theorem dX12_message_30 : decode cX12_message 30 = .ok (.iconst 0, 1) := by decide +kernel
theorem dX12_message_31 : decode cX12_message 31 = .ok (.bipush 29, 2) := by decide +kernel
theorem dX12_message_33 : decode cX12_message 33 = .ok (.invokestatic 104, 3) := by decide +kernel
theorem dX12_message_36 : decode cX12_message 36 = .ok (.ifCond .ne 7, 3) := by decide +kernel
theorem dX12_message_39 : decode cX12_message 39 = .ok (.iconst 1, 1) := by decide +kernel
theorem dX12_message_40 : decode cX12_message 40 = .ok (.goto 4, 3) := by decide +kernel
theorem dX12_message_43 : decode cX12_message 43 = .ok (.iconst 0, 1) := by decide +kernel
theorem dX12_message_44 : decode cX12_message 44 = .ok (.iconst 3, 1) := by decide +kernel
theorem dX12_message_45 : decode cX12_message 45 = .ok (.iconst 3, 1) := by decide +kernel
theorem dX12_message_46 : decode cX12_message 46 = .ok (.invokevirtual 140, 3) := by decide +kernel
theorem dX12_message_49 : decode cX12_message 49 = .ok (.ifCond .ne 29, 3) := by decide +kernel
theorem dX12_message_52 : decode cX12_message 52 = .ok (.aload_n 0, 1) := by decide +kernel
theorem dX12_message_53 : decode cX12_message 53 = .ok (.iload_n 1, 1) := by decide +kernel
theorem dX12_message_54 : decode cX12_message 54 = .ok (.aload_n 0, 1) := by decide +kernel
theorem dX12_message_55 : decode cX12_message 55 = .ok (.getfield 49, 3) := by decide +kernel
theorem dX12_message_58 : decode cX12_message 58 = .ok (.sipush 187, 3) := by decide +kernel
theorem dX12_message_61 : decode cX12_message 61 = .ok (.iaload, 1) := by decide +kernel
theorem dX12_message_62 : decode cX12_message 62 = .ok (.if_icmp .lt 7, 3) := by decide +kernel
theorem dX12_message_65 : decode cX12_message 65 = .ok (.iconst 1, 1) := by decide +kernel
theorem dX12_message_66 : decode cX12_message 66 = .ok (.goto 4, 3) := by decide +kernel
theorem dX12_message_69 : decode cX12_message 69 = .ok (.iconst 0, 1) := by decide +kernel
theorem dX12_message_70 : decode cX12_message 70 = .ok (.iconst 2, 1) := by decide +kernel
theorem dX12_message_71 : decode cX12_message 71 = .ok (.iconst 2, 1) := by decide +kernel
theorem dX12_message_72 : decode cX12_message 72 = .ok (.invokevirtual 140, 3) := by decide +kernel
theorem dX12_message_75 : decode cX12_message 75 = .ok (.ifCond .eq 5, 3) := by decide +kernel
theorem dX12_message_78 : decode cX12_message 78 = .ok (.iconst 0, 1) := by decide +kernel
theorem dX12_message_79 : decode cX12_message 79 = .ok (.ireturn, 1) := by decide +kernel
theorem dX12_message_80 : decode cX12_message 80 = .ok (.iload_n 2, 1) := by decide +kernel
theorem dX12_message_81 : decode cX12_message 81 = .ok (.ifCond .ne 15, 3) := by decide +kernel
theorem dX12_message_84 : decode cX12_message 84 = .ok (.aload_n 0, 1) := by decide +kernel
theorem dX12_message_85 : decode cX12_message 85 = .ok (.getfield 49, 3) := by decide +kernel
theorem dX12_message_88 : decode cX12_message 88 = .ok (.bipush 120, 2) := by decide +kernel
theorem dX12_message_90 : decode cX12_message 90 = .ok (.iload_n 1, 1) := by decide +kernel
theorem dX12_message_91 : decode cX12_message 91 = .ok (.iadd, 1) := by decide +kernel
theorem dX12_message_92 : decode cX12_message 92 = .ok (.iaload, 1) := by decide +kernel
theorem dX12_message_93 : decode cX12_message 93 = .ok (.goto 48, 3) := by decide +kernel
theorem dX12_message_96 : decode cX12_message 96 = .ok (.iload_n 2, 1) := by decide +kernel
theorem dX12_message_97 : decode cX12_message 97 = .ok (.iconst 1, 1) := by decide +kernel
theorem dX12_message_98 : decode cX12_message 98 = .ok (.if_icmp .ne 16, 3) := by decide +kernel
theorem dX12_message_101 : decode cX12_message 101 = .ok (.aload_n 0, 1) := by decide +kernel
theorem dX12_message_102 : decode cX12_message 102 = .ok (.getfield 49, 3) := by decide +kernel
theorem dX12_message_105 : decode cX12_message 105 = .ok (.sipush 150, 3) := by decide +kernel
theorem dX12_message_108 : decode cX12_message 108 = .ok (.iload_n 1, 1) := by decide +kernel
theorem dX12_message_109 : decode cX12_message 109 = .ok (.iadd, 1) := by decide +kernel
theorem dX12_message_110 : decode cX12_message 110 = .ok (.iaload, 1) := by decide +kernel
theorem dX12_message_111 : decode cX12_message 111 = .ok (.goto 30, 3) := by decide +kernel
theorem dX12_message_114 : decode cX12_message 114 = .ok (.aload_n 0, 1) := by decide +kernel
theorem dX12_message_115 : decode cX12_message 115 = .ok (.iload_n 2, 1) := by decide +kernel
theorem dX12_message_116 : decode cX12_message 116 = .ok (.iconst 2, 1) := by decide +kernel
theorem dX12_message_117 : decode cX12_message 117 = .ok (.if_icmp .ne 8, 3) := by decide +kernel
theorem dX12_message_120 : decode cX12_message 120 = .ok (.bipush 12, 2) := by decide +kernel
theorem dX12_message_122 : decode cX12_message 122 = .ok (.goto 15, 3) := by decide +kernel
theorem dX12_message_125 : decode cX12_message 125 = .ok (.iload_n 2, 1) := by decide +kernel
theorem dX12_message_126 : decode cX12_message 126 = .ok (.iconst 3, 1) := by decide +kernel
theorem dX12_message_127 : decode cX12_message 127 = .ok (.if_icmp .ne 8, 3) := by decide +kernel
theorem dX12_message_130 : decode cX12_message 130 = .ok (.bipush 18, 2) := by decide +kernel
theorem dX12_message_132 : decode cX12_message 132 = .ok (.goto 5, 3) := by decide +kernel
theorem dX12_message_135 : decode cX12_message 135 = .ok (.bipush 24, 2) := by decide +kernel
theorem dX12_message_137 : decode cX12_message 137 = .ok (.iload_n 1, 1) := by decide +kernel
theorem dX12_message_138 : decode cX12_message 138 = .ok (.invokevirtual 358, 3) := by decide +kernel
theorem dX12_message_141 : decode cX12_message 141 = .ok (.ireturn, 1) := by decide +kernel
theorem dX12_knows_0 : decode cX12_knows 0 = .ok (.aload_n 0, 1) := by decide +kernel
theorem dX12_knows_1 : decode cX12_knows 1 = .ok (.iconst 0, 1) := by decide +kernel
theorem dX12_knows_2 : decode cX12_knows 2 = .ok (.putfield 70, 3) := by decide +kernel
theorem dX12_knows_5 : decode cX12_knows 5 = .ok (.aload_n 0, 1) := by decide +kernel
theorem dX12_knows_6 : decode cX12_knows 6 = .ok (.aload_n 0, 1) := by decide +kernel
theorem dX12_knows_7 : decode cX12_knows 7 = .ok (.iload_n 1, 1) := by decide +kernel
theorem dX12_knows_8 : decode cX12_knows 8 = .ok (.invokevirtual 355, 3) := by decide +kernel
theorem dX12_knows_11 : decode cX12_knows 11 = .ok (.ifCond .eq 11, 3) := by decide +kernel
theorem dX12_knows_14 : decode cX12_knows 14 = .ok (.aload_n 0, 1) := by decide +kernel
theorem dX12_knows_15 : decode cX12_knows 15 = .ok (.iload_n 2, 1) := by decide +kernel
theorem dX12_knows_16 : decode cX12_knows 16 = .ok (.invokevirtual 355, 3) := by decide +kernel
theorem dX12_knows_19 : decode cX12_knows 19 = .ok (.ifCond .ne 7, 3) := by decide +kernel
theorem dX12_knows_22 : decode cX12_knows 22 = .ok (.iconst 1, 1) := by decide +kernel
theorem dX12_knows_23 : decode cX12_knows 23 = .ok (.goto 4, 3) := by decide +kernel
theorem dX12_knows_26 : decode cX12_knows 26 = .ok (.iconst 0, 1) := by decide +kernel
theorem dX12_knows_27 : decode cX12_knows 27 = .ok (.iconst 1, 1) := by decide +kernel
theorem dX12_knows_28 : decode cX12_knows 28 = .ok (.iconst 0, 1) := by decide +kernel
theorem dX12_knows_29 : decode cX12_knows 29 = .ok (.invokevirtual 140, 3) := by decide +kernel
theorem dX12_knows_32 : decode cX12_knows 32 = .ok (.ifCond .eq 5, 3) := by decide +kernel
theorem dX12_knows_35 : decode cX12_knows 35 = .ok (.iconst 0, 1) := by decide +kernel
theorem dX12_knows_36 : decode cX12_knows 36 = .ok (.ireturn, 1) := by decide +kernel
theorem dX12_knows_37 : decode cX12_knows 37 = .ok (.aload_n 0, 1) := by decide +kernel
theorem dX12_knows_38 : decode cX12_knows 38 = .ok (.getfield 49, 3) := by decide +kernel
theorem dX12_knows_41 : decode cX12_knows 41 = .ok (.iload_n 1, 1) := by decide +kernel
theorem dX12_knows_42 : decode cX12_knows 42 = .ok (.iload_n 2, 1) := by decide +kernel
theorem dX12_knows_43 : decode cX12_knows 43 = .ok (.invokestatic 236, 3) := by decide +kernel
theorem dX12_knows_46 : decode cX12_knows 46 = .ok (.iaload, 1) := by decide +kernel
theorem dX12_knows_47 : decode cX12_knows 47 = .ok (.ireturn, 1) := by decide +kernel
theorem dX12_stable_0 : decode cX12_stable 0 = .ok (.aload_n 0, 1) := by decide +kernel
theorem dX12_stable_1 : decode cX12_stable 1 = .ok (.iconst 0, 1) := by decide +kernel
theorem dX12_stable_2 : decode cX12_stable 2 = .ok (.putfield 70, 3) := by decide +kernel
theorem dX12_stable_5 : decode cX12_stable 5 = .ok (.aload_n 0, 1) := by decide +kernel
theorem dX12_stable_6 : decode cX12_stable 6 = .ok (.aload_n 0, 1) := by decide +kernel
theorem dX12_stable_7 : decode cX12_stable 7 = .ok (.iload_n 1, 1) := by decide +kernel
theorem dX12_stable_8 : decode cX12_stable 8 = .ok (.invokevirtual 355, 3) := by decide +kernel
theorem dX12_stable_11 : decode cX12_stable 11 = .ok (.ifCond .ne 7, 3) := by decide +kernel
theorem dX12_stable_14 : decode cX12_stable 14 = .ok (.iconst 1, 1) := by decide +kernel
theorem dX12_stable_15 : decode cX12_stable 15 = .ok (.goto 4, 3) := by decide +kernel
theorem dX12_stable_18 : decode cX12_stable 18 = .ok (.iconst 0, 1) := by decide +kernel
theorem dX12_stable_19 : decode cX12_stable 19 = .ok (.iconst 1, 1) := by decide +kernel
theorem dX12_stable_20 : decode cX12_stable 20 = .ok (.iconst 0, 1) := by decide +kernel
theorem dX12_stable_21 : decode cX12_stable 21 = .ok (.invokevirtual 140, 3) := by decide +kernel
theorem dX12_stable_24 : decode cX12_stable 24 = .ok (.ifCond .eq 5, 3) := by decide +kernel
theorem dX12_stable_27 : decode cX12_stable 27 = .ok (.iconst 0, 1) := by decide +kernel
theorem dX12_stable_28 : decode cX12_stable 28 = .ok (.ireturn, 1) := by decide +kernel
theorem dX12_stable_29 : decode cX12_stable 29 = .ok (.aload_n 0, 1) := by decide +kernel
theorem dX12_stable_30 : decode cX12_stable 30 = .ok (.aload_n 0, 1) := by decide +kernel
theorem dX12_stable_31 : decode cX12_stable 31 = .ok (.getfield 49, 3) := by decide +kernel
theorem dX12_stable_34 : decode cX12_stable 34 = .ok (.iload_n 1, 1) := by decide +kernel
theorem dX12_stable_35 : decode cX12_stable 35 = .ok (.invokevirtual 258, 3) := by decide +kernel
theorem dX12_stable_38 : decode cX12_stable 38 = .ok (.ireturn, 1) := by decide +kernel
theorem dX12_would_0 : decode cX12_would 0 = .ok (.aload_n 0, 1) := by decide +kernel
theorem dX12_would_1 : decode cX12_would 1 = .ok (.iconst 0, 1) := by decide +kernel
theorem dX12_would_2 : decode cX12_would 2 = .ok (.putfield 70, 3) := by decide +kernel
theorem dX12_would_5 : decode cX12_would 5 = .ok (.aload_n 0, 1) := by decide +kernel
theorem dX12_would_6 : decode cX12_would 6 = .ok (.iload_n 1, 1) := by decide +kernel
theorem dX12_would_7 : decode cX12_would 7 = .ok (.iconst 0, 1) := by decide +kernel
theorem dX12_would_8 : decode cX12_would 8 = .ok (.iconst 5, 1) := by decide +kernel
theorem dX12_would_9 : decode cX12_would 9 = .ok (.invokestatic 104, 3) := by decide +kernel
theorem dX12_would_12 : decode cX12_would 12 = .ok (.ifCond .eq 36, 3) := by decide +kernel
theorem dX12_would_15 : decode cX12_would 15 = .ok (.iload_n 2, 1) := by decide +kernel
theorem dX12_would_16 : decode cX12_would 16 = .ok (.iconst 0, 1) := by decide +kernel
theorem dX12_would_17 : decode cX12_would 17 = .ok (.sipush 9999, 3) := by decide +kernel
theorem dX12_would_20 : decode cX12_would 20 = .ok (.invokestatic 104, 3) := by decide +kernel
theorem dX12_would_23 : decode cX12_would 23 = .ok (.ifCond .eq 25, 3) := by decide +kernel
theorem dX12_would_26 : decode cX12_would 26 = .ok (.iload_n 3, 1) := by decide +kernel
theorem dX12_would_27 : decode cX12_would 27 = .ok (.iconst 0, 1) := by decide +kernel
theorem dX12_would_28 : decode cX12_would 28 = .ok (.sipush 9999, 3) := by decide +kernel
theorem dX12_would_31 : decode cX12_would 31 = .ok (.invokestatic 104, 3) := by decide +kernel
theorem dX12_would_34 : decode cX12_would 34 = .ok (.ifCond .eq 14, 3) := by decide +kernel
theorem dX12_would_37 : decode cX12_would 37 = .ok (.iload 4, 2) := by decide +kernel
theorem dX12_would_39 : decode cX12_would 39 = .ok (.iconst 0, 1) := by decide +kernel
theorem dX12_would_40 : decode cX12_would 40 = .ok (.bipush 6, 2) := by decide +kernel
theorem dX12_would_42 : decode cX12_would 42 = .ok (.invokestatic 104, 3) := by decide +kernel
theorem dX12_would_45 : decode cX12_would 45 = .ok (.ifCond .ne 7, 3) := by decide +kernel
theorem dX12_would_48 : decode cX12_would 48 = .ok (.iconst 1, 1) := by decide +kernel
theorem dX12_would_49 : decode cX12_would 49 = .ok (.goto 4, 3) := by decide +kernel
theorem dX12_would_52 : decode cX12_would 52 = .ok (.iconst 0, 1) := by decide +kernel
theorem dX12_would_53 : decode cX12_would 53 = .ok (.iconst 1, 1) := by decide +kernel
theorem dX12_would_54 : decode cX12_would 54 = .ok (.iconst 1, 1) := by decide +kernel
theorem dX12_would_55 : decode cX12_would 55 = .ok (.invokevirtual 140, 3) := by decide +kernel
theorem dX12_would_58 : decode cX12_would 58 = .ok (.ifCond .eq 5, 3) := by decide +kernel
theorem dX12_would_61 : decode cX12_would 61 = .ok (.iconst 0, 1) := by decide +kernel
theorem dX12_would_62 : decode cX12_would 62 = .ok (.ireturn, 1) := by decide +kernel
theorem dX12_would_63 : decode cX12_would 63 = .ok (.aload_n 0, 1) := by decide +kernel
theorem dX12_would_64 : decode cX12_would 64 = .ok (.iload_n 1, 1) := by decide +kernel
theorem dX12_would_65 : decode cX12_would 65 = .ok (.iload_n 2, 1) := by decide +kernel
theorem dX12_would_66 : decode cX12_would 66 = .ok (.iload_n 3, 1) := by decide +kernel
theorem dX12_would_67 : decode cX12_would 67 = .ok (.iload 4, 2) := by decide +kernel
theorem dX12_would_69 : decode cX12_would 69 = .ok (.invokevirtual 271, 3) := by decide +kernel
theorem dX12_would_72 : decode cX12_would 72 = .ok (.ireturn, 1) := by decide +kernel
theorem dX12_primary_0 : decode cX12_primary 0 = .ok (.aload_n 0, 1) := by decide +kernel
theorem dX12_primary_1 : decode cX12_primary 1 = .ok (.iconst 0, 1) := by decide +kernel
theorem dX12_primary_2 : decode cX12_primary 2 = .ok (.putfield 70, 3) := by decide +kernel
theorem dX12_primary_5 : decode cX12_primary 5 = .ok (.aload_n 0, 1) := by decide +kernel
theorem dX12_primary_6 : decode cX12_primary 6 = .ok (.aload_n 0, 1) := by decide +kernel
theorem dX12_primary_7 : decode cX12_primary 7 = .ok (.getfield 49, 3) := by decide +kernel
theorem dX12_primary_10 : decode cX12_primary 10 = .ok (.invokevirtual 285, 3) := by decide +kernel
theorem dX12_primary_13 : decode cX12_primary 13 = .ok (.ireturn, 1) := by decide +kernel
theorem dX12_missing_0 : decode cX12_missing 0 = .ok (.aload_n 0, 1) := by decide +kernel
theorem dX12_missing_1 : decode cX12_missing 1 = .ok (.iconst 0, 1) := by decide +kernel
theorem dX12_missing_2 : decode cX12_missing 2 = .ok (.putfield 70, 3) := by decide +kernel
theorem dX12_missing_5 : decode cX12_missing 5 = .ok (.aload_n 0, 1) := by decide +kernel
theorem dX12_missing_6 : decode cX12_missing 6 = .ok (.aload_n 0, 1) := by decide +kernel
theorem dX12_missing_7 : decode cX12_missing 7 = .ok (.iload_n 1, 1) := by decide +kernel
theorem dX12_missing_8 : decode cX12_missing 8 = .ok (.invokevirtual 355, 3) := by decide +kernel
theorem dX12_missing_11 : decode cX12_missing 11 = .ok (.ifCond .ne 7, 3) := by decide +kernel
theorem dX12_missing_14 : decode cX12_missing 14 = .ok (.iconst 1, 1) := by decide +kernel
theorem dX12_missing_15 : decode cX12_missing 15 = .ok (.goto 4, 3) := by decide +kernel
theorem dX12_missing_18 : decode cX12_missing 18 = .ok (.iconst 0, 1) := by decide +kernel
theorem dX12_missing_19 : decode cX12_missing 19 = .ok (.iconst 1, 1) := by decide +kernel
theorem dX12_missing_20 : decode cX12_missing 20 = .ok (.iconst 0, 1) := by decide +kernel
theorem dX12_missing_21 : decode cX12_missing 21 = .ok (.invokevirtual 140, 3) := by decide +kernel
theorem dX12_missing_24 : decode cX12_missing 24 = .ok (.ifCond .eq 5, 3) := by decide +kernel
theorem dX12_missing_27 : decode cX12_missing 27 = .ok (.iconst 0, 1) := by decide +kernel
theorem dX12_missing_28 : decode cX12_missing 28 = .ok (.ireturn, 1) := by decide +kernel
theorem dX12_missing_29 : decode cX12_missing 29 = .ok (.aload_n 0, 1) := by decide +kernel
theorem dX12_missing_30 : decode cX12_missing 30 = .ok (.aload_n 0, 1) := by decide +kernel
theorem dX12_missing_31 : decode cX12_missing 31 = .ok (.getfield 49, 3) := by decide +kernel
theorem dX12_missing_34 : decode cX12_missing 34 = .ok (.iload_n 1, 1) := by decide +kernel
theorem dX12_missing_35 : decode cX12_missing 35 = .ok (.invokevirtual 361, 3) := by decide +kernel
theorem dX12_missing_38 : decode cX12_missing 38 = .ok (.ireturn, 1) := by decide +kernel
theorem dX12_lost_0 : decode cX12_lost 0 = .ok (.aload_n 0, 1) := by decide +kernel
theorem dX12_lost_1 : decode cX12_lost 1 = .ok (.iconst 0, 1) := by decide +kernel
theorem dX12_lost_2 : decode cX12_lost 2 = .ok (.putfield 70, 3) := by decide +kernel
theorem dX12_lost_5 : decode cX12_lost 5 = .ok (.aload_n 0, 1) := by decide +kernel
theorem dX12_lost_6 : decode cX12_lost 6 = .ok (.aload_n 0, 1) := by decide +kernel
theorem dX12_lost_7 : decode cX12_lost 7 = .ok (.getfield 49, 3) := by decide +kernel
theorem dX12_lost_10 : decode cX12_lost 10 = .ok (.invokevirtual 285, 3) := by decide +kernel
theorem dX12_lost_13 : decode cX12_lost 13 = .ok (.istore_n 1, 1) := by decide +kernel
theorem dX12_lost_14 : decode cX12_lost 14 = .ok (.iconst 1, 1) := by decide +kernel
theorem dX12_lost_15 : decode cX12_lost 15 = .ok (.aload_n 0, 1) := by decide +kernel
theorem dX12_lost_16 : decode cX12_lost 16 = .ok (.getfield 49, 3) := by decide +kernel
theorem dX12_lost_19 : decode cX12_lost 19 = .ok (.sipush 187, 3) := by decide +kernel
theorem dX12_lost_22 : decode cX12_lost 22 = .ok (.iaload, 1) := by decide +kernel
theorem dX12_lost_23 : decode cX12_lost 23 = .ok (.ishl, 1) := by decide +kernel
theorem dX12_lost_24 : decode cX12_lost 24 = .ok (.iconst 1, 1) := by decide +kernel
theorem dX12_lost_25 : decode cX12_lost 25 = .ok (.isub, 1) := by decide +kernel
theorem dX12_lost_26 : decode cX12_lost 26 = .ok (.istore_n 2, 1) := by decide +kernel
theorem dX12_lost_27 : decode cX12_lost 27 = .ok (.iload_n 1, 1) := by decide +kernel
theorem dX12_lost_28 : decode cX12_lost 28 = .ok (.iconst (-1), 1) := by decide +kernel
theorem dX12_lost_29 : decode cX12_lost 29 = .ok (.if_icmp .ne 5, 3) := by decide +kernel
theorem dX12_lost_32 : decode cX12_lost 32 = .ok (.iconst 0, 1) := by decide +kernel
theorem dX12_lost_33 : decode cX12_lost 33 = .ok (.ireturn, 1) := by decide +kernel
theorem dX12_lost_34 : decode cX12_lost 34 = .ok (.iconst 0, 1) := by decide +kernel
theorem dX12_lost_35 : decode cX12_lost 35 = .ok (.istore_n 3, 1) := by decide +kernel
theorem dX12_lost_36 : decode cX12_lost 36 = .ok (.iload_n 3, 1) := by decide +kernel
theorem dX12_lost_37 : decode cX12_lost 37 = .ok (.aload_n 0, 1) := by decide +kernel
theorem dX12_lost_38 : decode cX12_lost 38 = .ok (.getfield 23, 3) := by decide +kernel
theorem dX12_lost_41 : decode cX12_lost 41 = .ok (.iconst 0, 1) := by decide +kernel
theorem dX12_lost_42 : decode cX12_lost 42 = .ok (.iaload, 1) := by decide +kernel
theorem dX12_lost_43 : decode cX12_lost 43 = .ok (.if_icmp .ge 35, 3) := by decide +kernel
theorem dX12_lost_46 : decode cX12_lost 46 = .ok (.iload_n 2, 1) := by decide +kernel
theorem dX12_lost_47 : decode cX12_lost 47 = .ok (.iload_n 1, 1) := by decide +kernel
theorem dX12_lost_48 : decode cX12_lost 48 = .ok (.iload_n 3, 1) := by decide +kernel
theorem dX12_lost_49 : decode cX12_lost 49 = .ok (.invokestatic 153, 3) := by decide +kernel
theorem dX12_lost_52 : decode cX12_lost 52 = .ok (.ifCond .eq 17, 3) := by decide +kernel
theorem dX12_lost_55 : decode cX12_lost 55 = .ok (.aload_n 0, 1) := by decide +kernel
theorem dX12_lost_56 : decode cX12_lost 56 = .ok (.getfield 49, 3) := by decide +kernel
theorem dX12_lost_59 : decode cX12_lost 59 = .ok (.bipush 12, 2) := by decide +kernel
theorem dX12_lost_61 : decode cX12_lost 61 = .ok (.iload_n 3, 1) := by decide +kernel
theorem dX12_lost_62 : decode cX12_lost 62 = .ok (.iadd, 1) := by decide +kernel
theorem dX12_lost_63 : decode cX12_lost 63 = .ok (.iaload, 1) := by decide +kernel
theorem dX12_lost_64 : decode cX12_lost 64 = .ok (.iconst (-1), 1) := by decide +kernel
theorem dX12_lost_65 : decode cX12_lost 65 = .ok (.ixor, 1) := by decide +kernel
theorem dX12_lost_66 : decode cX12_lost 66 = .ok (.goto 4, 3) := by decide +kernel
theorem dX12_lost_69 : decode cX12_lost 69 = .ok (.iload_n 2, 1) := by decide +kernel
theorem dX12_lost_70 : decode cX12_lost 70 = .ok (.iand, 1) := by decide +kernel
theorem dX12_lost_71 : decode cX12_lost 71 = .ok (.istore_n 2, 1) := by decide +kernel
theorem dX12_lost_72 : decode cX12_lost 72 = .ok (.iinc 3 1, 3) := by decide +kernel
theorem dX12_lost_75 : decode cX12_lost 75 = .ok (.goto (-39), 3) := by decide +kernel
theorem dX12_lost_78 : decode cX12_lost 78 = .ok (.iload_n 2, 1) := by decide +kernel
theorem dX12_lost_79 : decode cX12_lost 79 = .ok (.ireturn, 1) := by decide +kernel
theorem dX12_fall_0 : decode cX12_fall 0 = .ok (.aload_n 0, 1) := by decide +kernel
theorem dX12_fall_1 : decode cX12_fall 1 = .ok (.iconst 0, 1) := by decide +kernel
theorem dX12_fall_2 : decode cX12_fall 2 = .ok (.putfield 70, 3) := by decide +kernel
theorem dX12_fall_5 : decode cX12_fall 5 = .ok (.aload_n 0, 1) := by decide +kernel
theorem dX12_fall_6 : decode cX12_fall 6 = .ok (.getfield 49, 3) := by decide +kernel
theorem dX12_fall_9 : decode cX12_fall 9 = .ok (.sipush 184, 3) := by decide +kernel
theorem dX12_fall_12 : decode cX12_fall 12 = .ok (.iaload, 1) := by decide +kernel
theorem dX12_fall_13 : decode cX12_fall 13 = .ok (.aload_n 0, 1) := by decide +kernel
theorem dX12_fall_14 : decode cX12_fall 14 = .ok (.getfield 49, 3) := by decide +kernel
theorem dX12_fall_17 : decode cX12_fall 17 = .ok (.sipush 183, 3) := by decide +kernel
theorem dX12_fall_20 : decode cX12_fall 20 = .ok (.iaload, 1) := by decide +kernel
theorem dX12_fall_21 : decode cX12_fall 21 = .ok (.iand, 1) := by decide +kernel
theorem dX12_fall_22 : decode cX12_fall 22 = .ok (.istore_n 1, 1) := by decide +kernel
theorem dX12_fall_23 : decode cX12_fall 23 = .ok (.iconst (-1), 1) := by decide +kernel
theorem dX12_fall_24 : decode cX12_fall 24 = .ok (.istore_n 2, 1) := by decide +kernel
theorem dX12_fall_25 : decode cX12_fall 25 = .ok (.iconst 0, 1) := by decide +kernel
theorem dX12_fall_26 : decode cX12_fall 26 = .ok (.istore_n 3, 1) := by decide +kernel
theorem dX12_fall_27 : decode cX12_fall 27 = .ok (.iload_n 3, 1) := by decide +kernel
theorem dX12_fall_28 : decode cX12_fall 28 = .ok (.iconst 1, 1) := by decide +kernel
theorem dX12_fall_29 : decode cX12_fall 29 = .ok (.aload_n 0, 1) := by decide +kernel
theorem dX12_fall_30 : decode cX12_fall 30 = .ok (.getfield 23, 3) := by decide +kernel
theorem dX12_fall_33 : decode cX12_fall 33 = .ok (.iconst 0, 1) := by decide +kernel
theorem dX12_fall_34 : decode cX12_fall 34 = .ok (.iaload, 1) := by decide +kernel
theorem dX12_fall_35 : decode cX12_fall 35 = .ok (.ishl, 1) := by decide +kernel
theorem dX12_fall_36 : decode cX12_fall 36 = .ok (.if_icmp .ge 63, 3) := by decide +kernel
theorem dX12_fall_39 : decode cX12_fall 39 = .ok (.iload_n 3, 1) := by decide +kernel
theorem dX12_fall_40 : decode cX12_fall 40 = .ok (.iload_n 1, 1) := by decide +kernel
theorem dX12_fall_41 : decode cX12_fall 41 = .ok (.iconst (-1), 1) := by decide +kernel
theorem dX12_fall_42 : decode cX12_fall 42 = .ok (.ixor, 1) := by decide +kernel
theorem dX12_fall_43 : decode cX12_fall 43 = .ok (.iand, 1) := by decide +kernel
theorem dX12_fall_44 : decode cX12_fall 44 = .ok (.ifCond .ne 49, 3) := by decide +kernel
theorem dX12_fall_47 : decode cX12_fall 47 = .ok (.iload_n 2, 1) := by decide +kernel
theorem dX12_fall_48 : decode cX12_fall 48 = .ok (.iconst (-1), 1) := by decide +kernel
theorem dX12_fall_49 : decode cX12_fall 49 = .ok (.if_icmp .eq 14, 3) := by decide +kernel
theorem dX12_fall_52 : decode cX12_fall 52 = .ok (.iload_n 3, 1) := by decide +kernel
theorem dX12_fall_53 : decode cX12_fall 53 = .ok (.invokestatic 268, 3) := by decide +kernel
theorem dX12_fall_56 : decode cX12_fall 56 = .ok (.iload_n 2, 1) := by decide +kernel
theorem dX12_fall_57 : decode cX12_fall 57 = .ok (.if_icmp .lt 6, 3) := by decide +kernel
theorem dX12_fall_60 : decode cX12_fall 60 = .ok (.goto 33, 3) := by decide +kernel
theorem dX12_fall_63 : decode cX12_fall 63 = .ok (.aload_n 0, 1) := by decide +kernel
theorem dX12_fall_64 : decode cX12_fall 64 = .ok (.aload_n 0, 1) := by decide +kernel
theorem dX12_fall_65 : decode cX12_fall 65 = .ok (.getfield 49, 3) := by decide +kernel
theorem dX12_fall_68 : decode cX12_fall 68 = .ok (.aload_n 0, 1) := by decide +kernel
theorem dX12_fall_69 : decode cX12_fall 69 = .ok (.getfield 49, 3) := by decide +kernel
theorem dX12_fall_72 : decode cX12_fall 72 = .ok (.sipush 180, 3) := by decide +kernel
theorem dX12_fall_75 : decode cX12_fall 75 = .ok (.iaload, 1) := by decide +kernel
theorem dX12_fall_76 : decode cX12_fall 76 = .ok (.iload_n 1, 1) := by decide +kernel
theorem dX12_fall_77 : decode cX12_fall 77 = .ok (.iload_n 3, 1) := by decide +kernel
theorem dX12_fall_78 : decode cX12_fall 78 = .ok (.iconst (-1), 1) := by decide +kernel
theorem dX12_fall_79 : decode cX12_fall 79 = .ok (.ixor, 1) := by decide +kernel
theorem dX12_fall_80 : decode cX12_fall 80 = .ok (.iand, 1) := by decide +kernel
theorem dX12_fall_81 : decode cX12_fall 81 = .ok (.invokevirtual 281, 3) := by decide +kernel
theorem dX12_fall_84 : decode cX12_fall 84 = .ok (.iconst (-1), 1) := by decide +kernel
theorem dX12_fall_85 : decode cX12_fall 85 = .ok (.if_icmp .ne 8, 3) := by decide +kernel
theorem dX12_fall_88 : decode cX12_fall 88 = .ok (.iload_n 3, 1) := by decide +kernel
theorem dX12_fall_89 : decode cX12_fall 89 = .ok (.invokestatic 268, 3) := by decide +kernel
theorem dX12_fall_92 : decode cX12_fall 92 = .ok (.istore_n 2, 1) := by decide +kernel
theorem dX12_fall_93 : decode cX12_fall 93 = .ok (.iinc 3 1, 3) := by decide +kernel
theorem dX12_fall_96 : decode cX12_fall 96 = .ok (.goto (-69), 3) := by decide +kernel
theorem dX12_fall_99 : decode cX12_fall 99 = .ok (.iload_n 2, 1) := by decide +kernel
theorem dX12_fall_100 : decode cX12_fall 100 = .ok (.ireturn, 1) := by decide +kernel
theorem dX12_primaryIf_0 : decode cX12_primaryIf 0 = .ok (.aload_n 0, 1) := by decide +kernel
theorem dX12_primaryIf_1 : decode cX12_primaryIf 1 = .ok (.aload_n 0, 1) := by decide +kernel
theorem dX12_primaryIf_2 : decode cX12_primaryIf 2 = .ok (.getfield 49, 3) := by decide +kernel
theorem dX12_primaryIf_5 : decode cX12_primaryIf 5 = .ok (.iload_n 1, 1) := by decide +kernel
theorem dX12_primaryIf_6 : decode cX12_primaryIf 6 = .ok (.aload_n 0, 1) := by decide +kernel
theorem dX12_primaryIf_7 : decode cX12_primaryIf 7 = .ok (.getfield 49, 3) := by decide +kernel
theorem dX12_primaryIf_10 : decode cX12_primaryIf 10 = .ok (.sipush 184, 3) := by decide +kernel
theorem dX12_primaryIf_13 : decode cX12_primaryIf 13 = .ok (.iaload, 1) := by decide +kernel
theorem dX12_primaryIf_14 : decode cX12_primaryIf 14 = .ok (.aload_n 0, 1) := by decide +kernel
theorem dX12_primaryIf_15 : decode cX12_primaryIf 15 = .ok (.getfield 49, 3) := by decide +kernel
theorem dX12_primaryIf_18 : decode cX12_primaryIf 18 = .ok (.sipush 183, 3) := by decide +kernel
theorem dX12_primaryIf_21 : decode cX12_primaryIf 21 = .ok (.iaload, 1) := by decide +kernel
theorem dX12_primaryIf_22 : decode cX12_primaryIf 22 = .ok (.iand, 1) := by decide +kernel
theorem dX12_primaryIf_23 : decode cX12_primaryIf 23 = .ok (.invokevirtual 281, 3) := by decide +kernel
theorem dX12_primaryIf_26 : decode cX12_primaryIf 26 = .ok (.ireturn, 1) := by decide +kernel
theorem dX12_splits_0 : decode cX12_splits 0 = .ok (.aload_n 0, 1) := by decide +kernel
theorem dX12_splits_1 : decode cX12_splits 1 = .ok (.iconst 0, 1) := by decide +kernel
theorem dX12_splits_2 : decode cX12_splits 2 = .ok (.putfield 70, 3) := by decide +kernel
theorem dX12_splits_5 : decode cX12_splits 5 = .ok (.iconst 0, 1) := by decide +kernel
theorem dX12_splits_6 : decode cX12_splits 6 = .ok (.istore_n 1, 1) := by decide +kernel
theorem dX12_splits_7 : decode cX12_splits 7 = .ok (.iconst 0, 1) := by decide +kernel
theorem dX12_splits_8 : decode cX12_splits 8 = .ok (.istore_n 2, 1) := by decide +kernel
theorem dX12_splits_9 : decode cX12_splits 9 = .ok (.iload_n 2, 1) := by decide +kernel
theorem dX12_splits_10 : decode cX12_splits 10 = .ok (.iconst 1, 1) := by decide +kernel
theorem dX12_splits_11 : decode cX12_splits 11 = .ok (.aload_n 0, 1) := by decide +kernel
theorem dX12_splits_12 : decode cX12_splits 12 = .ok (.getfield 23, 3) := by decide +kernel
theorem dX12_splits_15 : decode cX12_splits 15 = .ok (.iconst 0, 1) := by decide +kernel
theorem dX12_splits_16 : decode cX12_splits 16 = .ok (.iaload, 1) := by decide +kernel
theorem dX12_splits_17 : decode cX12_splits 17 = .ok (.ishl, 1) := by decide +kernel
theorem dX12_splits_18 : decode cX12_splits 18 = .ok (.if_icmp .ge 26, 3) := by decide +kernel
theorem dX12_splits_21 : decode cX12_splits 21 = .ok (.iload_n 1, 1) := by decide +kernel
theorem dX12_splits_22 : decode cX12_splits 22 = .ok (.aload_n 0, 1) := by decide +kernel
theorem dX12_splits_23 : decode cX12_splits 23 = .ok (.iload_n 2, 1) := by decide +kernel
theorem dX12_splits_24 : decode cX12_splits 24 = .ok (.invokevirtual 364, 3) := by decide +kernel
theorem dX12_splits_27 : decode cX12_splits 27 = .ok (.iconst (-1), 1) := by decide +kernel
theorem dX12_splits_28 : decode cX12_splits 28 = .ok (.if_icmp .ne 7, 3) := by decide +kernel
theorem dX12_splits_31 : decode cX12_splits 31 = .ok (.iconst 1, 1) := by decide +kernel
theorem dX12_splits_32 : decode cX12_splits 32 = .ok (.goto 4, 3) := by decide +kernel
theorem dX12_splits_35 : decode cX12_splits 35 = .ok (.iconst 0, 1) := by decide +kernel
theorem dX12_splits_36 : decode cX12_splits 36 = .ok (.iadd, 1) := by decide +kernel
theorem dX12_splits_37 : decode cX12_splits 37 = .ok (.istore_n 1, 1) := by decide +kernel
theorem dX12_splits_38 : decode cX12_splits 38 = .ok (.iinc 2 1, 3) := by decide +kernel
theorem dX12_splits_41 : decode cX12_splits 41 = .ok (.goto (-32), 3) := by decide +kernel
theorem dX12_splits_44 : decode cX12_splits 44 = .ok (.iload_n 1, 1) := by decide +kernel
theorem dX12_splits_45 : decode cX12_splits 45 = .ok (.ireturn, 1) := by decide +kernel
theorem dX12_hasToTell_0 : decode cX12_hasToTell 0 = .ok (.iconst 0, 1) := by decide +kernel
theorem dX12_hasToTell_1 : decode cX12_hasToTell 1 = .ok (.istore_n 2, 1) := by decide +kernel
theorem dX12_hasToTell_2 : decode cX12_hasToTell 2 = .ok (.iload_n 2, 1) := by decide +kernel
theorem dX12_hasToTell_3 : decode cX12_hasToTell 3 = .ok (.aload_n 0, 1) := by decide +kernel
theorem dX12_hasToTell_4 : decode cX12_hasToTell 4 = .ok (.getfield 23, 3) := by decide +kernel
theorem dX12_hasToTell_7 : decode cX12_hasToTell 7 = .ok (.iconst 0, 1) := by decide +kernel
theorem dX12_hasToTell_8 : decode cX12_hasToTell 8 = .ok (.iaload, 1) := by decide +kernel
theorem dX12_hasToTell_9 : decode cX12_hasToTell 9 = .ok (.if_icmp .ge 63, 3) := by decide +kernel
theorem dX12_hasToTell_12 : decode cX12_hasToTell 12 = .ok (.aload_n 0, 1) := by decide +kernel
theorem dX12_hasToTell_13 : decode cX12_hasToTell 13 = .ok (.getfield 49, 3) := by decide +kernel
theorem dX12_hasToTell_16 : decode cX12_hasToTell 16 = .ok (.iload_n 2, 1) := by decide +kernel
theorem dX12_hasToTell_17 : decode cX12_hasToTell 17 = .ok (.invokestatic 243, 3) := by decide +kernel
theorem dX12_hasToTell_20 : decode cX12_hasToTell 20 = .ok (.ifCond .eq 46, 3) := by decide +kernel
theorem dX12_hasToTell_23 : decode cX12_hasToTell 23 = .ok (.aload_n 0, 1) := by decide +kernel
theorem dX12_hasToTell_24 : decode cX12_hasToTell 24 = .ok (.getfield 49, 3) := by decide +kernel
theorem dX12_hasToTell_27 : decode cX12_hasToTell 27 = .ok (.sipush 180, 3) := by decide +kernel
theorem dX12_hasToTell_30 : decode cX12_hasToTell 30 = .ok (.iaload, 1) := by decide +kernel
theorem dX12_hasToTell_31 : decode cX12_hasToTell 31 = .ok (.iload_n 1, 1) := by decide +kernel
theorem dX12_hasToTell_32 : decode cX12_hasToTell 32 = .ok (.iload_n 2, 1) := by decide +kernel
theorem dX12_hasToTell_33 : decode cX12_hasToTell 33 = .ok (.invokestatic 251, 3) := by decide +kernel
theorem dX12_hasToTell_36 : decode cX12_hasToTell 36 = .ok (.ifCond .eq 30, 3) := by decide +kernel
theorem dX12_hasToTell_39 : decode cX12_hasToTell 39 = .ok (.aload_n 0, 1) := by decide +kernel
theorem dX12_hasToTell_40 : decode cX12_hasToTell 40 = .ok (.getfield 49, 3) := by decide +kernel
theorem dX12_hasToTell_43 : decode cX12_hasToTell 43 = .ok (.bipush 12, 2) := by decide +kernel
theorem dX12_hasToTell_45 : decode cX12_hasToTell 45 = .ok (.iload_n 1, 1) := by decide +kernel
theorem dX12_hasToTell_46 : decode cX12_hasToTell 46 = .ok (.iadd, 1) := by decide +kernel
theorem dX12_hasToTell_47 : decode cX12_hasToTell 47 = .ok (.iaload, 1) := by decide +kernel
theorem dX12_hasToTell_48 : decode cX12_hasToTell 48 = .ok (.aload_n 0, 1) := by decide +kernel
theorem dX12_hasToTell_49 : decode cX12_hasToTell 49 = .ok (.getfield 49, 3) := by decide +kernel
theorem dX12_hasToTell_52 : decode cX12_hasToTell 52 = .ok (.iload_n 2, 1) := by decide +kernel
theorem dX12_hasToTell_53 : decode cX12_hasToTell 53 = .ok (.iload_n 1, 1) := by decide +kernel
theorem dX12_hasToTell_54 : decode cX12_hasToTell 54 = .ok (.invokestatic 236, 3) := by decide +kernel
theorem dX12_hasToTell_57 : decode cX12_hasToTell 57 = .ok (.iaload, 1) := by decide +kernel
theorem dX12_hasToTell_58 : decode cX12_hasToTell 58 = .ok (.iconst (-1), 1) := by decide +kernel
theorem dX12_hasToTell_59 : decode cX12_hasToTell 59 = .ok (.ixor, 1) := by decide +kernel
theorem dX12_hasToTell_60 : decode cX12_hasToTell 60 = .ok (.iand, 1) := by decide +kernel
theorem dX12_hasToTell_61 : decode cX12_hasToTell 61 = .ok (.ifCond .eq 5, 3) := by decide +kernel
theorem dX12_hasToTell_64 : decode cX12_hasToTell 64 = .ok (.iconst 1, 1) := by decide +kernel
theorem dX12_hasToTell_65 : decode cX12_hasToTell 65 = .ok (.ireturn, 1) := by decide +kernel
theorem dX12_hasToTell_66 : decode cX12_hasToTell 66 = .ok (.iinc 2 1, 3) := by decide +kernel
theorem dX12_hasToTell_69 : decode cX12_hasToTell 69 = .ok (.goto (-67), 3) := by decide +kernel
theorem dX12_hasToTell_72 : decode cX12_hasToTell 72 = .ok (.iconst 0, 1) := by decide +kernel
theorem dX12_hasToTell_73 : decode cX12_hasToTell 73 = .ok (.ireturn, 1) := by decide +kernel
theorem dX12_tells_0 : decode cX12_tells 0 = .ok (.aload_n 0, 1) := by decide +kernel
theorem dX12_tells_1 : decode cX12_tells 1 = .ok (.iconst 0, 1) := by decide +kernel
theorem dX12_tells_2 : decode cX12_tells 2 = .ok (.putfield 70, 3) := by decide +kernel
theorem dX12_tells_5 : decode cX12_tells 5 = .ok (.iconst 0, 1) := by decide +kernel
theorem dX12_tells_6 : decode cX12_tells 6 = .ok (.istore_n 1, 1) := by decide +kernel
theorem dX12_tells_7 : decode cX12_tells 7 = .ok (.iconst 0, 1) := by decide +kernel
theorem dX12_tells_8 : decode cX12_tells 8 = .ok (.istore_n 2, 1) := by decide +kernel
theorem dX12_tells_9 : decode cX12_tells 9 = .ok (.iload_n 2, 1) := by decide +kernel
theorem dX12_tells_10 : decode cX12_tells 10 = .ok (.aload_n 0, 1) := by decide +kernel
theorem dX12_tells_11 : decode cX12_tells 11 = .ok (.getfield 23, 3) := by decide +kernel
theorem dX12_tells_14 : decode cX12_tells 14 = .ok (.iconst 0, 1) := by decide +kernel
theorem dX12_tells_15 : decode cX12_tells 15 = .ok (.iaload, 1) := by decide +kernel
theorem dX12_tells_16 : decode cX12_tells 16 = .ok (.if_icmp .ge 36, 3) := by decide +kernel
theorem dX12_tells_19 : decode cX12_tells 19 = .ok (.iload_n 1, 1) := by decide +kernel
theorem dX12_tells_20 : decode cX12_tells 20 = .ok (.aload_n 0, 1) := by decide +kernel
theorem dX12_tells_21 : decode cX12_tells 21 = .ok (.getfield 49, 3) := by decide +kernel
theorem dX12_tells_24 : decode cX12_tells 24 = .ok (.iload_n 2, 1) := by decide +kernel
theorem dX12_tells_25 : decode cX12_tells 25 = .ok (.invokestatic 243, 3) := by decide +kernel
theorem dX12_tells_28 : decode cX12_tells 28 = .ok (.ifCond .eq 15, 3) := by decide +kernel
theorem dX12_tells_31 : decode cX12_tells 31 = .ok (.aload_n 0, 1) := by decide +kernel
theorem dX12_tells_32 : decode cX12_tells 32 = .ok (.iload_n 2, 1) := by decide +kernel
theorem dX12_tells_33 : decode cX12_tells 33 = .ok (.invokevirtual 367, 3) := by decide +kernel
theorem dX12_tells_36 : decode cX12_tells 36 = .ok (.ifCond .eq 7, 3) := by decide +kernel
theorem dX12_tells_39 : decode cX12_tells 39 = .ok (.iconst 1, 1) := by decide +kernel
theorem dX12_tells_40 : decode cX12_tells 40 = .ok (.goto 4, 3) := by decide +kernel
theorem dX12_tells_43 : decode cX12_tells 43 = .ok (.iconst 0, 1) := by decide +kernel
theorem dX12_tells_44 : decode cX12_tells 44 = .ok (.iadd, 1) := by decide +kernel
theorem dX12_tells_45 : decode cX12_tells 45 = .ok (.istore_n 1, 1) := by decide +kernel
theorem dX12_tells_46 : decode cX12_tells 46 = .ok (.iinc 2 1, 3) := by decide +kernel
theorem dX12_tells_49 : decode cX12_tells 49 = .ok (.goto (-40), 3) := by decide +kernel
theorem dX12_tells_52 : decode cX12_tells 52 = .ok (.iload_n 1, 1) := by decide +kernel
theorem dX12_tells_53 : decode cX12_tells 53 = .ok (.ireturn, 1) := by decide +kernel
theorem dX12_next_0 : decode cX12_next 0 = .ok (.aload_n 0, 1) := by decide +kernel
theorem dX12_next_1 : decode cX12_next 1 = .ok (.iconst 0, 1) := by decide +kernel
theorem dX12_next_2 : decode cX12_next 2 = .ok (.putfield 70, 3) := by decide +kernel
theorem dX12_next_5 : decode cX12_next 5 = .ok (.aload_n 0, 1) := by decide +kernel
theorem dX12_next_6 : decode cX12_next 6 = .ok (.aload_n 0, 1) := by decide +kernel
theorem dX12_next_7 : decode cX12_next 7 = .ok (.iload_n 1, 1) := by decide +kernel
theorem dX12_next_8 : decode cX12_next 8 = .ok (.invokevirtual 355, 3) := by decide +kernel
theorem dX12_next_11 : decode cX12_next 11 = .ok (.ifCond .ne 7, 3) := by decide +kernel
theorem dX12_next_14 : decode cX12_next 14 = .ok (.iconst 1, 1) := by decide +kernel
theorem dX12_next_15 : decode cX12_next 15 = .ok (.goto 4, 3) := by decide +kernel
theorem dX12_next_18 : decode cX12_next 18 = .ok (.iconst 0, 1) := by decide +kernel
theorem dX12_next_19 : decode cX12_next 19 = .ok (.iconst 1, 1) := by decide +kernel
theorem dX12_next_20 : decode cX12_next 20 = .ok (.iconst 0, 1) := by decide +kernel
theorem dX12_next_21 : decode cX12_next 21 = .ok (.invokevirtual 140, 3) := by decide +kernel
theorem dX12_next_24 : decode cX12_next 24 = .ok (.ifCond .eq 5, 3) := by decide +kernel
theorem dX12_next_27 : decode cX12_next 27 = .ok (.iconst 0, 1) := by decide +kernel
theorem dX12_next_28 : decode cX12_next 28 = .ok (.ireturn, 1) := by decide +kernel
theorem dX12_next_29 : decode cX12_next 29 = .ok (.aload_n 0, 1) := by decide +kernel
theorem dX12_next_30 : decode cX12_next 30 = .ok (.aload_n 0, 1) := by decide +kernel
theorem dX12_next_31 : decode cX12_next 31 = .ok (.getfield 49, 3) := by decide +kernel
theorem dX12_next_34 : decode cX12_next 34 = .ok (.iload_n 1, 1) := by decide +kernel
theorem dX12_next_35 : decode cX12_next 35 = .ok (.iconst 0, 1) := by decide +kernel
theorem dX12_next_36 : decode cX12_next 36 = .ok (.invokevirtual 254, 3) := by decide +kernel
theorem dX12_next_39 : decode cX12_next 39 = .ok (.ireturn, 1) := by decide +kernel
theorem dX12_held_0 : decode cX12_held 0 = .ok (.aload_n 0, 1) := by decide +kernel
theorem dX12_held_1 : decode cX12_held 1 = .ok (.iconst 0, 1) := by decide +kernel
theorem dX12_held_2 : decode cX12_held 2 = .ok (.putfield 70, 3) := by decide +kernel
theorem dX12_held_5 : decode cX12_held 5 = .ok (.aload_n 0, 1) := by decide +kernel
theorem dX12_held_6 : decode cX12_held 6 = .ok (.aload_n 0, 1) := by decide +kernel
theorem dX12_held_7 : decode cX12_held 7 = .ok (.iload_n 1, 1) := by decide +kernel
theorem dX12_held_8 : decode cX12_held 8 = .ok (.invokevirtual 355, 3) := by decide +kernel
theorem dX12_held_11 : decode cX12_held 11 = .ok (.ifCond .ne 7, 3) := by decide +kernel
theorem dX12_held_14 : decode cX12_held 14 = .ok (.iconst 1, 1) := by decide +kernel
theorem dX12_held_15 : decode cX12_held 15 = .ok (.goto 4, 3) := by decide +kernel
theorem dX12_held_18 : decode cX12_held 18 = .ok (.iconst 0, 1) := by decide +kernel
theorem dX12_held_19 : decode cX12_held 19 = .ok (.iconst 1, 1) := by decide +kernel
theorem dX12_held_20 : decode cX12_held 20 = .ok (.iconst 0, 1) := by decide +kernel
theorem dX12_held_21 : decode cX12_held 21 = .ok (.invokevirtual 140, 3) := by decide +kernel
theorem dX12_held_24 : decode cX12_held 24 = .ok (.ifCond .ne 21, 3) := by decide +kernel
theorem dX12_held_27 : decode cX12_held 27 = .ok (.aload_n 0, 1) := by decide +kernel
theorem dX12_held_28 : decode cX12_held 28 = .ok (.iload_n 2, 1) := by decide +kernel
theorem dX12_held_29 : decode cX12_held 29 = .ok (.ifCond .ge 7, 3) := by decide +kernel
theorem dX12_held_32 : decode cX12_held 32 = .ok (.iconst 1, 1) := by decide +kernel
theorem dX12_held_33 : decode cX12_held 33 = .ok (.goto 4, 3) := by decide +kernel
theorem dX12_held_36 : decode cX12_held 36 = .ok (.iconst 0, 1) := by decide +kernel
theorem dX12_held_37 : decode cX12_held 37 = .ok (.iconst 2, 1) := by decide +kernel
theorem dX12_held_38 : decode cX12_held 38 = .ok (.iconst 1, 1) := by decide +kernel
theorem dX12_held_39 : decode cX12_held 39 = .ok (.invokevirtual 140, 3) := by decide +kernel
theorem dX12_held_42 : decode cX12_held 42 = .ok (.ifCond .eq 5, 3) := by decide +kernel
theorem dX12_held_45 : decode cX12_held 45 = .ok (.iconst 0, 1) := by decide +kernel
theorem dX12_held_46 : decode cX12_held 46 = .ok (.ireturn, 1) := by decide +kernel
theorem dX12_held_47 : decode cX12_held 47 = .ok (.iload_n 2, 1) := by decide +kernel
theorem dX12_held_48 : decode cX12_held 48 = .ok (.aload_n 0, 1) := by decide +kernel
theorem dX12_held_49 : decode cX12_held 49 = .ok (.getfield 49, 3) := by decide +kernel
theorem dX12_held_52 : decode cX12_held 52 = .ok (.bipush 30, 2) := by decide +kernel
theorem dX12_held_54 : decode cX12_held 54 = .ok (.iload_n 1, 1) := by decide +kernel
theorem dX12_held_55 : decode cX12_held 55 = .ok (.iadd, 1) := by decide +kernel
theorem dX12_held_56 : decode cX12_held 56 = .ok (.iaload, 1) := by decide +kernel
theorem dX12_held_57 : decode cX12_held 57 = .ok (.if_icmp .ge 20, 3) := by decide +kernel
theorem dX12_held_60 : decode cX12_held 60 = .ok (.aload_n 0, 1) := by decide +kernel
theorem dX12_held_61 : decode cX12_held 61 = .ok (.getfield 49, 3) := by decide +kernel
theorem dX12_held_64 : decode cX12_held 64 = .ok (.bipush 72, 2) := by decide +kernel
theorem dX12_held_66 : decode cX12_held 66 = .ok (.bipush 8, 2) := by decide +kernel
theorem dX12_held_68 : decode cX12_held 68 = .ok (.iload_n 1, 1) := by decide +kernel
theorem dX12_held_69 : decode cX12_held 69 = .ok (.imul, 1) := by decide +kernel
theorem dX12_held_70 : decode cX12_held 70 = .ok (.iadd, 1) := by decide +kernel
theorem dX12_held_71 : decode cX12_held 71 = .ok (.iload_n 2, 1) := by decide +kernel
theorem dX12_held_72 : decode cX12_held 72 = .ok (.iadd, 1) := by decide +kernel
theorem dX12_held_73 : decode cX12_held 73 = .ok (.iaload, 1) := by decide +kernel
theorem dX12_held_74 : decode cX12_held 74 = .ok (.goto 4, 3) := by decide +kernel
theorem dX12_held_77 : decode cX12_held 77 = .ok (.iconst (-1), 1) := by decide +kernel
theorem dX12_held_78 : decode cX12_held 78 = .ok (.ireturn, 1) := by decide +kernel
theorem dX12_agreeBy_0 : decode cX12_agreeBy 0 = .ok (.aload_n 0, 1) := by decide +kernel
theorem dX12_agreeBy_1 : decode cX12_agreeBy 1 = .ok (.aload_n 1, 1) := by decide +kernel
theorem dX12_agreeBy_2 : decode cX12_agreeBy 2 = .ok (.invokevirtual 289, 3) := by decide +kernel
theorem dX12_agreeBy_5 : decode cX12_agreeBy 5 = .ok (.istore_n 2, 1) := by decide +kernel
theorem dX12_agreeBy_6 : decode cX12_agreeBy 6 = .ok (.iload_n 2, 1) := by decide +kernel
theorem dX12_agreeBy_7 : decode cX12_agreeBy 7 = .ok (.ifCond .ne 5, 3) := by decide +kernel
theorem dX12_agreeBy_10 : decode cX12_agreeBy 10 = .ok (.iconst 1, 1) := by decide +kernel
theorem dX12_agreeBy_11 : decode cX12_agreeBy 11 = .ok (.ireturn, 1) := by decide +kernel
theorem dX12_agreeBy_12 : decode cX12_agreeBy 12 = .ok (.aload_n 0, 1) := by decide +kernel
theorem dX12_agreeBy_13 : decode cX12_agreeBy 13 = .ok (.aload_n 1, 1) := by decide +kernel
theorem dX12_agreeBy_14 : decode cX12_agreeBy 14 = .ok (.iload_n 2, 1) := by decide +kernel
theorem dX12_agreeBy_15 : decode cX12_agreeBy 15 = .ok (.invokevirtual 299, 3) := by decide +kernel
theorem dX12_agreeBy_18 : decode cX12_agreeBy 18 = .ok (.iconst 1, 1) := by decide +kernel
theorem dX12_agreeBy_19 : decode cX12_agreeBy 19 = .ok (.istore_n 3, 1) := by decide +kernel
theorem dX12_agreeBy_20 : decode cX12_agreeBy 20 = .ok (.iconst 0, 1) := by decide +kernel
theorem dX12_agreeBy_21 : decode cX12_agreeBy 21 = .ok (.istore 4, 2) := by decide +kernel
theorem dX12_agreeBy_23 : decode cX12_agreeBy 23 = .ok (.iload 4, 2) := by decide +kernel
theorem dX12_agreeBy_25 : decode cX12_agreeBy 25 = .ok (.aload_n 0, 1) := by decide +kernel
theorem dX12_agreeBy_26 : decode cX12_agreeBy 26 = .ok (.getfield 23, 3) := by decide +kernel
theorem dX12_agreeBy_29 : decode cX12_agreeBy 29 = .ok (.iconst 0, 1) := by decide +kernel
theorem dX12_agreeBy_30 : decode cX12_agreeBy 30 = .ok (.iaload, 1) := by decide +kernel
theorem dX12_agreeBy_31 : decode cX12_agreeBy 31 = .ok (.if_icmp .ge 56, 3) := by decide +kernel
theorem dX12_agreeBy_34 : decode cX12_agreeBy 34 = .ok (.iload_n 3, 1) := by decide +kernel
theorem dX12_agreeBy_35 : decode cX12_agreeBy 35 = .ok (.iload_n 2, 1) := by decide +kernel
theorem dX12_agreeBy_36 : decode cX12_agreeBy 36 = .ok (.iload 4, 2) := by decide +kernel
theorem dX12_agreeBy_38 : decode cX12_agreeBy 38 = .ok (.invokestatic 153, 3) := by decide +kernel
theorem dX12_agreeBy_41 : decode cX12_agreeBy 41 = .ok (.ifCond .eq 33, 3) := by decide +kernel
theorem dX12_agreeBy_44 : decode cX12_agreeBy 44 = .ok (.aload_n 1, 1) := by decide +kernel
theorem dX12_agreeBy_45 : decode cX12_agreeBy 45 = .ok (.sipush 188, 3) := by decide +kernel
theorem dX12_agreeBy_48 : decode cX12_agreeBy 48 = .ok (.iconst 2, 1) := by decide +kernel
theorem dX12_agreeBy_49 : decode cX12_agreeBy 49 = .ok (.iload 4, 2) := by decide +kernel
theorem dX12_agreeBy_51 : decode cX12_agreeBy 51 = .ok (.imul, 1) := by decide +kernel
theorem dX12_agreeBy_52 : decode cX12_agreeBy 52 = .ok (.iadd, 1) := by decide +kernel
theorem dX12_agreeBy_53 : decode cX12_agreeBy 53 = .ok (.invokestatic 228, 3) := by decide +kernel
theorem dX12_agreeBy_56 : decode cX12_agreeBy 56 = .ok (.aload_n 1, 1) := by decide +kernel
theorem dX12_agreeBy_57 : decode cX12_agreeBy 57 = .ok (.sipush 188, 3) := by decide +kernel
theorem dX12_agreeBy_60 : decode cX12_agreeBy 60 = .ok (.iconst 2, 1) := by decide +kernel
theorem dX12_agreeBy_61 : decode cX12_agreeBy 61 = .ok (.iload_n 2, 1) := by decide +kernel
theorem dX12_agreeBy_62 : decode cX12_agreeBy 62 = .ok (.invokestatic 302, 3) := by decide +kernel
theorem dX12_agreeBy_65 : decode cX12_agreeBy 65 = .ok (.imul, 1) := by decide +kernel
theorem dX12_agreeBy_66 : decode cX12_agreeBy 66 = .ok (.iadd, 1) := by decide +kernel
theorem dX12_agreeBy_67 : decode cX12_agreeBy 67 = .ok (.invokestatic 228, 3) := by decide +kernel
theorem dX12_agreeBy_70 : decode cX12_agreeBy 70 = .ok (.lcmp, 1) := by decide +kernel
theorem dX12_agreeBy_71 : decode cX12_agreeBy 71 = .ok (.ifCond .ne 7, 3) := by decide +kernel
theorem dX12_agreeBy_74 : decode cX12_agreeBy 74 = .ok (.iconst 1, 1) := by decide +kernel
theorem dX12_agreeBy_75 : decode cX12_agreeBy 75 = .ok (.goto 4, 3) := by decide +kernel
theorem dX12_agreeBy_78 : decode cX12_agreeBy 78 = .ok (.iconst 0, 1) := by decide +kernel
theorem dX12_agreeBy_79 : decode cX12_agreeBy 79 = .ok (.iand, 1) := by decide +kernel
theorem dX12_agreeBy_80 : decode cX12_agreeBy 80 = .ok (.istore_n 3, 1) := by decide +kernel
theorem dX12_agreeBy_81 : decode cX12_agreeBy 81 = .ok (.iinc 4 1, 3) := by decide +kernel
theorem dX12_agreeBy_84 : decode cX12_agreeBy 84 = .ok (.goto (-61), 3) := by decide +kernel
theorem dX12_agreeBy_87 : decode cX12_agreeBy 87 = .ok (.iload_n 3, 1) := by decide +kernel
theorem dX12_agreeBy_88 : decode cX12_agreeBy 88 = .ok (.ireturn, 1) := by decide +kernel
theorem dX12_agree_0 : decode cX12_agree 0 = .ok (.aload_n 0, 1) := by decide +kernel
theorem dX12_agree_1 : decode cX12_agree 1 = .ok (.iconst 0, 1) := by decide +kernel
theorem dX12_agree_2 : decode cX12_agree 2 = .ok (.putfield 70, 3) := by decide +kernel
theorem dX12_agree_5 : decode cX12_agree 5 = .ok (.aload_n 0, 1) := by decide +kernel
theorem dX12_agree_6 : decode cX12_agree 6 = .ok (.getfield 49, 3) := by decide +kernel
theorem dX12_agree_9 : decode cX12_agree 9 = .ok (.aload_n 0, 1) := by decide +kernel
theorem dX12_agree_10 : decode cX12_agree 10 = .ok (.getfield 52, 3) := by decide +kernel
theorem dX12_agree_13 : decode cX12_agree 13 = .ok (.invokestatic 351, 3) := by decide +kernel
theorem dX12_agree_16 : decode cX12_agree 16 = .ok (.aload_n 0, 1) := by decide +kernel
theorem dX12_agree_17 : decode cX12_agree 17 = .ok (.aload_n 0, 1) := by decide +kernel
theorem dX12_agree_18 : decode cX12_agree 18 = .ok (.getfield 52, 3) := by decide +kernel
theorem dX12_agree_21 : decode cX12_agree 21 = .ok (.invokevirtual 370, 3) := by decide +kernel
theorem dX12_agree_24 : decode cX12_agree 24 = .ok (.ireturn, 1) := by decide +kernel
theorem dX12_isSo_0 : decode cX12_isSo 0 = .ok (.aload_n 0, 1) := by decide +kernel
theorem dX12_isSo_1 : decode cX12_isSo 1 = .ok (.iload_n 1, 1) := by decide +kernel
theorem dX12_isSo_2 : decode cX12_isSo 2 = .ok (.invokevirtual 364, 3) := by decide +kernel
theorem dX12_isSo_5 : decode cX12_isSo 5 = .ok (.istore_n 2, 1) := by decide +kernel
theorem dX12_isSo_6 : decode cX12_isSo 6 = .ok (.iconst 0, 1) := by decide +kernel
theorem dX12_isSo_7 : decode cX12_isSo 7 = .ok (.istore_n 3, 1) := by decide +kernel
theorem dX12_isSo_8 : decode cX12_isSo 8 = .ok (.iload_n 3, 1) := by decide +kernel
theorem dX12_isSo_9 : decode cX12_isSo 9 = .ok (.aload_n 0, 1) := by decide +kernel
theorem dX12_isSo_10 : decode cX12_isSo 10 = .ok (.getfield 160, 3) := by decide +kernel
theorem dX12_isSo_13 : decode cX12_isSo 13 = .ok (.if_icmp .ge 47, 3) := by decide +kernel
theorem dX12_isSo_16 : decode cX12_isSo 16 = .ok (.iload_n 2, 1) := by decide +kernel
theorem dX12_isSo_17 : decode cX12_isSo 17 = .ok (.iconst (-1), 1) := by decide +kernel
theorem dX12_isSo_18 : decode cX12_isSo 18 = .ok (.if_icmp .eq 22, 3) := by decide +kernel
theorem dX12_isSo_21 : decode cX12_isSo 21 = .ok (.iload_n 2, 1) := by decide +kernel
theorem dX12_isSo_22 : decode cX12_isSo 22 = .ok (.aload_n 0, 1) := by decide +kernel
theorem dX12_isSo_23 : decode cX12_isSo 23 = .ok (.getfield 34, 3) := by decide +kernel
theorem dX12_isSo_26 : decode cX12_isSo 26 = .ok (.iload_n 3, 1) := by decide +kernel
theorem dX12_isSo_27 : decode cX12_isSo 27 = .ok (.aaload, 1) := by decide +kernel
theorem dX12_isSo_28 : decode cX12_isSo 28 = .ok (.iconst 0, 1) := by decide +kernel
theorem dX12_isSo_29 : decode cX12_isSo 29 = .ok (.iaload, 1) := by decide +kernel
theorem dX12_isSo_30 : decode cX12_isSo 30 = .ok (.invokestatic 153, 3) := by decide +kernel
theorem dX12_isSo_33 : decode cX12_isSo 33 = .ok (.ifCond .eq 7, 3) := by decide +kernel
theorem dX12_isSo_36 : decode cX12_isSo 36 = .ok (.iconst 1, 1) := by decide +kernel
theorem dX12_isSo_37 : decode cX12_isSo 37 = .ok (.goto 4, 3) := by decide +kernel
theorem dX12_isSo_40 : decode cX12_isSo 40 = .ok (.iconst 0, 1) := by decide +kernel
theorem dX12_isSo_41 : decode cX12_isSo 41 = .ok (.aload_n 0, 1) := by decide +kernel
theorem dX12_isSo_42 : decode cX12_isSo 42 = .ok (.getfield 34, 3) := by decide +kernel
theorem dX12_isSo_45 : decode cX12_isSo 45 = .ok (.iload_n 3, 1) := by decide +kernel
theorem dX12_isSo_46 : decode cX12_isSo 46 = .ok (.aaload, 1) := by decide +kernel
theorem dX12_isSo_47 : decode cX12_isSo 47 = .ok (.iconst 1, 1) := by decide +kernel
theorem dX12_isSo_48 : decode cX12_isSo 48 = .ok (.iaload, 1) := by decide +kernel
theorem dX12_isSo_49 : decode cX12_isSo 49 = .ok (.if_icmp .eq 5, 3) := by decide +kernel
theorem dX12_isSo_52 : decode cX12_isSo 52 = .ok (.iconst 0, 1) := by decide +kernel
theorem dX12_isSo_53 : decode cX12_isSo 53 = .ok (.ireturn, 1) := by decide +kernel
theorem dX12_isSo_54 : decode cX12_isSo 54 = .ok (.iinc 3 1, 3) := by decide +kernel
theorem dX12_isSo_57 : decode cX12_isSo 57 = .ok (.goto (-49), 3) := by decide +kernel
theorem dX12_isSo_60 : decode cX12_isSo 60 = .ok (.iconst 1, 1) := by decide +kernel
theorem dX12_isSo_61 : decode cX12_isSo 61 = .ok (.ireturn, 1) := by decide +kernel
theorem dX12_fits_0 : decode cX12_fits 0 = .ok (.aload_n 0, 1) := by decide +kernel
theorem dX12_fits_1 : decode cX12_fits 1 = .ok (.iconst 0, 1) := by decide +kernel
theorem dX12_fits_2 : decode cX12_fits 2 = .ok (.putfield 70, 3) := by decide +kernel
theorem dX12_fits_5 : decode cX12_fits 5 = .ok (.aload_n 0, 1) := by decide +kernel
theorem dX12_fits_6 : decode cX12_fits 6 = .ok (.iload_n 1, 1) := by decide +kernel
theorem dX12_fits_7 : decode cX12_fits 7 = .ok (.iconst 0, 1) := by decide +kernel
theorem dX12_fits_8 : decode cX12_fits 8 = .ok (.iconst 1, 1) := by decide +kernel
theorem dX12_fits_9 : decode cX12_fits 9 = .ok (.invokestatic 104, 3) := by decide +kernel
theorem dX12_fits_12 : decode cX12_fits 12 = .ok (.ifCond .ne 7, 3) := by decide +kernel
theorem dX12_fits_15 : decode cX12_fits 15 = .ok (.iconst 1, 1) := by decide +kernel
theorem dX12_fits_16 : decode cX12_fits 16 = .ok (.goto 4, 3) := by decide +kernel
theorem dX12_fits_19 : decode cX12_fits 19 = .ok (.iconst 0, 1) := by decide +kernel
theorem dX12_fits_20 : decode cX12_fits 20 = .ok (.iconst 1, 1) := by decide +kernel
theorem dX12_fits_21 : decode cX12_fits 21 = .ok (.iconst 1, 1) := by decide +kernel
theorem dX12_fits_22 : decode cX12_fits 22 = .ok (.invokevirtual 140, 3) := by decide +kernel
theorem dX12_fits_25 : decode cX12_fits 25 = .ok (.ifCond .eq 5, 3) := by decide +kernel
theorem dX12_fits_28 : decode cX12_fits 28 = .ok (.iconst 0, 1) := by decide +kernel
theorem dX12_fits_29 : decode cX12_fits 29 = .ok (.ireturn, 1) := by decide +kernel
theorem dX12_fits_30 : decode cX12_fits 30 = .ok (.iconst 0, 1) := by decide +kernel
theorem dX12_fits_31 : decode cX12_fits 31 = .ok (.istore_n 2, 1) := by decide +kernel
theorem dX12_fits_32 : decode cX12_fits 32 = .ok (.iconst (-1), 1) := by decide +kernel
theorem dX12_fits_33 : decode cX12_fits 33 = .ok (.istore_n 3, 1) := by decide +kernel
theorem dX12_fits_34 : decode cX12_fits 34 = .ok (.iconst 0, 1) := by decide +kernel
theorem dX12_fits_35 : decode cX12_fits 35 = .ok (.istore 4, 2) := by decide +kernel
theorem dX12_fits_37 : decode cX12_fits 37 = .ok (.iload 4, 2) := by decide +kernel
theorem dX12_fits_39 : decode cX12_fits 39 = .ok (.iconst 1, 1) := by decide +kernel
theorem dX12_fits_40 : decode cX12_fits 40 = .ok (.aload_n 0, 1) := by decide +kernel
theorem dX12_fits_41 : decode cX12_fits 41 = .ok (.getfield 23, 3) := by decide +kernel
theorem dX12_fits_44 : decode cX12_fits 44 = .ok (.iconst 0, 1) := by decide +kernel
theorem dX12_fits_45 : decode cX12_fits 45 = .ok (.iaload, 1) := by decide +kernel
theorem dX12_fits_46 : decode cX12_fits 46 = .ok (.ishl, 1) := by decide +kernel
theorem dX12_fits_47 : decode cX12_fits 47 = .ok (.if_icmp .ge 35, 3) := by decide +kernel
theorem dX12_fits_50 : decode cX12_fits 50 = .ok (.aload_n 0, 1) := by decide +kernel
theorem dX12_fits_51 : decode cX12_fits 51 = .ok (.iload 4, 2) := by decide +kernel
theorem dX12_fits_53 : decode cX12_fits 53 = .ok (.invokevirtual 373, 3) := by decide +kernel
theorem dX12_fits_56 : decode cX12_fits 56 = .ok (.ifCond .ne 6, 3) := by decide +kernel
theorem dX12_fits_59 : decode cX12_fits 59 = .ok (.goto 17, 3) := by decide +kernel
theorem dX12_fits_62 : decode cX12_fits 62 = .ok (.iload_n 2, 1) := by decide +kernel
theorem dX12_fits_63 : decode cX12_fits 63 = .ok (.ifCond .ne 8, 3) := by decide +kernel
theorem dX12_fits_66 : decode cX12_fits 66 = .ok (.iload 4, 2) := by decide +kernel
theorem dX12_fits_68 : decode cX12_fits 68 = .ok (.goto 4, 3) := by decide +kernel
theorem dX12_fits_71 : decode cX12_fits 71 = .ok (.iload_n 3, 1) := by decide +kernel
theorem dX12_fits_72 : decode cX12_fits 72 = .ok (.istore_n 3, 1) := by decide +kernel
theorem dX12_fits_73 : decode cX12_fits 73 = .ok (.iinc 2 1, 3) := by decide +kernel
theorem dX12_fits_76 : decode cX12_fits 76 = .ok (.iinc 4 1, 3) := by decide +kernel
theorem dX12_fits_79 : decode cX12_fits 79 = .ok (.goto (-42), 3) := by decide +kernel
theorem dX12_fits_82 : decode cX12_fits 82 = .ok (.iload_n 1, 1) := by decide +kernel
theorem dX12_fits_83 : decode cX12_fits 83 = .ok (.ifCond .ne 7, 3) := by decide +kernel
theorem dX12_fits_86 : decode cX12_fits 86 = .ok (.iload_n 2, 1) := by decide +kernel
theorem dX12_fits_87 : decode cX12_fits 87 = .ok (.goto 4, 3) := by decide +kernel
theorem dX12_fits_90 : decode cX12_fits 90 = .ok (.iload_n 3, 1) := by decide +kernel
theorem dX12_fits_91 : decode cX12_fits 91 = .ok (.ireturn, 1) := by decide +kernel
theorem dX12_isTold_0 : decode cX12_isTold 0 = .ok (.iconst 0, 1) := by decide +kernel
theorem dX12_isTold_1 : decode cX12_isTold 1 = .ok (.istore_n 2, 1) := by decide +kernel
theorem dX12_isTold_2 : decode cX12_isTold 2 = .ok (.iload_n 2, 1) := by decide +kernel
theorem dX12_isTold_3 : decode cX12_isTold 3 = .ok (.aload_n 0, 1) := by decide +kernel
theorem dX12_isTold_4 : decode cX12_isTold 4 = .ok (.getfield 160, 3) := by decide +kernel
theorem dX12_isTold_7 : decode cX12_isTold 7 = .ok (.if_icmp .ge 23, 3) := by decide +kernel
theorem dX12_isTold_10 : decode cX12_isTold 10 = .ok (.aload_n 0, 1) := by decide +kernel
theorem dX12_isTold_11 : decode cX12_isTold 11 = .ok (.getfield 34, 3) := by decide +kernel
theorem dX12_isTold_14 : decode cX12_isTold 14 = .ok (.iload_n 2, 1) := by decide +kernel
theorem dX12_isTold_15 : decode cX12_isTold 15 = .ok (.aaload, 1) := by decide +kernel
theorem dX12_isTold_16 : decode cX12_isTold 16 = .ok (.iconst 0, 1) := by decide +kernel
theorem dX12_isTold_17 : decode cX12_isTold 17 = .ok (.iaload, 1) := by decide +kernel
theorem dX12_isTold_18 : decode cX12_isTold 18 = .ok (.iload_n 1, 1) := by decide +kernel
theorem dX12_isTold_19 : decode cX12_isTold 19 = .ok (.if_icmp .ne 5, 3) := by decide +kernel
theorem dX12_isTold_22 : decode cX12_isTold 22 = .ok (.iconst 1, 1) := by decide +kernel
theorem dX12_isTold_23 : decode cX12_isTold 23 = .ok (.ireturn, 1) := by decide +kernel
theorem dX12_isTold_24 : decode cX12_isTold 24 = .ok (.iinc 2 1, 3) := by decide +kernel
theorem dX12_isTold_27 : decode cX12_isTold 27 = .ok (.goto (-25), 3) := by decide +kernel
theorem dX12_isTold_30 : decode cX12_isTold 30 = .ok (.iconst 0, 1) := by decide +kernel
theorem dX12_isTold_31 : decode cX12_isTold 31 = .ok (.ireturn, 1) := by decide +kernel
theorem dX12_worstAt_0 : decode cX12_worstAt 0 = .ok (.iconst 0, 1) := by decide +kernel
theorem dX12_worstAt_1 : decode cX12_worstAt 1 = .ok (.istore_n 2, 1) := by decide +kernel
theorem dX12_worstAt_2 : decode cX12_worstAt 2 = .ok (.iconst 0, 1) := by decide +kernel
theorem dX12_worstAt_3 : decode cX12_worstAt 3 = .ok (.istore_n 3, 1) := by decide +kernel
theorem dX12_worstAt_4 : decode cX12_worstAt 4 = .ok (.iconst 0, 1) := by decide +kernel
theorem dX12_worstAt_5 : decode cX12_worstAt 5 = .ok (.istore 4, 2) := by decide +kernel
theorem dX12_worstAt_7 : decode cX12_worstAt 7 = .ok (.iload 4, 2) := by decide +kernel
theorem dX12_worstAt_9 : decode cX12_worstAt 9 = .ok (.iconst 1, 1) := by decide +kernel
theorem dX12_worstAt_10 : decode cX12_worstAt 10 = .ok (.aload_n 0, 1) := by decide +kernel
theorem dX12_worstAt_11 : decode cX12_worstAt 11 = .ok (.getfield 23, 3) := by decide +kernel
theorem dX12_worstAt_14 : decode cX12_worstAt 14 = .ok (.iconst 0, 1) := by decide +kernel
theorem dX12_worstAt_15 : decode cX12_worstAt 15 = .ok (.iaload, 1) := by decide +kernel
theorem dX12_worstAt_16 : decode cX12_worstAt 16 = .ok (.ishl, 1) := by decide +kernel
theorem dX12_worstAt_17 : decode cX12_worstAt 17 = .ok (.if_icmp .ge 75, 3) := by decide +kernel
theorem dX12_worstAt_20 : decode cX12_worstAt 20 = .ok (.aload_n 0, 1) := by decide +kernel
theorem dX12_worstAt_21 : decode cX12_worstAt 21 = .ok (.iload 4, 2) := by decide +kernel
theorem dX12_worstAt_23 : decode cX12_worstAt 23 = .ok (.invokevirtual 373, 3) := by decide +kernel
theorem dX12_worstAt_26 : decode cX12_worstAt 26 = .ok (.ifCond .ne 6, 3) := by decide +kernel
theorem dX12_worstAt_29 : decode cX12_worstAt 29 = .ok (.goto 57, 3) := by decide +kernel
theorem dX12_worstAt_32 : decode cX12_worstAt 32 = .ok (.aload_n 0, 1) := by decide +kernel
theorem dX12_worstAt_33 : decode cX12_worstAt 33 = .ok (.iload 4, 2) := by decide +kernel
theorem dX12_worstAt_35 : decode cX12_worstAt 35 = .ok (.invokevirtual 364, 3) := by decide +kernel
theorem dX12_worstAt_38 : decode cX12_worstAt 38 = .ok (.istore 5, 2) := by decide +kernel
theorem dX12_worstAt_40 : decode cX12_worstAt 40 = .ok (.iload_n 2, 1) := by decide +kernel
theorem dX12_worstAt_41 : decode cX12_worstAt 41 = .ok (.iload 5, 2) := by decide +kernel
theorem dX12_worstAt_43 : decode cX12_worstAt 43 = .ok (.iconst (-1), 1) := by decide +kernel
theorem dX12_worstAt_44 : decode cX12_worstAt 44 = .ok (.if_icmp .eq 16, 3) := by decide +kernel
theorem dX12_worstAt_47 : decode cX12_worstAt 47 = .ok (.iload 5, 2) := by decide +kernel
theorem dX12_worstAt_49 : decode cX12_worstAt 49 = .ok (.iload_n 1, 1) := by decide +kernel
theorem dX12_worstAt_50 : decode cX12_worstAt 50 = .ok (.invokestatic 153, 3) := by decide +kernel
theorem dX12_worstAt_53 : decode cX12_worstAt 53 = .ok (.ifCond .eq 7, 3) := by decide +kernel
theorem dX12_worstAt_56 : decode cX12_worstAt 56 = .ok (.iconst 1, 1) := by decide +kernel
theorem dX12_worstAt_57 : decode cX12_worstAt 57 = .ok (.goto 4, 3) := by decide +kernel
theorem dX12_worstAt_60 : decode cX12_worstAt 60 = .ok (.iconst 0, 1) := by decide +kernel
theorem dX12_worstAt_61 : decode cX12_worstAt 61 = .ok (.iadd, 1) := by decide +kernel
theorem dX12_worstAt_62 : decode cX12_worstAt 62 = .ok (.istore_n 2, 1) := by decide +kernel
theorem dX12_worstAt_63 : decode cX12_worstAt 63 = .ok (.iload_n 3, 1) := by decide +kernel
theorem dX12_worstAt_64 : decode cX12_worstAt 64 = .ok (.iload 5, 2) := by decide +kernel
theorem dX12_worstAt_66 : decode cX12_worstAt 66 = .ok (.iconst (-1), 1) := by decide +kernel
theorem dX12_worstAt_67 : decode cX12_worstAt 67 = .ok (.if_icmp .eq 16, 3) := by decide +kernel
theorem dX12_worstAt_70 : decode cX12_worstAt 70 = .ok (.iload 5, 2) := by decide +kernel
theorem dX12_worstAt_72 : decode cX12_worstAt 72 = .ok (.iload_n 1, 1) := by decide +kernel
theorem dX12_worstAt_73 : decode cX12_worstAt 73 = .ok (.invokestatic 153, 3) := by decide +kernel
theorem dX12_worstAt_76 : decode cX12_worstAt 76 = .ok (.ifCond .eq 7, 3) := by decide +kernel
theorem dX12_worstAt_79 : decode cX12_worstAt 79 = .ok (.iconst 0, 1) := by decide +kernel
theorem dX12_worstAt_80 : decode cX12_worstAt 80 = .ok (.goto 4, 3) := by decide +kernel
theorem dX12_worstAt_83 : decode cX12_worstAt 83 = .ok (.iconst 1, 1) := by decide +kernel
theorem dX12_worstAt_84 : decode cX12_worstAt 84 = .ok (.iadd, 1) := by decide +kernel
theorem dX12_worstAt_85 : decode cX12_worstAt 85 = .ok (.istore_n 3, 1) := by decide +kernel
theorem dX12_worstAt_86 : decode cX12_worstAt 86 = .ok (.iinc 4 1, 3) := by decide +kernel
theorem dX12_worstAt_89 : decode cX12_worstAt 89 = .ok (.goto (-82), 3) := by decide +kernel
theorem dX12_worstAt_92 : decode cX12_worstAt 92 = .ok (.iload_n 2, 1) := by decide +kernel
theorem dX12_worstAt_93 : decode cX12_worstAt 93 = .ok (.iload_n 3, 1) := by decide +kernel
theorem dX12_worstAt_94 : decode cX12_worstAt 94 = .ok (.invokestatic 207, 3) := by decide +kernel
theorem dX12_worstAt_97 : decode cX12_worstAt 97 = .ok (.ireturn, 1) := by decide +kernel
theorem dX12_look_0 : decode cX12_look 0 = .ok (.aload_n 0, 1) := by decide +kernel
theorem dX12_look_1 : decode cX12_look 1 = .ok (.iconst 0, 1) := by decide +kernel
theorem dX12_look_2 : decode cX12_look 2 = .ok (.putfield 70, 3) := by decide +kernel
theorem dX12_look_5 : decode cX12_look 5 = .ok (.aload_n 0, 1) := by decide +kernel
theorem dX12_look_6 : decode cX12_look 6 = .ok (.iload_n 1, 1) := by decide +kernel
theorem dX12_look_7 : decode cX12_look 7 = .ok (.iconst 0, 1) := by decide +kernel
theorem dX12_look_8 : decode cX12_look 8 = .ok (.iconst 1, 1) := by decide +kernel
theorem dX12_look_9 : decode cX12_look 9 = .ok (.invokestatic 104, 3) := by decide +kernel
theorem dX12_look_12 : decode cX12_look 12 = .ok (.ifCond .ne 7, 3) := by decide +kernel
theorem dX12_look_15 : decode cX12_look 15 = .ok (.iconst 1, 1) := by decide +kernel
theorem dX12_look_16 : decode cX12_look 16 = .ok (.goto 4, 3) := by decide +kernel
theorem dX12_look_19 : decode cX12_look 19 = .ok (.iconst 0, 1) := by decide +kernel
theorem dX12_look_20 : decode cX12_look 20 = .ok (.iconst 1, 1) := by decide +kernel
theorem dX12_look_21 : decode cX12_look 21 = .ok (.iconst 1, 1) := by decide +kernel
theorem dX12_look_22 : decode cX12_look 22 = .ok (.invokevirtual 140, 3) := by decide +kernel
theorem dX12_look_25 : decode cX12_look 25 = .ok (.ifCond .eq 5, 3) := by decide +kernel
theorem dX12_look_28 : decode cX12_look 28 = .ok (.iconst 0, 1) := by decide +kernel
theorem dX12_look_29 : decode cX12_look 29 = .ok (.ireturn, 1) := by decide +kernel
theorem dX12_look_30 : decode cX12_look 30 = .ok (.iconst (-1), 1) := by decide +kernel
theorem dX12_look_31 : decode cX12_look 31 = .ok (.istore_n 2, 1) := by decide +kernel
theorem dX12_look_32 : decode cX12_look 32 = .ok (.iconst (-1), 1) := by decide +kernel
theorem dX12_look_33 : decode cX12_look 33 = .ok (.istore_n 3, 1) := by decide +kernel
theorem dX12_look_34 : decode cX12_look 34 = .ok (.iconst 0, 1) := by decide +kernel
theorem dX12_look_35 : decode cX12_look 35 = .ok (.istore 4, 2) := by decide +kernel
theorem dX12_look_37 : decode cX12_look 37 = .ok (.iload 4, 2) := by decide +kernel
theorem dX12_look_39 : decode cX12_look 39 = .ok (.aload_n 0, 1) := by decide +kernel
theorem dX12_look_40 : decode cX12_look 40 = .ok (.getfield 23, 3) := by decide +kernel
theorem dX12_look_43 : decode cX12_look 43 = .ok (.iconst 0, 1) := by decide +kernel
theorem dX12_look_44 : decode cX12_look 44 = .ok (.iaload, 1) := by decide +kernel
theorem dX12_look_45 : decode cX12_look 45 = .ok (.if_icmp .ge 49, 3) := by decide +kernel
theorem dX12_look_48 : decode cX12_look 48 = .ok (.aload_n 0, 1) := by decide +kernel
theorem dX12_look_49 : decode cX12_look 49 = .ok (.iload 4, 2) := by decide +kernel
theorem dX12_look_51 : decode cX12_look 51 = .ok (.invokevirtual 376, 3) := by decide +kernel
theorem dX12_look_54 : decode cX12_look 54 = .ok (.ifCond .eq 6, 3) := by decide +kernel
theorem dX12_look_57 : decode cX12_look 57 = .ok (.goto 31, 3) := by decide +kernel
theorem dX12_look_60 : decode cX12_look 60 = .ok (.aload_n 0, 1) := by decide +kernel
theorem dX12_look_61 : decode cX12_look 61 = .ok (.iload 4, 2) := by decide +kernel
theorem dX12_look_63 : decode cX12_look 63 = .ok (.invokevirtual 379, 3) := by decide +kernel
theorem dX12_look_66 : decode cX12_look 66 = .ok (.istore 5, 2) := by decide +kernel
theorem dX12_look_68 : decode cX12_look 68 = .ok (.iload_n 2, 1) := by decide +kernel
theorem dX12_look_69 : decode cX12_look 69 = .ok (.iconst (-1), 1) := by decide +kernel
theorem dX12_look_70 : decode cX12_look 70 = .ok (.if_icmp .eq 12, 3) := by decide +kernel
theorem dX12_look_73 : decode cX12_look 73 = .ok (.iload 5, 2) := by decide +kernel
theorem dX12_look_75 : decode cX12_look 75 = .ok (.iload_n 3, 1) := by decide +kernel
theorem dX12_look_76 : decode cX12_look 76 = .ok (.if_icmp .lt 6, 3) := by decide +kernel
theorem dX12_look_79 : decode cX12_look 79 = .ok (.goto 9, 3) := by decide +kernel
theorem dX12_look_82 : decode cX12_look 82 = .ok (.iload 4, 2) := by decide +kernel
theorem dX12_look_84 : decode cX12_look 84 = .ok (.istore_n 2, 1) := by decide +kernel
theorem dX12_look_85 : decode cX12_look 85 = .ok (.iload 5, 2) := by decide +kernel
theorem dX12_look_87 : decode cX12_look 87 = .ok (.istore_n 3, 1) := by decide +kernel
theorem dX12_look_88 : decode cX12_look 88 = .ok (.iinc 4 1, 3) := by decide +kernel
theorem dX12_look_91 : decode cX12_look 91 = .ok (.goto (-54), 3) := by decide +kernel
theorem dX12_look_94 : decode cX12_look 94 = .ok (.iload_n 1, 1) := by decide +kernel
theorem dX12_look_95 : decode cX12_look 95 = .ok (.ifCond .ne 7, 3) := by decide +kernel
theorem dX12_look_98 : decode cX12_look 98 = .ok (.iload_n 2, 1) := by decide +kernel
theorem dX12_look_99 : decode cX12_look 99 = .ok (.goto 4, 3) := by decide +kernel
theorem dX12_look_102 : decode cX12_look 102 = .ok (.iload_n 3, 1) := by decide +kernel
theorem dX12_look_103 : decode cX12_look 103 = .ok (.ireturn, 1) := by decide +kernel
theorem dX12_notesSign_0 : decode cX12_notesSign 0 = .ok (.aload_n 0, 1) := by decide +kernel
theorem dX12_notesSign_1 : decode cX12_notesSign 1 = .ok (.getfield 61, 3) := by decide +kernel
theorem dX12_notesSign_4 : decode cX12_notesSign 4 = .ok (.aload_n 0, 1) := by decide +kernel
theorem dX12_notesSign_5 : decode cX12_notesSign 5 = .ok (.getfield 382, 3) := by decide +kernel
theorem dX12_notesSign_8 : decode cX12_notesSign 8 = .ok (.iload_n 1, 1) := by decide +kernel
theorem dX12_notesSign_9 : decode cX12_notesSign 9 = .ok (.iastore, 1) := by decide +kernel
theorem dX12_notesSign_10 : decode cX12_notesSign 10 = .ok (.aload_n 0, 1) := by decide +kernel
theorem dX12_notesSign_11 : decode cX12_notesSign 11 = .ok (.dup, 1) := by decide +kernel
theorem dX12_notesSign_12 : decode cX12_notesSign 12 = .ok (.getfield 382, 3) := by decide +kernel
theorem dX12_notesSign_15 : decode cX12_notesSign 15 = .ok (.iconst 1, 1) := by decide +kernel
theorem dX12_notesSign_16 : decode cX12_notesSign 16 = .ok (.iadd, 1) := by decide +kernel
theorem dX12_notesSign_17 : decode cX12_notesSign 17 = .ok (.putfield 382, 3) := by decide +kernel
theorem dX12_notesSign_20 : decode cX12_notesSign 20 = .ok (.return_, 1) := by decide +kernel
theorem dX12_notesNumber_0 : decode cX12_notesNumber 0 = .ok (.iconst 1, 1) := by decide +kernel
theorem dX12_notesNumber_1 : decode cX12_notesNumber 1 = .ok (.istore_n 2, 1) := by decide +kernel
theorem dX12_notesNumber_2 : decode cX12_notesNumber 2 = .ok (.iload_n 1, 1) := by decide +kernel
theorem dX12_notesNumber_3 : decode cX12_notesNumber 3 = .ok (.iload_n 2, 1) := by decide +kernel
theorem dX12_notesNumber_4 : decode cX12_notesNumber 4 = .ok (.idiv, 1) := by decide +kernel
theorem dX12_notesNumber_5 : decode cX12_notesNumber 5 = .ok (.bipush 10, 2) := by decide +kernel
theorem dX12_notesNumber_7 : decode cX12_notesNumber 7 = .ok (.if_icmp .lt 11, 3) := by decide +kernel
theorem dX12_notesNumber_10 : decode cX12_notesNumber 10 = .ok (.iload_n 2, 1) := by decide +kernel
theorem dX12_notesNumber_11 : decode cX12_notesNumber 11 = .ok (.bipush 10, 2) := by decide +kernel
theorem dX12_notesNumber_13 : decode cX12_notesNumber 13 = .ok (.imul, 1) := by decide +kernel
theorem dX12_notesNumber_14 : decode cX12_notesNumber 14 = .ok (.istore_n 2, 1) := by decide +kernel
theorem dX12_notesNumber_15 : decode cX12_notesNumber 15 = .ok (.goto (-13), 3) := by decide +kernel
theorem dX12_notesNumber_18 : decode cX12_notesNumber 18 = .ok (.iload_n 2, 1) := by decide +kernel
theorem dX12_notesNumber_19 : decode cX12_notesNumber 19 = .ok (.istore_n 3, 1) := by decide +kernel
theorem dX12_notesNumber_20 : decode cX12_notesNumber 20 = .ok (.iload_n 3, 1) := by decide +kernel
theorem dX12_notesNumber_21 : decode cX12_notesNumber 21 = .ok (.ifCond .le 24, 3) := by decide +kernel
theorem dX12_notesNumber_24 : decode cX12_notesNumber 24 = .ok (.aload_n 0, 1) := by decide +kernel
theorem dX12_notesNumber_25 : decode cX12_notesNumber 25 = .ok (.bipush 48, 2) := by decide +kernel
theorem dX12_notesNumber_27 : decode cX12_notesNumber 27 = .ok (.iload_n 1, 1) := by decide +kernel
theorem dX12_notesNumber_28 : decode cX12_notesNumber 28 = .ok (.iload_n 3, 1) := by decide +kernel
theorem dX12_notesNumber_29 : decode cX12_notesNumber 29 = .ok (.idiv, 1) := by decide +kernel
theorem dX12_notesNumber_30 : decode cX12_notesNumber 30 = .ok (.bipush 10, 2) := by decide +kernel
theorem dX12_notesNumber_32 : decode cX12_notesNumber 32 = .ok (.irem, 1) := by decide +kernel
theorem dX12_notesNumber_33 : decode cX12_notesNumber 33 = .ok (.iadd, 1) := by decide +kernel
theorem dX12_notesNumber_34 : decode cX12_notesNumber 34 = .ok (.invokevirtual 385, 3) := by decide +kernel
theorem dX12_notesNumber_37 : decode cX12_notesNumber 37 = .ok (.iload_n 3, 1) := by decide +kernel
theorem dX12_notesNumber_38 : decode cX12_notesNumber 38 = .ok (.bipush 10, 2) := by decide +kernel
theorem dX12_notesNumber_40 : decode cX12_notesNumber 40 = .ok (.idiv, 1) := by decide +kernel
theorem dX12_notesNumber_41 : decode cX12_notesNumber 41 = .ok (.istore_n 3, 1) := by decide +kernel
theorem dX12_notesNumber_42 : decode cX12_notesNumber 42 = .ok (.goto (-22), 3) := by decide +kernel
theorem dX12_notesNumber_45 : decode cX12_notesNumber 45 = .ok (.return_, 1) := by decide +kernel
theorem dX12_laysNote_0 : decode cX12_laysNote 0 = .ok (.aload_n 0, 1) := by decide +kernel
theorem dX12_laysNote_1 : decode cX12_laysNote 1 = .ok (.iconst 0, 1) := by decide +kernel
theorem dX12_laysNote_2 : decode cX12_laysNote 2 = .ok (.putfield 382, 3) := by decide +kernel
theorem dX12_laysNote_5 : decode cX12_laysNote 5 = .ok (.aload_n 0, 1) := by decide +kernel
theorem dX12_laysNote_6 : decode cX12_laysNote 6 = .ok (.bipush 118, 2) := by decide +kernel
theorem dX12_laysNote_8 : decode cX12_laysNote 8 = .ok (.invokevirtual 385, 3) := by decide +kernel
theorem dX12_laysNote_11 : decode cX12_laysNote 11 = .ok (.aload_n 0, 1) := by decide +kernel
theorem dX12_laysNote_12 : decode cX12_laysNote 12 = .ok (.aload_n 0, 1) := by decide +kernel
theorem dX12_laysNote_13 : decode cX12_laysNote 13 = .ok (.getfield 49, 3) := by decide +kernel
theorem dX12_laysNote_16 : decode cX12_laysNote 16 = .ok (.sipush 181, 3) := by decide +kernel
theorem dX12_laysNote_19 : decode cX12_laysNote 19 = .ok (.iaload, 1) := by decide +kernel
theorem dX12_laysNote_20 : decode cX12_laysNote 20 = .ok (.invokevirtual 388, 3) := by decide +kernel
theorem dX12_laysNote_23 : decode cX12_laysNote 23 = .ok (.aload_n 0, 1) := by decide +kernel
theorem dX12_laysNote_24 : decode cX12_laysNote 24 = .ok (.bipush 58, 2) := by decide +kernel
theorem dX12_laysNote_26 : decode cX12_laysNote 26 = .ok (.invokevirtual 385, 3) := by decide +kernel
theorem dX12_laysNote_29 : decode cX12_laysNote 29 = .ok (.iconst 1, 1) := by decide +kernel
theorem dX12_laysNote_30 : decode cX12_laysNote 30 = .ok (.istore_n 1, 1) := by decide +kernel
theorem dX12_laysNote_31 : decode cX12_laysNote 31 = .ok (.iconst 0, 1) := by decide +kernel
theorem dX12_laysNote_32 : decode cX12_laysNote 32 = .ok (.istore_n 2, 1) := by decide +kernel
theorem dX12_laysNote_33 : decode cX12_laysNote 33 = .ok (.iload_n 2, 1) := by decide +kernel
theorem dX12_laysNote_34 : decode cX12_laysNote 34 = .ok (.aload_n 0, 1) := by decide +kernel
theorem dX12_laysNote_35 : decode cX12_laysNote 35 = .ok (.getfield 23, 3) := by decide +kernel
theorem dX12_laysNote_38 : decode cX12_laysNote 38 = .ok (.iconst 0, 1) := by decide +kernel
theorem dX12_laysNote_39 : decode cX12_laysNote 39 = .ok (.iaload, 1) := by decide +kernel
theorem dX12_laysNote_40 : decode cX12_laysNote 40 = .ok (.if_icmp .ge 86, 3) := by decide +kernel
theorem dX12_laysNote_43 : decode cX12_laysNote 43 = .ok (.aload_n 0, 1) := by decide +kernel
theorem dX12_laysNote_44 : decode cX12_laysNote 44 = .ok (.getfield 49, 3) := by decide +kernel
theorem dX12_laysNote_47 : decode cX12_laysNote 47 = .ok (.sipush 182, 3) := by decide +kernel
theorem dX12_laysNote_50 : decode cX12_laysNote 50 = .ok (.iaload, 1) := by decide +kernel
theorem dX12_laysNote_51 : decode cX12_laysNote 51 = .ok (.iload_n 2, 1) := by decide +kernel
theorem dX12_laysNote_52 : decode cX12_laysNote 52 = .ok (.invokestatic 153, 3) := by decide +kernel
theorem dX12_laysNote_55 : decode cX12_laysNote 55 = .ok (.ifCond .ne 6, 3) := by decide +kernel
theorem dX12_laysNote_58 : decode cX12_laysNote 58 = .ok (.goto 62, 3) := by decide +kernel
theorem dX12_laysNote_61 : decode cX12_laysNote 61 = .ok (.iload_n 1, 1) := by decide +kernel
theorem dX12_laysNote_62 : decode cX12_laysNote 62 = .ok (.ifCond .ne 9, 3) := by decide +kernel
theorem dX12_laysNote_65 : decode cX12_laysNote 65 = .ok (.aload_n 0, 1) := by decide +kernel
theorem dX12_laysNote_66 : decode cX12_laysNote 66 = .ok (.bipush 44, 2) := by decide +kernel
theorem dX12_laysNote_68 : decode cX12_laysNote 68 = .ok (.invokevirtual 385, 3) := by decide +kernel
theorem dX12_laysNote_71 : decode cX12_laysNote 71 = .ok (.iconst 0, 1) := by decide +kernel
theorem dX12_laysNote_72 : decode cX12_laysNote 72 = .ok (.istore_n 1, 1) := by decide +kernel
theorem dX12_laysNote_73 : decode cX12_laysNote 73 = .ok (.aload_n 0, 1) := by decide +kernel
theorem dX12_laysNote_74 : decode cX12_laysNote 74 = .ok (.iload_n 2, 1) := by decide +kernel
theorem dX12_laysNote_75 : decode cX12_laysNote 75 = .ok (.invokevirtual 388, 3) := by decide +kernel
theorem dX12_laysNote_78 : decode cX12_laysNote 78 = .ok (.aload_n 0, 1) := by decide +kernel
theorem dX12_laysNote_79 : decode cX12_laysNote 79 = .ok (.getfield 49, 3) := by decide +kernel
theorem dX12_laysNote_82 : decode cX12_laysNote 82 = .ok (.sipush 185, 3) := by decide +kernel
theorem dX12_laysNote_85 : decode cX12_laysNote 85 = .ok (.iaload, 1) := by decide +kernel
theorem dX12_laysNote_86 : decode cX12_laysNote 86 = .ok (.iload_n 2, 1) := by decide +kernel
theorem dX12_laysNote_87 : decode cX12_laysNote 87 = .ok (.invokestatic 153, 3) := by decide +kernel
theorem dX12_laysNote_90 : decode cX12_laysNote 90 = .ok (.ifCond .eq 9, 3) := by decide +kernel
theorem dX12_laysNote_93 : decode cX12_laysNote 93 = .ok (.aload_n 0, 1) := by decide +kernel
theorem dX12_laysNote_94 : decode cX12_laysNote 94 = .ok (.bipush 33, 2) := by decide +kernel
theorem dX12_laysNote_96 : decode cX12_laysNote 96 = .ok (.invokevirtual 385, 3) := by decide +kernel
theorem dX12_laysNote_99 : decode cX12_laysNote 99 = .ok (.aload_n 0, 1) := by decide +kernel
theorem dX12_laysNote_100 : decode cX12_laysNote 100 = .ok (.getfield 49, 3) := by decide +kernel
theorem dX12_laysNote_103 : decode cX12_laysNote 103 = .ok (.sipush 184, 3) := by decide +kernel
theorem dX12_laysNote_106 : decode cX12_laysNote 106 = .ok (.iaload, 1) := by decide +kernel
theorem dX12_laysNote_107 : decode cX12_laysNote 107 = .ok (.iload_n 2, 1) := by decide +kernel
theorem dX12_laysNote_108 : decode cX12_laysNote 108 = .ok (.invokestatic 153, 3) := by decide +kernel
theorem dX12_laysNote_111 : decode cX12_laysNote 111 = .ok (.ifCond .ne 9, 3) := by decide +kernel
theorem dX12_laysNote_114 : decode cX12_laysNote 114 = .ok (.aload_n 0, 1) := by decide +kernel
theorem dX12_laysNote_115 : decode cX12_laysNote 115 = .ok (.bipush 63, 2) := by decide +kernel
theorem dX12_laysNote_117 : decode cX12_laysNote 117 = .ok (.invokevirtual 385, 3) := by decide +kernel
theorem dX12_laysNote_120 : decode cX12_laysNote 120 = .ok (.iinc 2 1, 3) := by decide +kernel
theorem dX12_laysNote_123 : decode cX12_laysNote 123 = .ok (.goto (-90), 3) := by decide +kernel
theorem dX12_laysNote_126 : decode cX12_laysNote 126 = .ok (.aload_n 0, 1) := by decide +kernel
theorem dX12_laysNote_127 : decode cX12_laysNote 127 = .ok (.bipush 59, 2) := by decide +kernel
theorem dX12_laysNote_129 : decode cX12_laysNote 129 = .ok (.invokevirtual 385, 3) := by decide +kernel
theorem dX12_laysNote_132 : decode cX12_laysNote 132 = .ok (.aload_n 0, 1) := by decide +kernel
theorem dX12_laysNote_133 : decode cX12_laysNote 133 = .ok (.aload_n 0, 1) := by decide +kernel
theorem dX12_laysNote_134 : decode cX12_laysNote 134 = .ok (.getfield 49, 3) := by decide +kernel
theorem dX12_laysNote_137 : decode cX12_laysNote 137 = .ok (.sipush 187, 3) := by decide +kernel
theorem dX12_laysNote_140 : decode cX12_laysNote 140 = .ok (.iaload, 1) := by decide +kernel
theorem dX12_laysNote_141 : decode cX12_laysNote 141 = .ok (.invokevirtual 388, 3) := by decide +kernel
theorem dX12_laysNote_144 : decode cX12_laysNote 144 = .ok (.return_, 1) := by decide +kernel
theorem dX12_note_0 : decode cX12_note 0 = .ok (.aload_n 0, 1) := by decide +kernel
theorem dX12_note_1 : decode cX12_note 1 = .ok (.iconst 0, 1) := by decide +kernel
theorem dX12_note_2 : decode cX12_note 2 = .ok (.putfield 70, 3) := by decide +kernel
theorem dX12_note_5 : decode cX12_note 5 = .ok (.aload_n 0, 1) := by decide +kernel
theorem dX12_note_6 : decode cX12_note 6 = .ok (.invokevirtual 391, 3) := by decide +kernel
theorem dX12_note_9 : decode cX12_note 9 = .ok (.aload_n 0, 1) := by decide +kernel
theorem dX12_note_10 : decode cX12_note 10 = .ok (.getfield 382, 3) := by decide +kernel
theorem dX12_note_13 : decode cX12_note 13 = .ok (.ireturn, 1) := by decide +kernel
theorem dX12_spelt_0 : decode cX12_spelt 0 = .ok (.aload_n 0, 1) := by decide +kernel
theorem dX12_spelt_1 : decode cX12_spelt 1 = .ok (.iconst 0, 1) := by decide +kernel
theorem dX12_spelt_2 : decode cX12_spelt 2 = .ok (.putfield 70, 3) := by decide +kernel
theorem dX12_spelt_5 : decode cX12_spelt 5 = .ok (.aload_n 0, 1) := by decide +kernel
theorem dX12_spelt_6 : decode cX12_spelt 6 = .ok (.iload_n 1, 1) := by decide +kernel
theorem dX12_spelt_7 : decode cX12_spelt 7 = .ok (.ifCond .ge 7, 3) := by decide +kernel
theorem dX12_spelt_10 : decode cX12_spelt 10 = .ok (.iconst 1, 1) := by decide +kernel
theorem dX12_spelt_11 : decode cX12_spelt 11 = .ok (.goto 4, 3) := by decide +kernel
theorem dX12_spelt_14 : decode cX12_spelt 14 = .ok (.iconst 0, 1) := by decide +kernel
theorem dX12_spelt_15 : decode cX12_spelt 15 = .ok (.iconst 1, 1) := by decide +kernel
theorem dX12_spelt_16 : decode cX12_spelt 16 = .ok (.iconst 1, 1) := by decide +kernel
theorem dX12_spelt_17 : decode cX12_spelt 17 = .ok (.invokevirtual 140, 3) := by decide +kernel
theorem dX12_spelt_20 : decode cX12_spelt 20 = .ok (.ifCond .eq 5, 3) := by decide +kernel
theorem dX12_spelt_23 : decode cX12_spelt 23 = .ok (.iconst 0, 1) := by decide +kernel
theorem dX12_spelt_24 : decode cX12_spelt 24 = .ok (.ireturn, 1) := by decide +kernel
theorem dX12_spelt_25 : decode cX12_spelt 25 = .ok (.aload_n 0, 1) := by decide +kernel
theorem dX12_spelt_26 : decode cX12_spelt 26 = .ok (.invokevirtual 391, 3) := by decide +kernel
theorem dX12_spelt_29 : decode cX12_spelt 29 = .ok (.iload_n 1, 1) := by decide +kernel
theorem dX12_spelt_30 : decode cX12_spelt 30 = .ok (.aload_n 0, 1) := by decide +kernel
theorem dX12_spelt_31 : decode cX12_spelt 31 = .ok (.getfield 382, 3) := by decide +kernel
theorem dX12_spelt_34 : decode cX12_spelt 34 = .ok (.if_icmp .ge 12, 3) := by decide +kernel
theorem dX12_spelt_37 : decode cX12_spelt 37 = .ok (.aload_n 0, 1) := by decide +kernel
theorem dX12_spelt_38 : decode cX12_spelt 38 = .ok (.getfield 61, 3) := by decide +kernel
theorem dX12_spelt_41 : decode cX12_spelt 41 = .ok (.iload_n 1, 1) := by decide +kernel
theorem dX12_spelt_42 : decode cX12_spelt 42 = .ok (.iaload, 1) := by decide +kernel
theorem dX12_spelt_43 : decode cX12_spelt 43 = .ok (.goto 4, 3) := by decide +kernel
theorem dX12_spelt_46 : decode cX12_spelt 46 = .ok (.iconst (-1), 1) := by decide +kernel
theorem dX12_spelt_47 : decode cX12_spelt 47 = .ok (.ireturn, 1) := by decide +kernel
theorem dX12_lore_0 : decode cX12_lore 0 = .ok (.aload_n 0, 1) := by decide +kernel
theorem dX12_lore_1 : decode cX12_lore 1 = .ok (.iconst 0, 1) := by decide +kernel
theorem dX12_lore_2 : decode cX12_lore 2 = .ok (.putfield 70, 3) := by decide +kernel
theorem dX12_lore_5 : decode cX12_lore 5 = .ok (.aload_n 0, 1) := by decide +kernel
theorem dX12_lore_6 : decode cX12_lore 6 = .ok (.aload_n 0, 1) := by decide +kernel
theorem dX12_lore_7 : decode cX12_lore 7 = .ok (.iload_n 1, 1) := by decide +kernel
theorem dX12_lore_8 : decode cX12_lore 8 = .ok (.invokevirtual 355, 3) := by decide +kernel
theorem dX12_lore_11 : decode cX12_lore 11 = .ok (.ifCond .ne 7, 3) := by decide +kernel
theorem dX12_lore_14 : decode cX12_lore 14 = .ok (.iconst 1, 1) := by decide +kernel
theorem dX12_lore_15 : decode cX12_lore 15 = .ok (.goto 4, 3) := by decide +kernel
theorem dX12_lore_18 : decode cX12_lore 18 = .ok (.iconst 0, 1) := by decide +kernel
theorem dX12_lore_19 : decode cX12_lore 19 = .ok (.iconst 1, 1) := by decide +kernel
theorem dX12_lore_20 : decode cX12_lore 20 = .ok (.iconst 0, 1) := by decide +kernel
theorem dX12_lore_21 : decode cX12_lore 21 = .ok (.invokevirtual 140, 3) := by decide +kernel
theorem dX12_lore_24 : decode cX12_lore 24 = .ok (.ifCond .eq 5, 3) := by decide +kernel
theorem dX12_lore_27 : decode cX12_lore 27 = .ok (.iconst 0, 1) := by decide +kernel
theorem dX12_lore_28 : decode cX12_lore 28 = .ok (.ireturn, 1) := by decide +kernel
theorem dX12_lore_29 : decode cX12_lore 29 = .ok (.iconst 0, 1) := by decide +kernel
theorem dX12_lore_30 : decode cX12_lore 30 = .ok (.istore_n 2, 1) := by decide +kernel
theorem dX12_lore_31 : decode cX12_lore 31 = .ok (.iconst 0, 1) := by decide +kernel
theorem dX12_lore_32 : decode cX12_lore 32 = .ok (.istore_n 3, 1) := by decide +kernel
theorem dX12_lore_33 : decode cX12_lore 33 = .ok (.iload_n 3, 1) := by decide +kernel
theorem dX12_lore_34 : decode cX12_lore 34 = .ok (.aload_n 0, 1) := by decide +kernel
theorem dX12_lore_35 : decode cX12_lore 35 = .ok (.getfield 23, 3) := by decide +kernel
theorem dX12_lore_38 : decode cX12_lore 38 = .ok (.iconst 0, 1) := by decide +kernel
theorem dX12_lore_39 : decode cX12_lore 39 = .ok (.iaload, 1) := by decide +kernel
theorem dX12_lore_40 : decode cX12_lore 40 = .ok (.if_icmp .ge 44, 3) := by decide +kernel
theorem dX12_lore_43 : decode cX12_lore 43 = .ok (.iload_n 2, 1) := by decide +kernel
theorem dX12_lore_44 : decode cX12_lore 44 = .ok (.aload_n 0, 1) := by decide +kernel
theorem dX12_lore_45 : decode cX12_lore 45 = .ok (.getfield 49, 3) := by decide +kernel
theorem dX12_lore_48 : decode cX12_lore 48 = .ok (.sipush 182, 3) := by decide +kernel
theorem dX12_lore_51 : decode cX12_lore 51 = .ok (.iaload, 1) := by decide +kernel
theorem dX12_lore_52 : decode cX12_lore 52 = .ok (.iload_n 3, 1) := by decide +kernel
theorem dX12_lore_53 : decode cX12_lore 53 = .ok (.invokestatic 153, 3) := by decide +kernel
theorem dX12_lore_56 : decode cX12_lore 56 = .ok (.ifCond .eq 19, 3) := by decide +kernel
theorem dX12_lore_59 : decode cX12_lore 59 = .ok (.aload_n 0, 1) := by decide +kernel
theorem dX12_lore_60 : decode cX12_lore 60 = .ok (.getfield 49, 3) := by decide +kernel
theorem dX12_lore_63 : decode cX12_lore 63 = .ok (.iload_n 1, 1) := by decide +kernel
theorem dX12_lore_64 : decode cX12_lore 64 = .ok (.iload_n 3, 1) := by decide +kernel
theorem dX12_lore_65 : decode cX12_lore 65 = .ok (.invokestatic 236, 3) := by decide +kernel
theorem dX12_lore_68 : decode cX12_lore 68 = .ok (.iaload, 1) := by decide +kernel
theorem dX12_lore_69 : decode cX12_lore 69 = .ok (.invokestatic 268, 3) := by decide +kernel
theorem dX12_lore_72 : decode cX12_lore 72 = .ok (.goto 4, 3) := by decide +kernel
theorem dX12_lore_75 : decode cX12_lore 75 = .ok (.iconst 0, 1) := by decide +kernel
theorem dX12_lore_76 : decode cX12_lore 76 = .ok (.iadd, 1) := by decide +kernel
theorem dX12_lore_77 : decode cX12_lore 77 = .ok (.istore_n 2, 1) := by decide +kernel
theorem dX12_lore_78 : decode cX12_lore 78 = .ok (.iinc 3 1, 3) := by decide +kernel
theorem dX12_lore_81 : decode cX12_lore 81 = .ok (.goto (-48), 3) := by decide +kernel
theorem dX12_lore_84 : decode cX12_lore 84 = .ok (.iload_n 2, 1) := by decide +kernel
theorem dX12_lore_85 : decode cX12_lore 85 = .ok (.ireturn, 1) := by decide +kernel
theorem dX12_behind_0 : decode cX12_behind 0 = .ok (.aload_n 0, 1) := by decide +kernel
theorem dX12_behind_1 : decode cX12_behind 1 = .ok (.iconst 0, 1) := by decide +kernel
theorem dX12_behind_2 : decode cX12_behind 2 = .ok (.putfield 70, 3) := by decide +kernel
theorem dX12_behind_5 : decode cX12_behind 5 = .ok (.aload_n 0, 1) := by decide +kernel
theorem dX12_behind_6 : decode cX12_behind 6 = .ok (.iload_n 1, 1) := by decide +kernel
theorem dX12_behind_7 : decode cX12_behind 7 = .ok (.iconst 0, 1) := by decide +kernel
theorem dX12_behind_8 : decode cX12_behind 8 = .ok (.iconst 1, 1) := by decide +kernel
theorem dX12_behind_9 : decode cX12_behind 9 = .ok (.invokestatic 104, 3) := by decide +kernel
theorem dX12_behind_12 : decode cX12_behind 12 = .ok (.ifCond .ne 7, 3) := by decide +kernel
theorem dX12_behind_15 : decode cX12_behind 15 = .ok (.iconst 1, 1) := by decide +kernel
theorem dX12_behind_16 : decode cX12_behind 16 = .ok (.goto 4, 3) := by decide +kernel
theorem dX12_behind_19 : decode cX12_behind 19 = .ok (.iconst 0, 1) := by decide +kernel
theorem dX12_behind_20 : decode cX12_behind 20 = .ok (.iconst 1, 1) := by decide +kernel
theorem dX12_behind_21 : decode cX12_behind 21 = .ok (.iconst 1, 1) := by decide +kernel
theorem dX12_behind_22 : decode cX12_behind 22 = .ok (.invokevirtual 140, 3) := by decide +kernel
theorem dX12_behind_25 : decode cX12_behind 25 = .ok (.ifCond .eq 5, 3) := by decide +kernel
theorem dX12_behind_28 : decode cX12_behind 28 = .ok (.iconst 0, 1) := by decide +kernel
theorem dX12_behind_29 : decode cX12_behind 29 = .ok (.ireturn, 1) := by decide +kernel
theorem dX12_behind_30 : decode cX12_behind 30 = .ok (.iconst (-1), 1) := by decide +kernel
theorem dX12_behind_31 : decode cX12_behind 31 = .ok (.istore_n 2, 1) := by decide +kernel
theorem dX12_behind_32 : decode cX12_behind 32 = .ok (.iconst (-1), 1) := by decide +kernel
theorem dX12_behind_33 : decode cX12_behind 33 = .ok (.istore_n 3, 1) := by decide +kernel
theorem dX12_behind_34 : decode cX12_behind 34 = .ok (.iconst 0, 1) := by decide +kernel
theorem dX12_behind_35 : decode cX12_behind 35 = .ok (.istore 4, 2) := by decide +kernel
theorem dX12_behind_37 : decode cX12_behind 37 = .ok (.iload 4, 2) := by decide +kernel
theorem dX12_behind_39 : decode cX12_behind 39 = .ok (.aload_n 0, 1) := by decide +kernel
theorem dX12_behind_40 : decode cX12_behind 40 = .ok (.getfield 23, 3) := by decide +kernel
theorem dX12_behind_43 : decode cX12_behind 43 = .ok (.iconst 0, 1) := by decide +kernel
theorem dX12_behind_44 : decode cX12_behind 44 = .ok (.iaload, 1) := by decide +kernel
theorem dX12_behind_45 : decode cX12_behind 45 = .ok (.if_icmp .ge 60, 3) := by decide +kernel
theorem dX12_behind_48 : decode cX12_behind 48 = .ok (.aload_n 0, 1) := by decide +kernel
theorem dX12_behind_49 : decode cX12_behind 49 = .ok (.getfield 49, 3) := by decide +kernel
theorem dX12_behind_52 : decode cX12_behind 52 = .ok (.bipush 12, 2) := by decide +kernel
theorem dX12_behind_54 : decode cX12_behind 54 = .ok (.iload 4, 2) := by decide +kernel
theorem dX12_behind_56 : decode cX12_behind 56 = .ok (.iadd, 1) := by decide +kernel
theorem dX12_behind_57 : decode cX12_behind 57 = .ok (.iaload, 1) := by decide +kernel
theorem dX12_behind_58 : decode cX12_behind 58 = .ok (.invokestatic 268, 3) := by decide +kernel
theorem dX12_behind_61 : decode cX12_behind 61 = .ok (.istore 5, 2) := by decide +kernel
theorem dX12_behind_63 : decode cX12_behind 63 = .ok (.aload_n 0, 1) := by decide +kernel
theorem dX12_behind_64 : decode cX12_behind 64 = .ok (.getfield 49, 3) := by decide +kernel
theorem dX12_behind_67 : decode cX12_behind 67 = .ok (.sipush 183, 3) := by decide +kernel
theorem dX12_behind_70 : decode cX12_behind 70 = .ok (.iaload, 1) := by decide +kernel
theorem dX12_behind_71 : decode cX12_behind 71 = .ok (.iload 4, 2) := by decide +kernel
theorem dX12_behind_73 : decode cX12_behind 73 = .ok (.invokestatic 153, 3) := by decide +kernel
theorem dX12_behind_76 : decode cX12_behind 76 = .ok (.ifCond .eq 23, 3) := by decide +kernel
theorem dX12_behind_79 : decode cX12_behind 79 = .ok (.iload_n 2, 1) := by decide +kernel
theorem dX12_behind_80 : decode cX12_behind 80 = .ok (.iconst (-1), 1) := by decide +kernel
theorem dX12_behind_81 : decode cX12_behind 81 = .ok (.if_icmp .eq 12, 3) := by decide +kernel
theorem dX12_behind_84 : decode cX12_behind 84 = .ok (.iload 5, 2) := by decide +kernel
theorem dX12_behind_86 : decode cX12_behind 86 = .ok (.iload_n 3, 1) := by decide +kernel
theorem dX12_behind_87 : decode cX12_behind 87 = .ok (.if_icmp .lt 6, 3) := by decide +kernel
theorem dX12_behind_90 : decode cX12_behind 90 = .ok (.goto 9, 3) := by decide +kernel
theorem dX12_behind_93 : decode cX12_behind 93 = .ok (.iload 4, 2) := by decide +kernel
theorem dX12_behind_95 : decode cX12_behind 95 = .ok (.istore_n 2, 1) := by decide +kernel
theorem dX12_behind_96 : decode cX12_behind 96 = .ok (.iload 5, 2) := by decide +kernel
theorem dX12_behind_98 : decode cX12_behind 98 = .ok (.istore_n 3, 1) := by decide +kernel
theorem dX12_behind_99 : decode cX12_behind 99 = .ok (.iinc 4 1, 3) := by decide +kernel
theorem dX12_behind_102 : decode cX12_behind 102 = .ok (.goto (-65), 3) := by decide +kernel
theorem dX12_behind_105 : decode cX12_behind 105 = .ok (.iload_n 1, 1) := by decide +kernel
theorem dX12_behind_106 : decode cX12_behind 106 = .ok (.ifCond .ne 7, 3) := by decide +kernel
theorem dX12_behind_109 : decode cX12_behind 109 = .ok (.iload_n 2, 1) := by decide +kernel
theorem dX12_behind_110 : decode cX12_behind 110 = .ok (.goto 4, 3) := by decide +kernel
theorem dX12_behind_113 : decode cX12_behind 113 = .ok (.iload_n 3, 1) := by decide +kernel
theorem dX12_behind_114 : decode cX12_behind 114 = .ok (.ireturn, 1) := by decide +kernel
theorem dX12_draw_0 : decode cX12_draw 0 = .ok (.aload_n 0, 1) := by decide +kernel
theorem dX12_draw_1 : decode cX12_draw 1 = .ok (.aload_n 0, 1) := by decide +kernel
theorem dX12_draw_2 : decode cX12_draw 2 = .ok (.getfield 394, 3) := by decide +kernel
theorem dX12_draw_5 : decode cX12_draw 5 = .ok (.ldc_w 397, 3) := by decide +kernel
theorem dX12_draw_8 : decode cX12_draw 8 = .ok (.imul, 1) := by decide +kernel
theorem dX12_draw_9 : decode cX12_draw 9 = .ok (.sipush 12345, 3) := by decide +kernel
theorem dX12_draw_12 : decode cX12_draw 12 = .ok (.iadd, 1) := by decide +kernel
theorem dX12_draw_13 : decode cX12_draw 13 = .ok (.putfield 394, 3) := by decide +kernel
theorem dX12_draw_16 : decode cX12_draw 16 = .ok (.aload_n 0, 1) := by decide +kernel
theorem dX12_draw_17 : decode cX12_draw 17 = .ok (.getfield 394, 3) := by decide +kernel
theorem dX12_draw_20 : decode cX12_draw 20 = .ok (.bipush 16, 2) := by decide +kernel
theorem dX12_draw_22 : decode cX12_draw 22 = .ok (.ishr, 1) := by decide +kernel
theorem dX12_draw_23 : decode cX12_draw 23 = .ok (.sipush 32767, 3) := by decide +kernel
theorem dX12_draw_26 : decode cX12_draw 26 = .ok (.iand, 1) := by decide +kernel
theorem dX12_draw_27 : decode cX12_draw 27 = .ok (.iload_n 1, 1) := by decide +kernel
theorem dX12_draw_28 : decode cX12_draw 28 = .ok (.irem, 1) := by decide +kernel
theorem dX12_draw_29 : decode cX12_draw 29 = .ok (.ireturn, 1) := by decide +kernel
theorem dX12_onceBy_0 : decode cX12_onceBy 0 = .ok (.aload_n 0, 1) := by decide +kernel
theorem dX12_onceBy_1 : decode cX12_onceBy 1 = .ok (.aload_n 0, 1) := by decide +kernel
theorem dX12_onceBy_2 : decode cX12_onceBy 2 = .ok (.getfield 23, 3) := by decide +kernel
theorem dX12_onceBy_5 : decode cX12_onceBy 5 = .ok (.iconst 0, 1) := by decide +kernel
theorem dX12_onceBy_6 : decode cX12_onceBy 6 = .ok (.iaload, 1) := by decide +kernel
theorem dX12_onceBy_7 : decode cX12_onceBy 7 = .ok (.invokevirtual 398, 3) := by decide +kernel
theorem dX12_onceBy_10 : decode cX12_onceBy 10 = .ok (.istore_n 3, 1) := by decide +kernel
theorem dX12_onceBy_11 : decode cX12_onceBy 11 = .ok (.aload_n 0, 1) := by decide +kernel
theorem dX12_onceBy_12 : decode cX12_onceBy 12 = .ok (.bipush 8, 2) := by decide +kernel
theorem dX12_onceBy_14 : decode cX12_onceBy 14 = .ok (.invokevirtual 398, 3) := by decide +kernel
theorem dX12_onceBy_17 : decode cX12_onceBy 17 = .ok (.istore 4, 2) := by decide +kernel
theorem dX12_onceBy_19 : decode cX12_onceBy 19 = .ok (.iload 4, 2) := by decide +kernel
theorem dX12_onceBy_21 : decode cX12_onceBy 21 = .ok (.iconst 2, 1) := by decide +kernel
theorem dX12_onceBy_22 : decode cX12_onceBy 22 = .ok (.if_icmp .ge 19, 3) := by decide +kernel
theorem dX12_onceBy_25 : decode cX12_onceBy 25 = .ok (.aload_n 0, 1) := by decide +kernel
theorem dX12_onceBy_26 : decode cX12_onceBy 26 = .ok (.aload_n 1, 1) := by decide +kernel
theorem dX12_onceBy_27 : decode cX12_onceBy 27 = .ok (.iload_n 3, 1) := by decide +kernel
theorem dX12_onceBy_28 : decode cX12_onceBy 28 = .ok (.aload_n 0, 1) := by decide +kernel
theorem dX12_onceBy_29 : decode cX12_onceBy 29 = .ok (.bipush 100, 2) := by decide +kernel
theorem dX12_onceBy_31 : decode cX12_onceBy 31 = .ok (.invokevirtual 398, 3) := by decide +kernel
theorem dX12_onceBy_34 : decode cX12_onceBy 34 = .ok (.invokevirtual 295, 3) := by decide +kernel
theorem dX12_onceBy_37 : decode cX12_onceBy 37 = .ok (.pop, 1) := by decide +kernel
theorem dX12_onceBy_38 : decode cX12_onceBy 38 = .ok (.goto 93, 3) := by decide +kernel
theorem dX12_onceBy_41 : decode cX12_onceBy 41 = .ok (.iload 4, 2) := by decide +kernel
theorem dX12_onceBy_43 : decode cX12_onceBy 43 = .ok (.iconst 5, 1) := by decide +kernel
theorem dX12_onceBy_44 : decode cX12_onceBy 44 = .ok (.if_icmp .ge 24, 3) := by decide +kernel
theorem dX12_onceBy_47 : decode cX12_onceBy 47 = .ok (.aload_n 0, 1) := by decide +kernel
theorem dX12_onceBy_48 : decode cX12_onceBy 48 = .ok (.aload_n 1, 1) := by decide +kernel
theorem dX12_onceBy_49 : decode cX12_onceBy 49 = .ok (.iload_n 3, 1) := by decide +kernel
theorem dX12_onceBy_50 : decode cX12_onceBy 50 = .ok (.iload 4, 2) := by decide +kernel
theorem dX12_onceBy_52 : decode cX12_onceBy 52 = .ok (.iconst 4, 1) := by decide +kernel
theorem dX12_onceBy_53 : decode cX12_onceBy 53 = .ok (.if_icmp .ne 7, 3) := by decide +kernel
theorem dX12_onceBy_56 : decode cX12_onceBy 56 = .ok (.iconst 1, 1) := by decide +kernel
theorem dX12_onceBy_57 : decode cX12_onceBy 57 = .ok (.goto 4, 3) := by decide +kernel
theorem dX12_onceBy_60 : decode cX12_onceBy 60 = .ok (.iconst 0, 1) := by decide +kernel
theorem dX12_onceBy_61 : decode cX12_onceBy 61 = .ok (.invokevirtual 315, 3) := by decide +kernel
theorem dX12_onceBy_64 : decode cX12_onceBy 64 = .ok (.pop, 1) := by decide +kernel
theorem dX12_onceBy_65 : decode cX12_onceBy 65 = .ok (.goto 66, 3) := by decide +kernel
theorem dX12_onceBy_68 : decode cX12_onceBy 68 = .ok (.iload 4, 2) := by decide +kernel
theorem dX12_onceBy_70 : decode cX12_onceBy 70 = .ok (.iconst 5, 1) := by decide +kernel
theorem dX12_onceBy_71 : decode cX12_onceBy 71 = .ok (.if_icmp .ne 13, 3) := by decide +kernel
theorem dX12_onceBy_74 : decode cX12_onceBy 74 = .ok (.aload_n 0, 1) := by decide +kernel
theorem dX12_onceBy_75 : decode cX12_onceBy 75 = .ok (.aload_n 1, 1) := by decide +kernel
theorem dX12_onceBy_76 : decode cX12_onceBy 76 = .ok (.iload_n 3, 1) := by decide +kernel
theorem dX12_onceBy_77 : decode cX12_onceBy 77 = .ok (.invokevirtual 319, 3) := by decide +kernel
theorem dX12_onceBy_80 : decode cX12_onceBy 80 = .ok (.pop, 1) := by decide +kernel
theorem dX12_onceBy_81 : decode cX12_onceBy 81 = .ok (.goto 50, 3) := by decide +kernel
theorem dX12_onceBy_84 : decode cX12_onceBy 84 = .ok (.iload 4, 2) := by decide +kernel
theorem dX12_onceBy_86 : decode cX12_onceBy 86 = .ok (.bipush 7, 2) := by decide +kernel
theorem dX12_onceBy_88 : decode cX12_onceBy 88 = .ok (.if_icmp .ne 18, 3) := by decide +kernel
theorem dX12_onceBy_91 : decode cX12_onceBy 91 = .ok (.aload_n 0, 1) := by decide +kernel
theorem dX12_onceBy_92 : decode cX12_onceBy 92 = .ok (.aload_n 1, 1) := by decide +kernel
theorem dX12_onceBy_93 : decode cX12_onceBy 93 = .ok (.invokevirtual 331, 3) := by decide +kernel
theorem dX12_onceBy_96 : decode cX12_onceBy 96 = .ok (.pop, 1) := by decide +kernel
theorem dX12_onceBy_97 : decode cX12_onceBy 97 = .ok (.aload_n 0, 1) := by decide +kernel
theorem dX12_onceBy_98 : decode cX12_onceBy 98 = .ok (.aload_n 1, 1) := by decide +kernel
theorem dX12_onceBy_99 : decode cX12_onceBy 99 = .ok (.invokevirtual 335, 3) := by decide +kernel
theorem dX12_onceBy_102 : decode cX12_onceBy 102 = .ok (.pop, 1) := by decide +kernel
theorem dX12_onceBy_103 : decode cX12_onceBy 103 = .ok (.goto 28, 3) := by decide +kernel
theorem dX12_onceBy_106 : decode cX12_onceBy 106 = .ok (.aload_n 0, 1) := by decide +kernel
theorem dX12_onceBy_107 : decode cX12_onceBy 107 = .ok (.bipush 16, 2) := by decide +kernel
theorem dX12_onceBy_109 : decode cX12_onceBy 109 = .ok (.invokevirtual 398, 3) := by decide +kernel
theorem dX12_onceBy_112 : decode cX12_onceBy 112 = .ok (.iload_n 2, 1) := by decide +kernel
theorem dX12_onceBy_113 : decode cX12_onceBy 113 = .ok (.if_icmp .ge 12, 3) := by decide +kernel
theorem dX12_onceBy_116 : decode cX12_onceBy 116 = .ok (.aload_n 1, 1) := by decide +kernel
theorem dX12_onceBy_117 : decode cX12_onceBy 117 = .ok (.iload_n 3, 1) := by decide +kernel
theorem dX12_onceBy_118 : decode cX12_onceBy 118 = .ok (.invokestatic 325, 3) := by decide +kernel
theorem dX12_onceBy_121 : decode cX12_onceBy 121 = .ok (.pop, 1) := by decide +kernel
theorem dX12_onceBy_122 : decode cX12_onceBy 122 = .ok (.goto 9, 3) := by decide +kernel
theorem dX12_onceBy_125 : decode cX12_onceBy 125 = .ok (.aload_n 1, 1) := by decide +kernel
theorem dX12_onceBy_126 : decode cX12_onceBy 126 = .ok (.iload_n 3, 1) := by decide +kernel
theorem dX12_onceBy_127 : decode cX12_onceBy 127 = .ok (.invokestatic 328, 3) := by decide +kernel
theorem dX12_onceBy_130 : decode cX12_onceBy 130 = .ok (.pop, 1) := by decide +kernel
theorem dX12_onceBy_131 : decode cX12_onceBy 131 = .ok (.return_, 1) := by decide +kernel
theorem dX12_stormBy_0 : decode cX12_stormBy 0 = .ok (.aload_n 0, 1) := by decide +kernel
theorem dX12_stormBy_1 : decode cX12_stormBy 1 = .ok (.getfield 49, 3) := by decide +kernel
theorem dX12_stormBy_4 : decode cX12_stormBy 4 = .ok (.aload_n 0, 1) := by decide +kernel
theorem dX12_stormBy_5 : decode cX12_stormBy 5 = .ok (.getfield 52, 3) := by decide +kernel
theorem dX12_stormBy_8 : decode cX12_stormBy 8 = .ok (.invokestatic 351, 3) := by decide +kernel
theorem dX12_stormBy_11 : decode cX12_stormBy 11 = .ok (.aload_n 0, 1) := by decide +kernel
theorem dX12_stormBy_12 : decode cX12_stormBy 12 = .ok (.iload_n 1, 1) := by decide +kernel
theorem dX12_stormBy_13 : decode cX12_stormBy 13 = .ok (.putfield 394, 3) := by decide +kernel
theorem dX12_stormBy_16 : decode cX12_stormBy 16 = .ok (.iconst 0, 1) := by decide +kernel
theorem dX12_stormBy_17 : decode cX12_stormBy 17 = .ok (.istore 4, 2) := by decide +kernel
theorem dX12_stormBy_19 : decode cX12_stormBy 19 = .ok (.iload 4, 2) := by decide +kernel
theorem dX12_stormBy_21 : decode cX12_stormBy 21 = .ok (.iload_n 2, 1) := by decide +kernel
theorem dX12_stormBy_22 : decode cX12_stormBy 22 = .ok (.if_icmp .ge 27, 3) := by decide +kernel
theorem dX12_stormBy_25 : decode cX12_stormBy 25 = .ok (.aload_n 0, 1) := by decide +kernel
theorem dX12_stormBy_26 : decode cX12_stormBy 26 = .ok (.getfield 23, 3) := by decide +kernel
theorem dX12_stormBy_29 : decode cX12_stormBy 29 = .ok (.iconst 0, 1) := by decide +kernel
theorem dX12_stormBy_30 : decode cX12_stormBy 30 = .ok (.iaload, 1) := by decide +kernel
theorem dX12_stormBy_31 : decode cX12_stormBy 31 = .ok (.ifCond .le 18, 3) := by decide +kernel
theorem dX12_stormBy_34 : decode cX12_stormBy 34 = .ok (.aload_n 0, 1) := by decide +kernel
theorem dX12_stormBy_35 : decode cX12_stormBy 35 = .ok (.aload_n 0, 1) := by decide +kernel
theorem dX12_stormBy_36 : decode cX12_stormBy 36 = .ok (.getfield 52, 3) := by decide +kernel
theorem dX12_stormBy_39 : decode cX12_stormBy 39 = .ok (.iload_n 3, 1) := by decide +kernel
theorem dX12_stormBy_40 : decode cX12_stormBy 40 = .ok (.invokevirtual 401, 3) := by decide +kernel
theorem dX12_stormBy_43 : decode cX12_stormBy 43 = .ok (.iinc 4 1, 3) := by decide +kernel
theorem dX12_stormBy_46 : decode cX12_stormBy 46 = .ok (.goto (-27), 3) := by decide +kernel
theorem dX12_stormBy_49 : decode cX12_stormBy 49 = .ok (.return_, 1) := by decide +kernel
theorem dX12_isStorm_0 : decode cX12_isStorm 0 = .ok (.iload_n 0, 1) := by decide +kernel
theorem dX12_isStorm_1 : decode cX12_isStorm 1 = .ok (.iconst 1, 1) := by decide +kernel
theorem dX12_isStorm_2 : decode cX12_isStorm 2 = .ok (.bipush 96, 2) := by decide +kernel
theorem dX12_isStorm_4 : decode cX12_isStorm 4 = .ok (.invokestatic 104, 3) := by decide +kernel
theorem dX12_isStorm_7 : decode cX12_isStorm 7 = .ok (.ifCond .eq 17, 3) := by decide +kernel
theorem dX12_isStorm_10 : decode cX12_isStorm 10 = .ok (.iload_n 1, 1) := by decide +kernel
theorem dX12_isStorm_11 : decode cX12_isStorm 11 = .ok (.iconst 0, 1) := by decide +kernel
theorem dX12_isStorm_12 : decode cX12_isStorm 12 = .ok (.bipush 16, 2) := by decide +kernel
theorem dX12_isStorm_14 : decode cX12_isStorm 14 = .ok (.invokestatic 104, 3) := by decide +kernel
theorem dX12_isStorm_17 : decode cX12_isStorm 17 = .ok (.ifCond .eq 7, 3) := by decide +kernel
theorem dX12_isStorm_20 : decode cX12_isStorm 20 = .ok (.iconst 1, 1) := by decide +kernel
theorem dX12_isStorm_21 : decode cX12_isStorm 21 = .ok (.goto 4, 3) := by decide +kernel
theorem dX12_isStorm_24 : decode cX12_isStorm 24 = .ok (.iconst 0, 1) := by decide +kernel
theorem dX12_isStorm_25 : decode cX12_isStorm 25 = .ok (.ireturn, 1) := by decide +kernel
theorem dX12_storm_0 : decode cX12_storm 0 = .ok (.aload_n 0, 1) := by decide +kernel
theorem dX12_storm_1 : decode cX12_storm 1 = .ok (.iconst 0, 1) := by decide +kernel
theorem dX12_storm_2 : decode cX12_storm 2 = .ok (.putfield 70, 3) := by decide +kernel
theorem dX12_storm_5 : decode cX12_storm 5 = .ok (.aload_n 0, 1) := by decide +kernel
theorem dX12_storm_6 : decode cX12_storm 6 = .ok (.iload_n 2, 1) := by decide +kernel
theorem dX12_storm_7 : decode cX12_storm 7 = .ok (.iload_n 3, 1) := by decide +kernel
theorem dX12_storm_8 : decode cX12_storm 8 = .ok (.invokestatic 404, 3) := by decide +kernel
theorem dX12_storm_11 : decode cX12_storm 11 = .ok (.ifCond .eq 13, 3) := by decide +kernel
theorem dX12_storm_14 : decode cX12_storm 14 = .ok (.iload 4, 2) := by decide +kernel
theorem dX12_storm_16 : decode cX12_storm 16 = .ok (.iconst 0, 1) := by decide +kernel
theorem dX12_storm_17 : decode cX12_storm 17 = .ok (.iconst 3, 1) := by decide +kernel
theorem dX12_storm_18 : decode cX12_storm 18 = .ok (.invokestatic 104, 3) := by decide +kernel
theorem dX12_storm_21 : decode cX12_storm 21 = .ok (.ifCond .ne 7, 3) := by decide +kernel
theorem dX12_storm_24 : decode cX12_storm 24 = .ok (.iconst 1, 1) := by decide +kernel
theorem dX12_storm_25 : decode cX12_storm 25 = .ok (.goto 4, 3) := by decide +kernel
theorem dX12_storm_28 : decode cX12_storm 28 = .ok (.iconst 0, 1) := by decide +kernel
theorem dX12_storm_29 : decode cX12_storm 29 = .ok (.iconst 1, 1) := by decide +kernel
theorem dX12_storm_30 : decode cX12_storm 30 = .ok (.iconst 1, 1) := by decide +kernel
theorem dX12_storm_31 : decode cX12_storm 31 = .ok (.invokevirtual 140, 3) := by decide +kernel
theorem dX12_storm_34 : decode cX12_storm 34 = .ok (.ifCond .eq 5, 3) := by decide +kernel
theorem dX12_storm_37 : decode cX12_storm 37 = .ok (.iconst 0, 1) := by decide +kernel
theorem dX12_storm_38 : decode cX12_storm 38 = .ok (.ireturn, 1) := by decide +kernel
theorem dX12_storm_39 : decode cX12_storm 39 = .ok (.aload_n 0, 1) := by decide +kernel
theorem dX12_storm_40 : decode cX12_storm 40 = .ok (.iload_n 1, 1) := by decide +kernel
theorem dX12_storm_41 : decode cX12_storm 41 = .ok (.iload_n 2, 1) := by decide +kernel
theorem dX12_storm_42 : decode cX12_storm 42 = .ok (.iload_n 3, 1) := by decide +kernel
theorem dX12_storm_43 : decode cX12_storm 43 = .ok (.invokevirtual 407, 3) := by decide +kernel
theorem dX12_storm_46 : decode cX12_storm 46 = .ok (.iload 4, 2) := by decide +kernel
theorem dX12_storm_48 : decode cX12_storm 48 = .ok (.ifCond .ne 14, 3) := by decide +kernel
theorem dX12_storm_51 : decode cX12_storm 51 = .ok (.aload_n 0, 1) := by decide +kernel
theorem dX12_storm_52 : decode cX12_storm 52 = .ok (.getfield 52, 3) := by decide +kernel
theorem dX12_storm_55 : decode cX12_storm 55 = .ok (.sipush 181, 3) := by decide +kernel
theorem dX12_storm_58 : decode cX12_storm 58 = .ok (.iaload, 1) := by decide +kernel
theorem dX12_storm_59 : decode cX12_storm 59 = .ok (.goto 53, 3) := by decide +kernel
theorem dX12_storm_62 : decode cX12_storm 62 = .ok (.iload 4, 2) := by decide +kernel
theorem dX12_storm_64 : decode cX12_storm 64 = .ok (.iconst 1, 1) := by decide +kernel
theorem dX12_storm_65 : decode cX12_storm 65 = .ok (.if_icmp .ne 14, 3) := by decide +kernel
theorem dX12_storm_68 : decode cX12_storm 68 = .ok (.aload_n 0, 1) := by decide +kernel
theorem dX12_storm_69 : decode cX12_storm 69 = .ok (.getfield 52, 3) := by decide +kernel
theorem dX12_storm_72 : decode cX12_storm 72 = .ok (.sipush 182, 3) := by decide +kernel
theorem dX12_storm_75 : decode cX12_storm 75 = .ok (.iaload, 1) := by decide +kernel
theorem dX12_storm_76 : decode cX12_storm 76 = .ok (.goto 36, 3) := by decide +kernel
theorem dX12_storm_79 : decode cX12_storm 79 = .ok (.iload 4, 2) := by decide +kernel
theorem dX12_storm_81 : decode cX12_storm 81 = .ok (.iconst 2, 1) := by decide +kernel
theorem dX12_storm_82 : decode cX12_storm 82 = .ok (.if_icmp .ne 14, 3) := by decide +kernel
theorem dX12_storm_85 : decode cX12_storm 85 = .ok (.aload_n 0, 1) := by decide +kernel
theorem dX12_storm_86 : decode cX12_storm 86 = .ok (.getfield 52, 3) := by decide +kernel
theorem dX12_storm_89 : decode cX12_storm 89 = .ok (.sipush 187, 3) := by decide +kernel
theorem dX12_storm_92 : decode cX12_storm 92 = .ok (.iaload, 1) := by decide +kernel
theorem dX12_storm_93 : decode cX12_storm 93 = .ok (.goto 19, 3) := by decide +kernel
theorem dX12_storm_96 : decode cX12_storm 96 = .ok (.aload_n 0, 1) := by decide +kernel
theorem dX12_storm_97 : decode cX12_storm 97 = .ok (.aload_n 0, 1) := by decide +kernel
theorem dX12_storm_98 : decode cX12_storm 98 = .ok (.getfield 52, 3) := by decide +kernel
theorem dX12_storm_101 : decode cX12_storm 101 = .ok (.invokevirtual 370, 3) := by decide +kernel
theorem dX12_storm_104 : decode cX12_storm 104 = .ok (.ifCond .eq 7, 3) := by decide +kernel
theorem dX12_storm_107 : decode cX12_storm 107 = .ok (.iconst 1, 1) := by decide +kernel
theorem dX12_storm_108 : decode cX12_storm 108 = .ok (.goto 4, 3) := by decide +kernel
theorem dX12_storm_111 : decode cX12_storm 111 = .ok (.iconst 0, 1) := by decide +kernel
theorem dX12_storm_112 : decode cX12_storm 112 = .ok (.ireturn, 1) := by decide +kernel
theorem dX12_span_0 : decode cX12_span 0 = .ok (.aload_n 0, 1) := by decide +kernel
theorem dX12_span_1 : decode cX12_span 1 = .ok (.iconst 0, 1) := by decide +kernel
theorem dX12_span_2 : decode cX12_span 2 = .ok (.putfield 70, 3) := by decide +kernel
theorem dX12_span_5 : decode cX12_span 5 = .ok (.aload_n 0, 1) := by decide +kernel
theorem dX12_span_6 : decode cX12_span 6 = .ok (.aload_n 0, 1) := by decide +kernel
theorem dX12_span_7 : decode cX12_span 7 = .ok (.iload 6, 2) := by decide +kernel
theorem dX12_span_9 : decode cX12_span 9 = .ok (.invokevirtual 355, 3) := by decide +kernel
theorem dX12_span_12 : decode cX12_span 12 = .ok (.ifCond .ne 7, 3) := by decide +kernel
theorem dX12_span_15 : decode cX12_span 15 = .ok (.iconst 1, 1) := by decide +kernel
theorem dX12_span_16 : decode cX12_span 16 = .ok (.goto 4, 3) := by decide +kernel
theorem dX12_span_19 : decode cX12_span 19 = .ok (.iconst 0, 1) := by decide +kernel
theorem dX12_span_20 : decode cX12_span 20 = .ok (.iconst 1, 1) := by decide +kernel
theorem dX12_span_21 : decode cX12_span 21 = .ok (.iconst 0, 1) := by decide +kernel
theorem dX12_span_22 : decode cX12_span 22 = .ok (.invokevirtual 140, 3) := by decide +kernel
theorem dX12_span_25 : decode cX12_span 25 = .ok (.ifCond .ne 46, 3) := by decide +kernel
theorem dX12_span_28 : decode cX12_span 28 = .ok (.aload_n 0, 1) := by decide +kernel
theorem dX12_span_29 : decode cX12_span 29 = .ok (.iload_n 2, 1) := by decide +kernel
theorem dX12_span_30 : decode cX12_span 30 = .ok (.iconst 1, 1) := by decide +kernel
theorem dX12_span_31 : decode cX12_span 31 = .ok (.bipush 10, 2) := by decide +kernel
theorem dX12_span_33 : decode cX12_span 33 = .ok (.invokestatic 104, 3) := by decide +kernel
theorem dX12_span_36 : decode cX12_span 36 = .ok (.ifCond .eq 22, 3) := by decide +kernel
theorem dX12_span_39 : decode cX12_span 39 = .ok (.iload_n 3, 1) := by decide +kernel
theorem dX12_span_40 : decode cX12_span 40 = .ok (.iload 4, 2) := by decide +kernel
theorem dX12_span_42 : decode cX12_span 42 = .ok (.invokestatic 404, 3) := by decide +kernel
theorem dX12_span_45 : decode cX12_span 45 = .ok (.ifCond .eq 13, 3) := by decide +kernel
theorem dX12_span_48 : decode cX12_span 48 = .ok (.iload 5, 2) := by decide +kernel
theorem dX12_span_50 : decode cX12_span 50 = .ok (.iconst 0, 1) := by decide +kernel
theorem dX12_span_51 : decode cX12_span 51 = .ok (.iconst 2, 1) := by decide +kernel
theorem dX12_span_52 : decode cX12_span 52 = .ok (.invokestatic 104, 3) := by decide +kernel
theorem dX12_span_55 : decode cX12_span 55 = .ok (.ifCond .ne 7, 3) := by decide +kernel
theorem dX12_span_58 : decode cX12_span 58 = .ok (.iconst 1, 1) := by decide +kernel
theorem dX12_span_59 : decode cX12_span 59 = .ok (.goto 4, 3) := by decide +kernel
theorem dX12_span_62 : decode cX12_span 62 = .ok (.iconst 0, 1) := by decide +kernel
theorem dX12_span_63 : decode cX12_span 63 = .ok (.iconst 2, 1) := by decide +kernel
theorem dX12_span_64 : decode cX12_span 64 = .ok (.iconst 1, 1) := by decide +kernel
theorem dX12_span_65 : decode cX12_span 65 = .ok (.invokevirtual 140, 3) := by decide +kernel
theorem dX12_span_68 : decode cX12_span 68 = .ok (.ifCond .eq 5, 3) := by decide +kernel
theorem dX12_span_71 : decode cX12_span 71 = .ok (.iconst 0, 1) := by decide +kernel
theorem dX12_span_72 : decode cX12_span 72 = .ok (.ireturn, 1) := by decide +kernel
theorem dX12_span_73 : decode cX12_span 73 = .ok (.iconst (-1), 1) := by decide +kernel
theorem dX12_span_74 : decode cX12_span 74 = .ok (.istore 7, 2) := by decide +kernel
theorem dX12_span_76 : decode cX12_span 76 = .ok (.iconst 0, 1) := by decide +kernel
theorem dX12_span_77 : decode cX12_span 77 = .ok (.istore 8, 2) := by decide +kernel
theorem dX12_span_79 : decode cX12_span 79 = .ok (.iconst 0, 1) := by decide +kernel
theorem dX12_span_80 : decode cX12_span 80 = .ok (.istore 9, 2) := by decide +kernel
theorem dX12_span_82 : decode cX12_span 82 = .ok (.iconst 0, 1) := by decide +kernel
theorem dX12_span_83 : decode cX12_span 83 = .ok (.istore 10, 2) := by decide +kernel
theorem dX12_span_85 : decode cX12_span 85 = .ok (.iload 10, 2) := by decide +kernel
theorem dX12_span_87 : decode cX12_span 87 = .ok (.iload_n 2, 1) := by decide +kernel
theorem dX12_span_88 : decode cX12_span 88 = .ok (.if_icmp .ge 93, 3) := by decide +kernel
theorem dX12_span_91 : decode cX12_span 91 = .ok (.aload_n 0, 1) := by decide +kernel
theorem dX12_span_92 : decode cX12_span 92 = .ok (.iload_n 1, 1) := by decide +kernel
theorem dX12_span_93 : decode cX12_span 93 = .ok (.iload 10, 2) := by decide +kernel
theorem dX12_span_95 : decode cX12_span 95 = .ok (.iadd, 1) := by decide +kernel
theorem dX12_span_96 : decode cX12_span 96 = .ok (.iload_n 3, 1) := by decide +kernel
theorem dX12_span_97 : decode cX12_span 97 = .ok (.iload 4, 2) := by decide +kernel
theorem dX12_span_99 : decode cX12_span 99 = .ok (.invokevirtual 407, 3) := by decide +kernel
theorem dX12_span_102 : decode cX12_span 102 = .ok (.iload 7, 2) := by decide +kernel
theorem dX12_span_104 : decode cX12_span 104 = .ok (.iconst (-1), 1) := by decide +kernel
theorem dX12_span_105 : decode cX12_span 105 = .ok (.if_icmp .ne 14, 3) := by decide +kernel
theorem dX12_span_108 : decode cX12_span 108 = .ok (.aload_n 0, 1) := by decide +kernel
theorem dX12_span_109 : decode cX12_span 109 = .ok (.getfield 52, 3) := by decide +kernel
theorem dX12_span_112 : decode cX12_span 112 = .ok (.sipush 181, 3) := by decide +kernel
theorem dX12_span_115 : decode cX12_span 115 = .ok (.iaload, 1) := by decide +kernel
theorem dX12_span_116 : decode cX12_span 116 = .ok (.goto 16, 3) := by decide +kernel
theorem dX12_span_119 : decode cX12_span 119 = .ok (.iload 7, 2) := by decide +kernel
theorem dX12_span_121 : decode cX12_span 121 = .ok (.aload_n 0, 1) := by decide +kernel
theorem dX12_span_122 : decode cX12_span 122 = .ok (.getfield 52, 3) := by decide +kernel
theorem dX12_span_125 : decode cX12_span 125 = .ok (.sipush 181, 3) := by decide +kernel
theorem dX12_span_128 : decode cX12_span 128 = .ok (.iaload, 1) := by decide +kernel
theorem dX12_span_129 : decode cX12_span 129 = .ok (.invokestatic 204, 3) := by decide +kernel
theorem dX12_span_132 : decode cX12_span 132 = .ok (.istore 7, 2) := by decide +kernel
theorem dX12_span_134 : decode cX12_span 134 = .ok (.iload 8, 2) := by decide +kernel
theorem dX12_span_136 : decode cX12_span 136 = .ok (.aload_n 0, 1) := by decide +kernel
theorem dX12_span_137 : decode cX12_span 137 = .ok (.getfield 52, 3) := by decide +kernel
theorem dX12_span_140 : decode cX12_span 140 = .ok (.sipush 181, 3) := by decide +kernel
theorem dX12_span_143 : decode cX12_span 143 = .ok (.iaload, 1) := by decide +kernel
theorem dX12_span_144 : decode cX12_span 144 = .ok (.invokestatic 207, 3) := by decide +kernel
theorem dX12_span_147 : decode cX12_span 147 = .ok (.istore 8, 2) := by decide +kernel
theorem dX12_span_149 : decode cX12_span 149 = .ok (.iload 9, 2) := by decide +kernel
theorem dX12_span_151 : decode cX12_span 151 = .ok (.aload_n 0, 1) := by decide +kernel
theorem dX12_span_152 : decode cX12_span 152 = .ok (.getfield 52, 3) := by decide +kernel
theorem dX12_span_155 : decode cX12_span 155 = .ok (.sipush 183, 3) := by decide +kernel
theorem dX12_span_158 : decode cX12_span 158 = .ok (.iaload, 1) := by decide +kernel
theorem dX12_span_159 : decode cX12_span 159 = .ok (.iload 6, 2) := by decide +kernel
theorem dX12_span_161 : decode cX12_span 161 = .ok (.invokestatic 153, 3) := by decide +kernel
theorem dX12_span_164 : decode cX12_span 164 = .ok (.ifCond .eq 7, 3) := by decide +kernel
theorem dX12_span_167 : decode cX12_span 167 = .ok (.iconst 1, 1) := by decide +kernel
theorem dX12_span_168 : decode cX12_span 168 = .ok (.goto 4, 3) := by decide +kernel
theorem dX12_span_171 : decode cX12_span 171 = .ok (.iconst 0, 1) := by decide +kernel
theorem dX12_span_172 : decode cX12_span 172 = .ok (.iadd, 1) := by decide +kernel
theorem dX12_span_173 : decode cX12_span 173 = .ok (.istore 9, 2) := by decide +kernel
theorem dX12_span_175 : decode cX12_span 175 = .ok (.iinc 10 1, 3) := by decide +kernel
theorem dX12_span_178 : decode cX12_span 178 = .ok (.goto (-93), 3) := by decide +kernel
theorem dX12_span_181 : decode cX12_span 181 = .ok (.iload 5, 2) := by decide +kernel
theorem dX12_span_183 : decode cX12_span 183 = .ok (.ifCond .ne 8, 3) := by decide +kernel
theorem dX12_span_186 : decode cX12_span 186 = .ok (.iload 7, 2) := by decide +kernel
theorem dX12_span_188 : decode cX12_span 188 = .ok (.goto 16, 3) := by decide +kernel
theorem dX12_span_191 : decode cX12_span 191 = .ok (.iload 5, 2) := by decide +kernel
theorem dX12_span_193 : decode cX12_span 193 = .ok (.iconst 1, 1) := by decide +kernel
theorem dX12_span_194 : decode cX12_span 194 = .ok (.if_icmp .ne 8, 3) := by decide +kernel
theorem dX12_span_197 : decode cX12_span 197 = .ok (.iload 8, 2) := by decide +kernel
theorem dX12_span_199 : decode cX12_span 199 = .ok (.goto 5, 3) := by decide +kernel
theorem dX12_span_202 : decode cX12_span 202 = .ok (.iload 9, 2) := by decide +kernel
theorem dX12_span_204 : decode cX12_span 204 = .ok (.ireturn, 1) := by decide +kernel
theorem dX12_puts_0 : decode cX12_puts 0 = .ok (.iload_n 3, 1) := by decide +kernel
theorem dX12_puts_1 : decode cX12_puts 1 = .ok (.ifCond .ne 10, 3) := by decide +kernel
theorem dX12_puts_4 : decode cX12_puts 4 = .ok (.aload_n 1, 1) := by decide +kernel
theorem dX12_puts_5 : decode cX12_puts 5 = .ok (.aload_n 0, 1) := by decide +kernel
theorem dX12_puts_6 : decode cX12_puts 6 = .ok (.getfield 411, 3) := by decide +kernel
theorem dX12_puts_9 : decode cX12_puts 9 = .ok (.iload_n 2, 1) := by decide +kernel
theorem dX12_puts_10 : decode cX12_puts 10 = .ok (.iastore, 1) := by decide +kernel
theorem dX12_puts_11 : decode cX12_puts 11 = .ok (.aload_n 0, 1) := by decide +kernel
theorem dX12_puts_12 : decode cX12_puts 12 = .ok (.dup, 1) := by decide +kernel
theorem dX12_puts_13 : decode cX12_puts 13 = .ok (.getfield 411, 3) := by decide +kernel
theorem dX12_puts_16 : decode cX12_puts 16 = .ok (.iconst 1, 1) := by decide +kernel
theorem dX12_puts_17 : decode cX12_puts 17 = .ok (.iadd, 1) := by decide +kernel
theorem dX12_puts_18 : decode cX12_puts 18 = .ok (.putfield 411, 3) := by decide +kernel
theorem dX12_puts_21 : decode cX12_puts 21 = .ok (.aload_n 1, 1) := by decide +kernel
theorem dX12_puts_22 : decode cX12_puts 22 = .ok (.aload_n 0, 1) := by decide +kernel
theorem dX12_puts_23 : decode cX12_puts 23 = .ok (.getfield 411, 3) := by decide +kernel
theorem dX12_puts_26 : decode cX12_puts 26 = .ok (.iconst 1, 1) := by decide +kernel
theorem dX12_puts_27 : decode cX12_puts 27 = .ok (.isub, 1) := by decide +kernel
theorem dX12_puts_28 : decode cX12_puts 28 = .ok (.iaload, 1) := by decide +kernel
theorem dX12_puts_29 : decode cX12_puts 29 = .ok (.ireturn, 1) := by decide +kernel
theorem dX12_putsAll_0 : decode cX12_putsAll 0 = .ok (.aload_n 0, 1) := by decide +kernel
theorem dX12_putsAll_1 : decode cX12_putsAll 1 = .ok (.iconst 0, 1) := by decide +kernel
theorem dX12_putsAll_2 : decode cX12_putsAll 2 = .ok (.putfield 411, 3) := by decide +kernel
theorem dX12_putsAll_5 : decode cX12_putsAll 5 = .ok (.aload_n 0, 1) := by decide +kernel
theorem dX12_putsAll_6 : decode cX12_putsAll 6 = .ok (.aload_n 0, 1) := by decide +kernel
theorem dX12_putsAll_7 : decode cX12_putsAll 7 = .ok (.aload_n 1, 1) := by decide +kernel
theorem dX12_putsAll_8 : decode cX12_putsAll 8 = .ok (.aload_n 0, 1) := by decide +kernel
theorem dX12_putsAll_9 : decode cX12_putsAll 9 = .ok (.getfield 163, 3) := by decide +kernel
theorem dX12_putsAll_12 : decode cX12_putsAll 12 = .ok (.iload_n 2, 1) := by decide +kernel
theorem dX12_putsAll_13 : decode cX12_putsAll 13 = .ok (.invokevirtual 414, 3) := by decide +kernel
theorem dX12_putsAll_16 : decode cX12_putsAll 16 = .ok (.putfield 163, 3) := by decide +kernel
theorem dX12_putsAll_19 : decode cX12_putsAll 19 = .ok (.iconst 0, 1) := by decide +kernel
theorem dX12_putsAll_20 : decode cX12_putsAll 20 = .ok (.istore_n 3, 1) := by decide +kernel
theorem dX12_putsAll_21 : decode cX12_putsAll 21 = .ok (.iload_n 3, 1) := by decide +kernel
theorem dX12_putsAll_22 : decode cX12_putsAll 22 = .ok (.sipush 968, 3) := by decide +kernel
theorem dX12_putsAll_25 : decode cX12_putsAll 25 = .ok (.if_icmp .ge 27, 3) := by decide +kernel
theorem dX12_putsAll_28 : decode cX12_putsAll 28 = .ok (.aload_n 0, 1) := by decide +kernel
theorem dX12_putsAll_29 : decode cX12_putsAll 29 = .ok (.getfield 49, 3) := by decide +kernel
theorem dX12_putsAll_32 : decode cX12_putsAll 32 = .ok (.iload_n 3, 1) := by decide +kernel
theorem dX12_putsAll_33 : decode cX12_putsAll 33 = .ok (.aload_n 0, 1) := by decide +kernel
theorem dX12_putsAll_34 : decode cX12_putsAll 34 = .ok (.aload_n 1, 1) := by decide +kernel
theorem dX12_putsAll_35 : decode cX12_putsAll 35 = .ok (.aload_n 0, 1) := by decide +kernel
theorem dX12_putsAll_36 : decode cX12_putsAll 36 = .ok (.getfield 49, 3) := by decide +kernel
theorem dX12_putsAll_39 : decode cX12_putsAll 39 = .ok (.iload_n 3, 1) := by decide +kernel
theorem dX12_putsAll_40 : decode cX12_putsAll 40 = .ok (.iaload, 1) := by decide +kernel
theorem dX12_putsAll_41 : decode cX12_putsAll 41 = .ok (.iload_n 2, 1) := by decide +kernel
theorem dX12_putsAll_42 : decode cX12_putsAll 42 = .ok (.invokevirtual 414, 3) := by decide +kernel
theorem dX12_putsAll_45 : decode cX12_putsAll 45 = .ok (.iastore, 1) := by decide +kernel
theorem dX12_putsAll_46 : decode cX12_putsAll 46 = .ok (.iinc 3 1, 3) := by decide +kernel
theorem dX12_putsAll_49 : decode cX12_putsAll 49 = .ok (.goto (-28), 3) := by decide +kernel
theorem dX12_putsAll_52 : decode cX12_putsAll 52 = .ok (.iconst 0, 1) := by decide +kernel
theorem dX12_putsAll_53 : decode cX12_putsAll 53 = .ok (.istore_n 3, 1) := by decide +kernel
theorem dX12_putsAll_54 : decode cX12_putsAll 54 = .ok (.iload_n 3, 1) := by decide +kernel
theorem dX12_putsAll_55 : decode cX12_putsAll 55 = .ok (.bipush 16, 2) := by decide +kernel
theorem dX12_putsAll_57 : decode cX12_putsAll 57 = .ok (.if_icmp .ge 50, 3) := by decide +kernel
theorem dX12_putsAll_60 : decode cX12_putsAll 60 = .ok (.iconst 0, 1) := by decide +kernel
theorem dX12_putsAll_61 : decode cX12_putsAll 61 = .ok (.istore 4, 2) := by decide +kernel
theorem dX12_putsAll_63 : decode cX12_putsAll 63 = .ok (.iload 4, 2) := by decide +kernel
theorem dX12_putsAll_65 : decode cX12_putsAll 65 = .ok (.sipush 968, 3) := by decide +kernel
theorem dX12_putsAll_68 : decode cX12_putsAll 68 = .ok (.if_icmp .ge 33, 3) := by decide +kernel
theorem dX12_putsAll_71 : decode cX12_putsAll 71 = .ok (.aload_n 0, 1) := by decide +kernel
theorem dX12_putsAll_72 : decode cX12_putsAll 72 = .ok (.getfield 55, 3) := by decide +kernel
theorem dX12_putsAll_75 : decode cX12_putsAll 75 = .ok (.iload_n 3, 1) := by decide +kernel
theorem dX12_putsAll_76 : decode cX12_putsAll 76 = .ok (.aaload, 1) := by decide +kernel
theorem dX12_putsAll_77 : decode cX12_putsAll 77 = .ok (.iload 4, 2) := by decide +kernel
theorem dX12_putsAll_79 : decode cX12_putsAll 79 = .ok (.aload_n 0, 1) := by decide +kernel
theorem dX12_putsAll_80 : decode cX12_putsAll 80 = .ok (.aload_n 1, 1) := by decide +kernel
theorem dX12_putsAll_81 : decode cX12_putsAll 81 = .ok (.aload_n 0, 1) := by decide +kernel
theorem dX12_putsAll_82 : decode cX12_putsAll 82 = .ok (.getfield 55, 3) := by decide +kernel
theorem dX12_putsAll_85 : decode cX12_putsAll 85 = .ok (.iload_n 3, 1) := by decide +kernel
theorem dX12_putsAll_86 : decode cX12_putsAll 86 = .ok (.aaload, 1) := by decide +kernel
theorem dX12_putsAll_87 : decode cX12_putsAll 87 = .ok (.iload 4, 2) := by decide +kernel
theorem dX12_putsAll_89 : decode cX12_putsAll 89 = .ok (.iaload, 1) := by decide +kernel
theorem dX12_putsAll_90 : decode cX12_putsAll 90 = .ok (.iload_n 2, 1) := by decide +kernel
theorem dX12_putsAll_91 : decode cX12_putsAll 91 = .ok (.invokevirtual 414, 3) := by decide +kernel
theorem dX12_putsAll_94 : decode cX12_putsAll 94 = .ok (.iastore, 1) := by decide +kernel
theorem dX12_putsAll_95 : decode cX12_putsAll 95 = .ok (.iinc 4 1, 3) := by decide +kernel
theorem dX12_putsAll_98 : decode cX12_putsAll 98 = .ok (.goto (-35), 3) := by decide +kernel
theorem dX12_putsAll_101 : decode cX12_putsAll 101 = .ok (.iinc 3 1, 3) := by decide +kernel
theorem dX12_putsAll_104 : decode cX12_putsAll 104 = .ok (.goto (-50), 3) := by decide +kernel
theorem dX12_putsAll_107 : decode cX12_putsAll 107 = .ok (.return_, 1) := by decide +kernel
theorem dX12_image_0 : decode cX12_image 0 = .ok (.aload_n 0, 1) := by decide +kernel
theorem dX12_image_1 : decode cX12_image 1 = .ok (.iconst 0, 1) := by decide +kernel
theorem dX12_image_2 : decode cX12_image 2 = .ok (.putfield 70, 3) := by decide +kernel
theorem dX12_image_5 : decode cX12_image 5 = .ok (.aload_n 0, 1) := by decide +kernel
theorem dX12_image_6 : decode cX12_image 6 = .ok (.getfield 169, 3) := by decide +kernel
theorem dX12_image_9 : decode cX12_image 9 = .ok (.iconst 3, 1) := by decide +kernel
theorem dX12_image_10 : decode cX12_image 10 = .ok (.if_icmp .ne 5, 3) := by decide +kernel
theorem dX12_image_13 : decode cX12_image 13 = .ok (.iconst (-1), 1) := by decide +kernel
theorem dX12_image_14 : decode cX12_image 14 = .ok (.ireturn, 1) := by decide +kernel
theorem dX12_image_15 : decode cX12_image 15 = .ok (.aload_n 0, 1) := by decide +kernel
theorem dX12_image_16 : decode cX12_image 16 = .ok (.aload_n 0, 1) := by decide +kernel
theorem dX12_image_17 : decode cX12_image 17 = .ok (.getfield 58, 3) := by decide +kernel
theorem dX12_image_20 : decode cX12_image 20 = .ok (.aload_n 0, 1) := by decide +kernel
theorem dX12_image_21 : decode cX12_image 21 = .ok (.getfield 169, 3) := by decide +kernel
theorem dX12_image_24 : decode cX12_image 24 = .ok (.aaload, 1) := by decide +kernel
theorem dX12_image_25 : decode cX12_image 25 = .ok (.iconst 0, 1) := by decide +kernel
theorem dX12_image_26 : decode cX12_image 26 = .ok (.invokevirtual 417, 3) := by decide +kernel
theorem dX12_image_29 : decode cX12_image 29 = .ok (.aload_n 0, 1) := by decide +kernel
theorem dX12_image_30 : decode cX12_image 30 = .ok (.dup, 1) := by decide +kernel
theorem dX12_image_31 : decode cX12_image 31 = .ok (.getfield 169, 3) := by decide +kernel
theorem dX12_image_34 : decode cX12_image 34 = .ok (.iconst 1, 1) := by decide +kernel
theorem dX12_image_35 : decode cX12_image 35 = .ok (.iadd, 1) := by decide +kernel
theorem dX12_image_36 : decode cX12_image 36 = .ok (.putfield 169, 3) := by decide +kernel
theorem dX12_image_39 : decode cX12_image 39 = .ok (.aload_n 0, 1) := by decide +kernel
theorem dX12_image_40 : decode cX12_image 40 = .ok (.getfield 169, 3) := by decide +kernel
theorem dX12_image_43 : decode cX12_image 43 = .ok (.ireturn, 1) := by decide +kernel
theorem dX12_restore_0 : decode cX12_restore 0 = .ok (.aload_n 0, 1) := by decide +kernel
theorem dX12_restore_1 : decode cX12_restore 1 = .ok (.iconst 0, 1) := by decide +kernel
theorem dX12_restore_2 : decode cX12_restore 2 = .ok (.putfield 70, 3) := by decide +kernel
theorem dX12_restore_5 : decode cX12_restore 5 = .ok (.aload_n 0, 1) := by decide +kernel
theorem dX12_restore_6 : decode cX12_restore 6 = .ok (.getfield 169, 3) := by decide +kernel
theorem dX12_restore_9 : decode cX12_restore 9 = .ok (.ifCond .ne 5, 3) := by decide +kernel
theorem dX12_restore_12 : decode cX12_restore 12 = .ok (.iconst (-1), 1) := by decide +kernel
theorem dX12_restore_13 : decode cX12_restore 13 = .ok (.ireturn, 1) := by decide +kernel
theorem dX12_restore_14 : decode cX12_restore 14 = .ok (.aload_n 0, 1) := by decide +kernel
theorem dX12_restore_15 : decode cX12_restore 15 = .ok (.dup, 1) := by decide +kernel
theorem dX12_restore_16 : decode cX12_restore 16 = .ok (.getfield 169, 3) := by decide +kernel
theorem dX12_restore_19 : decode cX12_restore 19 = .ok (.iconst 1, 1) := by decide +kernel
theorem dX12_restore_20 : decode cX12_restore 20 = .ok (.isub, 1) := by decide +kernel
theorem dX12_restore_21 : decode cX12_restore 21 = .ok (.putfield 169, 3) := by decide +kernel
theorem dX12_restore_24 : decode cX12_restore 24 = .ok (.aload_n 0, 1) := by decide +kernel
theorem dX12_restore_25 : decode cX12_restore 25 = .ok (.aload_n 0, 1) := by decide +kernel
theorem dX12_restore_26 : decode cX12_restore 26 = .ok (.getfield 58, 3) := by decide +kernel
theorem dX12_restore_29 : decode cX12_restore 29 = .ok (.aload_n 0, 1) := by decide +kernel
theorem dX12_restore_30 : decode cX12_restore 30 = .ok (.getfield 169, 3) := by decide +kernel
theorem dX12_restore_33 : decode cX12_restore 33 = .ok (.aaload, 1) := by decide +kernel
theorem dX12_restore_34 : decode cX12_restore 34 = .ok (.iconst 1, 1) := by decide +kernel
theorem dX12_restore_35 : decode cX12_restore 35 = .ok (.invokevirtual 417, 3) := by decide +kernel
theorem dX12_restore_38 : decode cX12_restore 38 = .ok (.aload_n 0, 1) := by decide +kernel
theorem dX12_restore_39 : decode cX12_restore 39 = .ok (.iconst 0, 1) := by decide +kernel
theorem dX12_restore_40 : decode cX12_restore 40 = .ok (.putfield 166, 3) := by decide +kernel
theorem dX12_restore_43 : decode cX12_restore 43 = .ok (.aload_n 0, 1) := by decide +kernel
theorem dX12_restore_44 : decode cX12_restore 44 = .ok (.getfield 169, 3) := by decide +kernel
theorem dX12_restore_47 : decode cX12_restore 47 = .ok (.ireturn, 1) := by decide +kernel
theorem dX12_status_0 : decode cX12_status 0 = .ok (.aload_n 0, 1) := by decide +kernel
theorem dX12_status_1 : decode cX12_status 1 = .ok (.iconst 0, 1) := by decide +kernel
theorem dX12_status_2 : decode cX12_status 2 = .ok (.putfield 70, 3) := by decide +kernel
theorem dX12_status_5 : decode cX12_status 5 = .ok (.iload_n 1, 1) := by decide +kernel
theorem dX12_status_6 : decode cX12_status 6 = .ok (.iconst 0, 1) := by decide +kernel
theorem dX12_status_7 : decode cX12_status 7 = .ok (.iconst 3, 1) := by decide +kernel
theorem dX12_status_8 : decode cX12_status 8 = .ok (.invokestatic 104, 3) := by decide +kernel
theorem dX12_status_11 : decode cX12_status 11 = .ok (.ifCond .eq 12, 3) := by decide +kernel
theorem dX12_status_14 : decode cX12_status 14 = .ok (.aload_n 0, 1) := by decide +kernel
theorem dX12_status_15 : decode cX12_status 15 = .ok (.getfield 17, 3) := by decide +kernel
theorem dX12_status_18 : decode cX12_status 18 = .ok (.iload_n 1, 1) := by decide +kernel
theorem dX12_status_19 : decode cX12_status 19 = .ok (.iaload, 1) := by decide +kernel
theorem dX12_status_20 : decode cX12_status 20 = .ok (.goto 4, 3) := by decide +kernel
theorem dX12_status_23 : decode cX12_status 23 = .ok (.iconst (-1), 1) := by decide +kernel
theorem dX12_status_24 : decode cX12_status 24 = .ok (.ireturn, 1) := by decide +kernel
theorem dX12_count_0 : decode cX12_count 0 = .ok (.aload_n 0, 1) := by decide +kernel
theorem dX12_count_1 : decode cX12_count 1 = .ok (.iconst 0, 1) := by decide +kernel
theorem dX12_count_2 : decode cX12_count 2 = .ok (.putfield 70, 3) := by decide +kernel
theorem dX12_count_5 : decode cX12_count 5 = .ok (.iload_n 1, 1) := by decide +kernel
theorem dX12_count_6 : decode cX12_count 6 = .ok (.ifCond .ne 10, 3) := by decide +kernel
theorem dX12_count_9 : decode cX12_count 9 = .ok (.aload_n 0, 1) := by decide +kernel
theorem dX12_count_10 : decode cX12_count 10 = .ok (.getfield 169, 3) := by decide +kernel
theorem dX12_count_13 : decode cX12_count 13 = .ok (.goto 28, 3) := by decide +kernel
theorem dX12_count_16 : decode cX12_count 16 = .ok (.iload_n 1, 1) := by decide +kernel
theorem dX12_count_17 : decode cX12_count 17 = .ok (.iconst 1, 1) := by decide +kernel
theorem dX12_count_18 : decode cX12_count 18 = .ok (.if_icmp .ne 10, 3) := by decide +kernel
theorem dX12_count_21 : decode cX12_count 21 = .ok (.aload_n 0, 1) := by decide +kernel
theorem dX12_count_22 : decode cX12_count 22 = .ok (.getfield 73, 3) := by decide +kernel
theorem dX12_count_25 : decode cX12_count 25 = .ok (.goto 16, 3) := by decide +kernel
theorem dX12_count_28 : decode cX12_count 28 = .ok (.iload_n 1, 1) := by decide +kernel
theorem dX12_count_29 : decode cX12_count 29 = .ok (.iconst 2, 1) := by decide +kernel
theorem dX12_count_30 : decode cX12_count 30 = .ok (.if_icmp .ne 10, 3) := by decide +kernel
theorem dX12_count_33 : decode cX12_count 33 = .ok (.aload_n 0, 1) := by decide +kernel
theorem dX12_count_34 : decode cX12_count 34 = .ok (.getfield 163, 3) := by decide +kernel
theorem dX12_count_37 : decode cX12_count 37 = .ok (.goto 4, 3) := by decide +kernel
theorem dX12_count_40 : decode cX12_count 40 = .ok (.iconst (-1), 1) := by decide +kernel
theorem dX12_count_41 : decode cX12_count 41 = .ok (.ireturn, 1) := by decide +kernel
theorem dJx00060_init_a7421_0 : decode cJx00060_init_a7421 0 = .ok (.aload_n 0, 1) := by decide +kernel
theorem dJx00060_init_a7421_1 : decode cJx00060_init_a7421 1 = .ok (.aload_n 1, 1) := by decide +kernel
theorem dJx00060_init_a7421_2 : decode cJx00060_init_a7421 2 = .ok (.invokespecial 7, 3) := by decide +kernel
theorem dJx00060_init_a7421_5 : decode cJx00060_init_a7421 5 = .ok (.return_, 1) := by decide +kernel
theorem dJ6_numberOfTrailingZeros_0f7a4_0 : decode cJ6_numberOfTrailingZeros_0f7a4 0 = .ok (.iload_n 0, 1) := by decide +kernel
theorem dJ6_numberOfTrailingZeros_0f7a4_1 : decode cJ6_numberOfTrailingZeros_0f7a4 1 = .ok (.iconst (-1), 1) := by decide +kernel
theorem dJ6_numberOfTrailingZeros_0f7a4_2 : decode cJ6_numberOfTrailingZeros_0f7a4 2 = .ok (.ixor, 1) := by decide +kernel
theorem dJ6_numberOfTrailingZeros_0f7a4_3 : decode cJ6_numberOfTrailingZeros_0f7a4 3 = .ok (.iload_n 0, 1) := by decide +kernel
theorem dJ6_numberOfTrailingZeros_0f7a4_4 : decode cJ6_numberOfTrailingZeros_0f7a4 4 = .ok (.iconst 1, 1) := by decide +kernel
theorem dJ6_numberOfTrailingZeros_0f7a4_5 : decode cJ6_numberOfTrailingZeros_0f7a4 5 = .ok (.isub, 1) := by decide +kernel
theorem dJ6_numberOfTrailingZeros_0f7a4_6 : decode cJ6_numberOfTrailingZeros_0f7a4 6 = .ok (.iand, 1) := by decide +kernel
theorem dJ6_numberOfTrailingZeros_0f7a4_7 : decode cJ6_numberOfTrailingZeros_0f7a4 7 = .ok (.istore_n 0, 1) := by decide +kernel
theorem dJ6_numberOfTrailingZeros_0f7a4_8 : decode cJ6_numberOfTrailingZeros_0f7a4 8 = .ok (.iload_n 0, 1) := by decide +kernel
theorem dJ6_numberOfTrailingZeros_0f7a4_9 : decode cJ6_numberOfTrailingZeros_0f7a4 9 = .ok (.ifCond .gt 8, 3) := by decide +kernel
theorem dJ6_numberOfTrailingZeros_0f7a4_12 : decode cJ6_numberOfTrailingZeros_0f7a4 12 = .ok (.iload_n 0, 1) := by decide +kernel
theorem dJ6_numberOfTrailingZeros_0f7a4_13 : decode cJ6_numberOfTrailingZeros_0f7a4 13 = .ok (.bipush 32, 2) := by decide +kernel
theorem dJ6_numberOfTrailingZeros_0f7a4_15 : decode cJ6_numberOfTrailingZeros_0f7a4 15 = .ok (.iand, 1) := by decide +kernel
theorem dJ6_numberOfTrailingZeros_0f7a4_16 : decode cJ6_numberOfTrailingZeros_0f7a4 16 = .ok (.ireturn, 1) := by decide +kernel
theorem dJ6_numberOfTrailingZeros_0f7a4_17 : decode cJ6_numberOfTrailingZeros_0f7a4 17 = .ok (.iconst 1, 1) := by decide +kernel
theorem dJ6_numberOfTrailingZeros_0f7a4_18 : decode cJ6_numberOfTrailingZeros_0f7a4 18 = .ok (.istore_n 1, 1) := by decide +kernel
theorem dJ6_numberOfTrailingZeros_0f7a4_19 : decode cJ6_numberOfTrailingZeros_0f7a4 19 = .ok (.iload_n 0, 1) := by decide +kernel
theorem dJ6_numberOfTrailingZeros_0f7a4_20 : decode cJ6_numberOfTrailingZeros_0f7a4 20 = .ok (.ldc_w 264, 3) := by decide +kernel
theorem dJ6_numberOfTrailingZeros_0f7a4_23 : decode cJ6_numberOfTrailingZeros_0f7a4 23 = .ok (.if_icmp .le 11, 3) := by decide +kernel
theorem dJ6_numberOfTrailingZeros_0f7a4_26 : decode cJ6_numberOfTrailingZeros_0f7a4 26 = .ok (.iinc 1 16, 3) := by decide +kernel
theorem dJ6_numberOfTrailingZeros_0f7a4_29 : decode cJ6_numberOfTrailingZeros_0f7a4 29 = .ok (.iload_n 0, 1) := by decide +kernel
theorem dJ6_numberOfTrailingZeros_0f7a4_30 : decode cJ6_numberOfTrailingZeros_0f7a4 30 = .ok (.bipush 16, 2) := by decide +kernel
theorem dJ6_numberOfTrailingZeros_0f7a4_32 : decode cJ6_numberOfTrailingZeros_0f7a4 32 = .ok (.iushr, 1) := by decide +kernel
theorem dJ6_numberOfTrailingZeros_0f7a4_33 : decode cJ6_numberOfTrailingZeros_0f7a4 33 = .ok (.istore_n 0, 1) := by decide +kernel
theorem dJ6_numberOfTrailingZeros_0f7a4_34 : decode cJ6_numberOfTrailingZeros_0f7a4 34 = .ok (.iload_n 0, 1) := by decide +kernel
theorem dJ6_numberOfTrailingZeros_0f7a4_35 : decode cJ6_numberOfTrailingZeros_0f7a4 35 = .ok (.sipush 256, 3) := by decide +kernel
theorem dJ6_numberOfTrailingZeros_0f7a4_38 : decode cJ6_numberOfTrailingZeros_0f7a4 38 = .ok (.if_icmp .le 11, 3) := by decide +kernel
theorem dJ6_numberOfTrailingZeros_0f7a4_41 : decode cJ6_numberOfTrailingZeros_0f7a4 41 = .ok (.iinc 1 8, 3) := by decide +kernel
theorem dJ6_numberOfTrailingZeros_0f7a4_44 : decode cJ6_numberOfTrailingZeros_0f7a4 44 = .ok (.iload_n 0, 1) := by decide +kernel
theorem dJ6_numberOfTrailingZeros_0f7a4_45 : decode cJ6_numberOfTrailingZeros_0f7a4 45 = .ok (.bipush 8, 2) := by decide +kernel
theorem dJ6_numberOfTrailingZeros_0f7a4_47 : decode cJ6_numberOfTrailingZeros_0f7a4 47 = .ok (.iushr, 1) := by decide +kernel
theorem dJ6_numberOfTrailingZeros_0f7a4_48 : decode cJ6_numberOfTrailingZeros_0f7a4 48 = .ok (.istore_n 0, 1) := by decide +kernel
theorem dJ6_numberOfTrailingZeros_0f7a4_49 : decode cJ6_numberOfTrailingZeros_0f7a4 49 = .ok (.iload_n 0, 1) := by decide +kernel
theorem dJ6_numberOfTrailingZeros_0f7a4_50 : decode cJ6_numberOfTrailingZeros_0f7a4 50 = .ok (.bipush 16, 2) := by decide +kernel
theorem dJ6_numberOfTrailingZeros_0f7a4_52 : decode cJ6_numberOfTrailingZeros_0f7a4 52 = .ok (.if_icmp .le 10, 3) := by decide +kernel
theorem dJ6_numberOfTrailingZeros_0f7a4_55 : decode cJ6_numberOfTrailingZeros_0f7a4 55 = .ok (.iinc 1 4, 3) := by decide +kernel
theorem dJ6_numberOfTrailingZeros_0f7a4_58 : decode cJ6_numberOfTrailingZeros_0f7a4 58 = .ok (.iload_n 0, 1) := by decide +kernel
theorem dJ6_numberOfTrailingZeros_0f7a4_59 : decode cJ6_numberOfTrailingZeros_0f7a4 59 = .ok (.iconst 4, 1) := by decide +kernel
theorem dJ6_numberOfTrailingZeros_0f7a4_60 : decode cJ6_numberOfTrailingZeros_0f7a4 60 = .ok (.iushr, 1) := by decide +kernel
theorem dJ6_numberOfTrailingZeros_0f7a4_61 : decode cJ6_numberOfTrailingZeros_0f7a4 61 = .ok (.istore_n 0, 1) := by decide +kernel
theorem dJ6_numberOfTrailingZeros_0f7a4_62 : decode cJ6_numberOfTrailingZeros_0f7a4 62 = .ok (.iload_n 0, 1) := by decide +kernel
theorem dJ6_numberOfTrailingZeros_0f7a4_63 : decode cJ6_numberOfTrailingZeros_0f7a4 63 = .ok (.iconst 4, 1) := by decide +kernel
theorem dJ6_numberOfTrailingZeros_0f7a4_64 : decode cJ6_numberOfTrailingZeros_0f7a4 64 = .ok (.if_icmp .le 10, 3) := by decide +kernel
theorem dJ6_numberOfTrailingZeros_0f7a4_67 : decode cJ6_numberOfTrailingZeros_0f7a4 67 = .ok (.iinc 1 2, 3) := by decide +kernel
theorem dJ6_numberOfTrailingZeros_0f7a4_70 : decode cJ6_numberOfTrailingZeros_0f7a4 70 = .ok (.iload_n 0, 1) := by decide +kernel
theorem dJ6_numberOfTrailingZeros_0f7a4_71 : decode cJ6_numberOfTrailingZeros_0f7a4 71 = .ok (.iconst 2, 1) := by decide +kernel
theorem dJ6_numberOfTrailingZeros_0f7a4_72 : decode cJ6_numberOfTrailingZeros_0f7a4 72 = .ok (.iushr, 1) := by decide +kernel
theorem dJ6_numberOfTrailingZeros_0f7a4_73 : decode cJ6_numberOfTrailingZeros_0f7a4 73 = .ok (.istore_n 0, 1) := by decide +kernel
theorem dJ6_numberOfTrailingZeros_0f7a4_74 : decode cJ6_numberOfTrailingZeros_0f7a4 74 = .ok (.iload_n 1, 1) := by decide +kernel
theorem dJ6_numberOfTrailingZeros_0f7a4_75 : decode cJ6_numberOfTrailingZeros_0f7a4 75 = .ok (.iload_n 0, 1) := by decide +kernel
theorem dJ6_numberOfTrailingZeros_0f7a4_76 : decode cJ6_numberOfTrailingZeros_0f7a4 76 = .ok (.iconst 1, 1) := by decide +kernel
theorem dJ6_numberOfTrailingZeros_0f7a4_77 : decode cJ6_numberOfTrailingZeros_0f7a4 77 = .ok (.iushr, 1) := by decide +kernel
theorem dJ6_numberOfTrailingZeros_0f7a4_78 : decode cJ6_numberOfTrailingZeros_0f7a4 78 = .ok (.iadd, 1) := by decide +kernel
theorem dJ6_numberOfTrailingZeros_0f7a4_79 : decode cJ6_numberOfTrailingZeros_0f7a4 79 = .ok (.ireturn, 1) := by decide +kernel
theorem dJ6_bitCount_0f7a4_0 : decode cJ6_bitCount_0f7a4 0 = .ok (.iload_n 0, 1) := by decide +kernel
theorem dJ6_bitCount_0f7a4_1 : decode cJ6_bitCount_0f7a4 1 = .ok (.iload_n 0, 1) := by decide +kernel
theorem dJ6_bitCount_0f7a4_2 : decode cJ6_bitCount_0f7a4 2 = .ok (.iconst 1, 1) := by decide +kernel
theorem dJ6_bitCount_0f7a4_3 : decode cJ6_bitCount_0f7a4 3 = .ok (.iushr, 1) := by decide +kernel
theorem dJ6_bitCount_0f7a4_4 : decode cJ6_bitCount_0f7a4 4 = .ok (.ldc_w 265, 3) := by decide +kernel
theorem dJ6_bitCount_0f7a4_7 : decode cJ6_bitCount_0f7a4 7 = .ok (.iand, 1) := by decide +kernel
theorem dJ6_bitCount_0f7a4_8 : decode cJ6_bitCount_0f7a4 8 = .ok (.isub, 1) := by decide +kernel
theorem dJ6_bitCount_0f7a4_9 : decode cJ6_bitCount_0f7a4 9 = .ok (.istore_n 0, 1) := by decide +kernel
theorem dJ6_bitCount_0f7a4_10 : decode cJ6_bitCount_0f7a4 10 = .ok (.iload_n 0, 1) := by decide +kernel
theorem dJ6_bitCount_0f7a4_11 : decode cJ6_bitCount_0f7a4 11 = .ok (.ldc_w 266, 3) := by decide +kernel
theorem dJ6_bitCount_0f7a4_14 : decode cJ6_bitCount_0f7a4 14 = .ok (.iand, 1) := by decide +kernel
theorem dJ6_bitCount_0f7a4_15 : decode cJ6_bitCount_0f7a4 15 = .ok (.iload_n 0, 1) := by decide +kernel
theorem dJ6_bitCount_0f7a4_16 : decode cJ6_bitCount_0f7a4 16 = .ok (.iconst 2, 1) := by decide +kernel
theorem dJ6_bitCount_0f7a4_17 : decode cJ6_bitCount_0f7a4 17 = .ok (.iushr, 1) := by decide +kernel
theorem dJ6_bitCount_0f7a4_18 : decode cJ6_bitCount_0f7a4 18 = .ok (.ldc_w 266, 3) := by decide +kernel
theorem dJ6_bitCount_0f7a4_21 : decode cJ6_bitCount_0f7a4 21 = .ok (.iand, 1) := by decide +kernel
theorem dJ6_bitCount_0f7a4_22 : decode cJ6_bitCount_0f7a4 22 = .ok (.iadd, 1) := by decide +kernel
theorem dJ6_bitCount_0f7a4_23 : decode cJ6_bitCount_0f7a4 23 = .ok (.istore_n 0, 1) := by decide +kernel
theorem dJ6_bitCount_0f7a4_24 : decode cJ6_bitCount_0f7a4 24 = .ok (.iload_n 0, 1) := by decide +kernel
theorem dJ6_bitCount_0f7a4_25 : decode cJ6_bitCount_0f7a4 25 = .ok (.iload_n 0, 1) := by decide +kernel
theorem dJ6_bitCount_0f7a4_26 : decode cJ6_bitCount_0f7a4 26 = .ok (.iconst 4, 1) := by decide +kernel
theorem dJ6_bitCount_0f7a4_27 : decode cJ6_bitCount_0f7a4 27 = .ok (.iushr, 1) := by decide +kernel
theorem dJ6_bitCount_0f7a4_28 : decode cJ6_bitCount_0f7a4 28 = .ok (.iadd, 1) := by decide +kernel
theorem dJ6_bitCount_0f7a4_29 : decode cJ6_bitCount_0f7a4 29 = .ok (.ldc_w 267, 3) := by decide +kernel
theorem dJ6_bitCount_0f7a4_32 : decode cJ6_bitCount_0f7a4 32 = .ok (.iand, 1) := by decide +kernel
theorem dJ6_bitCount_0f7a4_33 : decode cJ6_bitCount_0f7a4 33 = .ok (.istore_n 0, 1) := by decide +kernel
theorem dJ6_bitCount_0f7a4_34 : decode cJ6_bitCount_0f7a4 34 = .ok (.iload_n 0, 1) := by decide +kernel
theorem dJ6_bitCount_0f7a4_35 : decode cJ6_bitCount_0f7a4 35 = .ok (.iload_n 0, 1) := by decide +kernel
theorem dJ6_bitCount_0f7a4_36 : decode cJ6_bitCount_0f7a4 36 = .ok (.bipush 8, 2) := by decide +kernel
theorem dJ6_bitCount_0f7a4_38 : decode cJ6_bitCount_0f7a4 38 = .ok (.iushr, 1) := by decide +kernel
theorem dJ6_bitCount_0f7a4_39 : decode cJ6_bitCount_0f7a4 39 = .ok (.iadd, 1) := by decide +kernel
theorem dJ6_bitCount_0f7a4_40 : decode cJ6_bitCount_0f7a4 40 = .ok (.istore_n 0, 1) := by decide +kernel
theorem dJ6_bitCount_0f7a4_41 : decode cJ6_bitCount_0f7a4 41 = .ok (.iload_n 0, 1) := by decide +kernel
theorem dJ6_bitCount_0f7a4_42 : decode cJ6_bitCount_0f7a4 42 = .ok (.iload_n 0, 1) := by decide +kernel
theorem dJ6_bitCount_0f7a4_43 : decode cJ6_bitCount_0f7a4 43 = .ok (.bipush 16, 2) := by decide +kernel
theorem dJ6_bitCount_0f7a4_45 : decode cJ6_bitCount_0f7a4 45 = .ok (.iushr, 1) := by decide +kernel
theorem dJ6_bitCount_0f7a4_46 : decode cJ6_bitCount_0f7a4 46 = .ok (.iadd, 1) := by decide +kernel
theorem dJ6_bitCount_0f7a4_47 : decode cJ6_bitCount_0f7a4 47 = .ok (.istore_n 0, 1) := by decide +kernel
theorem dJ6_bitCount_0f7a4_48 : decode cJ6_bitCount_0f7a4 48 = .ok (.iload_n 0, 1) := by decide +kernel
theorem dJ6_bitCount_0f7a4_49 : decode cJ6_bitCount_0f7a4 49 = .ok (.bipush 63, 2) := by decide +kernel
theorem dJ6_bitCount_0f7a4_51 : decode cJ6_bitCount_0f7a4 51 = .ok (.iand, 1) := by decide +kernel
theorem dJ6_bitCount_0f7a4_52 : decode cJ6_bitCount_0f7a4 52 = .ok (.ireturn, 1) := by decide +kernel
theorem dJ9_max_7cf53_0 : decode cJ9_max_7cf53 0 = .ok (.iload_n 0, 1) := by decide +kernel
theorem dJ9_max_7cf53_1 : decode cJ9_max_7cf53 1 = .ok (.iload_n 1, 1) := by decide +kernel
theorem dJ9_max_7cf53_2 : decode cJ9_max_7cf53 2 = .ok (.if_icmp .lt 7, 3) := by decide +kernel
theorem dJ9_max_7cf53_5 : decode cJ9_max_7cf53 5 = .ok (.iload_n 0, 1) := by decide +kernel
theorem dJ9_max_7cf53_6 : decode cJ9_max_7cf53 6 = .ok (.goto 4, 3) := by decide +kernel
theorem dJ9_max_7cf53_9 : decode cJ9_max_7cf53 9 = .ok (.iload_n 1, 1) := by decide +kernel
theorem dJ9_max_7cf53_10 : decode cJ9_max_7cf53 10 = .ok (.ireturn, 1) := by decide +kernel
theorem dJ9_min_7cf53_0 : decode cJ9_min_7cf53 0 = .ok (.iload_n 0, 1) := by decide +kernel
theorem dJ9_min_7cf53_1 : decode cJ9_min_7cf53 1 = .ok (.iload_n 1, 1) := by decide +kernel
theorem dJ9_min_7cf53_2 : decode cJ9_min_7cf53 2 = .ok (.if_icmp .gt 7, 3) := by decide +kernel
theorem dJ9_min_7cf53_5 : decode cJ9_min_7cf53 5 = .ok (.iload_n 0, 1) := by decide +kernel
theorem dJ9_min_7cf53_6 : decode cJ9_min_7cf53 6 = .ok (.goto 4, 3) := by decide +kernel
theorem dJ9_min_7cf53_9 : decode cJ9_min_7cf53 9 = .ok (.iload_n 1, 1) := by decide +kernel
theorem dJ9_min_7cf53_10 : decode cJ9_min_7cf53 10 = .ok (.ireturn, 1) := by decide +kernel
theorem dJx5d777_init_da8c8_0 : decode cJx5d777_init_da8c8 0 = .ok (.aload_n 0, 1) := by decide +kernel
theorem dJx5d777_init_da8c8_1 : decode cJx5d777_init_da8c8 1 = .ok (.invokespecial 1, 3) := by decide +kernel
theorem dJx5d777_init_da8c8_4 : decode cJx5d777_init_da8c8 4 = .ok (.return_, 1) := by decide +kernel
theorem dJx5d777_fillInStackTrace_cddbd_0 : decode cJx5d777_fillInStackTrace_cddbd 0 = .ok (.aload_n 0, 1) := by decide +kernel
theorem dJx5d777_fillInStackTrace_cddbd_1 : decode cJx5d777_fillInStackTrace_cddbd 1 = .ok (.getfield 10, 3) := by decide +kernel
theorem dJx5d777_fillInStackTrace_cddbd_4 : decode cJx5d777_fillInStackTrace_cddbd 4 = .ok (.ifCond .ne 11, 3) := by decide +kernel
theorem dJx5d777_fillInStackTrace_cddbd_7 : decode cJx5d777_fillInStackTrace_cddbd 7 = .ok (.aload_n 0, 1) := by decide +kernel
theorem dJx5d777_fillInStackTrace_cddbd_8 : decode cJx5d777_fillInStackTrace_cddbd 8 = .ok (.iconst 1, 1) := by decide +kernel
theorem dJx5d777_fillInStackTrace_cddbd_9 : decode cJx5d777_fillInStackTrace_cddbd 9 = .ok (.putfield 10, 3) := by decide +kernel
theorem dJx5d777_fillInStackTrace_cddbd_12 : decode cJx5d777_fillInStackTrace_cddbd 12 = .ok (.goto 24, 3) := by decide +kernel
theorem dJx5d777_fillInStackTrace_cddbd_15 : decode cJx5d777_fillInStackTrace_cddbd 15 = .ok (.aload_n 0, 1) := by decide +kernel
theorem dJx5d777_fillInStackTrace_cddbd_16 : decode cJx5d777_fillInStackTrace_cddbd 16 = .ok (.getfield 10, 3) := by decide +kernel
theorem dJx5d777_fillInStackTrace_cddbd_19 : decode cJx5d777_fillInStackTrace_cddbd 19 = .ok (.iconst 1, 1) := by decide +kernel
theorem dJx5d777_fillInStackTrace_cddbd_20 : decode cJx5d777_fillInStackTrace_cddbd 20 = .ok (.if_icmp .ne 16, 3) := by decide +kernel
theorem dJx5d777_fillInStackTrace_cddbd_23 : decode cJx5d777_fillInStackTrace_cddbd 23 = .ok (.aload_n 0, 1) := by decide +kernel
theorem dJx5d777_fillInStackTrace_cddbd_24 : decode cJx5d777_fillInStackTrace_cddbd 24 = .ok (.aload_n 0, 1) := by decide +kernel
theorem dJx5d777_fillInStackTrace_cddbd_25 : decode cJx5d777_fillInStackTrace_cddbd 25 = .ok (.invokevirtual 16, 3) := by decide +kernel
theorem dJx5d777_fillInStackTrace_cddbd_28 : decode cJx5d777_fillInStackTrace_cddbd 28 = .ok (.putfield 20, 3) := by decide +kernel
theorem dJx5d777_fillInStackTrace_cddbd_31 : decode cJx5d777_fillInStackTrace_cddbd 31 = .ok (.aload_n 0, 1) := by decide +kernel
theorem dJx5d777_fillInStackTrace_cddbd_32 : decode cJx5d777_fillInStackTrace_cddbd 32 = .ok (.iconst 2, 1) := by decide +kernel
theorem dJx5d777_fillInStackTrace_cddbd_33 : decode cJx5d777_fillInStackTrace_cddbd 33 = .ok (.putfield 10, 3) := by decide +kernel
theorem dJx5d777_fillInStackTrace_cddbd_36 : decode cJx5d777_fillInStackTrace_cddbd 36 = .ok (.aload_n 0, 1) := by decide +kernel
theorem dJx5d777_fillInStackTrace_cddbd_37 : decode cJx5d777_fillInStackTrace_cddbd 37 = .ok (.invokespecial 24, 3) := by decide +kernel
theorem dJx5d777_fillInStackTrace_cddbd_40 : decode cJx5d777_fillInStackTrace_cddbd 40 = .ok (.areturn, 1) := by decide +kernel
theorem dJ0_length_8abf5_0 : decode cJ0_length_8abf5 0 = .ok (.aload_n 0, 1) := by decide +kernel
theorem dJ0_length_8abf5_1 : decode cJ0_length_8abf5 1 = .ok (.getfield 9, 3) := by decide +kernel
theorem dJ0_length_8abf5_4 : decode cJ0_length_8abf5 4 = .ok (.arraylength, 1) := by decide +kernel
theorem dJ0_length_8abf5_5 : decode cJ0_length_8abf5 5 = .ok (.aload_n 0, 1) := by decide +kernel
theorem dJ0_length_8abf5_6 : decode cJ0_length_8abf5 6 = .ok (.invokevirtual 335, 3) := by decide +kernel
theorem dJ0_length_8abf5_9 : decode cJ0_length_8abf5 9 = .ok (.ishr, 1) := by decide +kernel
theorem dJ0_length_8abf5_10 : decode cJ0_length_8abf5 10 = .ok (.ireturn, 1) := by decide +kernel
theorem dJ0_charAt_5068e_0 : decode cJ0_charAt_5068e 0 = .ok (.aload_n 0, 1) := by decide +kernel
theorem dJ0_charAt_5068e_1 : decode cJ0_charAt_5068e 1 = .ok (.invokevirtual 492, 3) := by decide +kernel
theorem dJ0_charAt_5068e_4 : decode cJ0_charAt_5068e 4 = .ok (.ifCond .eq 12, 3) := by decide +kernel
theorem dJ0_charAt_5068e_7 : decode cJ0_charAt_5068e 7 = .ok (.aload_n 0, 1) := by decide +kernel
theorem dJ0_charAt_5068e_8 : decode cJ0_charAt_5068e 8 = .ok (.getfield 9, 3) := by decide +kernel
theorem dJ0_charAt_5068e_11 : decode cJ0_charAt_5068e 11 = .ok (.iload_n 1, 1) := by decide +kernel
theorem dJ0_charAt_5068e_12 : decode cJ0_charAt_5068e 12 = .ok (.invokestatic 495, 3) := by decide +kernel
theorem dJ0_charAt_5068e_15 : decode cJ0_charAt_5068e 15 = .ok (.ireturn, 1) := by decide +kernel
theorem dJ0_charAt_5068e_16 : decode cJ0_charAt_5068e 16 = .ok (.aload_n 0, 1) := by decide +kernel
theorem dJ0_charAt_5068e_17 : decode cJ0_charAt_5068e 17 = .ok (.getfield 9, 3) := by decide +kernel
theorem dJ0_charAt_5068e_20 : decode cJ0_charAt_5068e 20 = .ok (.iload_n 1, 1) := by decide +kernel
theorem dJ0_charAt_5068e_21 : decode cJ0_charAt_5068e 21 = .ok (.invokestatic 498, 3) := by decide +kernel
theorem dJ0_charAt_5068e_24 : decode cJ0_charAt_5068e 24 = .ok (.ireturn, 1) := by decide +kernel
theorem dJ0_coder_7d493_0 : decode cJ0_coder_7d493 0 = .ok (.getstatic 38, 3) := by decide +kernel
theorem dJ0_coder_7d493_3 : decode cJ0_coder_7d493 3 = .ok (.ifCond .eq 10, 3) := by decide +kernel
theorem dJ0_coder_7d493_6 : decode cJ0_coder_7d493 6 = .ok (.aload_n 0, 1) := by decide +kernel
theorem dJ0_coder_7d493_7 : decode cJ0_coder_7d493 7 = .ok (.getfield 15, 3) := by decide +kernel
theorem dJ0_coder_7d493_10 : decode cJ0_coder_7d493 10 = .ok (.goto 4, 3) := by decide +kernel
theorem dJ0_coder_7d493_13 : decode cJ0_coder_7d493 13 = .ok (.iconst 1, 1) := by decide +kernel
theorem dJ0_coder_7d493_14 : decode cJ0_coder_7d493 14 = .ok (.ireturn, 1) := by decide +kernel
theorem dJ0_isLatin1_aae02_0 : decode cJ0_isLatin1_aae02 0 = .ok (.getstatic 38, 3) := by decide +kernel
theorem dJ0_isLatin1_aae02_3 : decode cJ0_isLatin1_aae02 3 = .ok (.ifCond .eq 14, 3) := by decide +kernel
theorem dJ0_isLatin1_aae02_6 : decode cJ0_isLatin1_aae02 6 = .ok (.aload_n 0, 1) := by decide +kernel
theorem dJ0_isLatin1_aae02_7 : decode cJ0_isLatin1_aae02 7 = .ok (.getfield 15, 3) := by decide +kernel
theorem dJ0_isLatin1_aae02_10 : decode cJ0_isLatin1_aae02 10 = .ok (.ifCond .ne 7, 3) := by decide +kernel
theorem dJ0_isLatin1_aae02_13 : decode cJ0_isLatin1_aae02 13 = .ok (.iconst 1, 1) := by decide +kernel
theorem dJ0_isLatin1_aae02_14 : decode cJ0_isLatin1_aae02 14 = .ok (.goto 4, 3) := by decide +kernel
theorem dJ0_isLatin1_aae02_17 : decode cJ0_isLatin1_aae02 17 = .ok (.iconst 0, 1) := by decide +kernel
theorem dJ0_isLatin1_aae02_18 : decode cJ0_isLatin1_aae02 18 = .ok (.ireturn, 1) := by decide +kernel
theorem dJ0_checkIndex_df160_0 : decode cJ0_checkIndex_df160 0 = .ok (.iload_n 0, 1) := by decide +kernel
theorem dJ0_checkIndex_df160_1 : decode cJ0_checkIndex_df160 1 = .ok (.iload_n 1, 1) := by decide +kernel
theorem dJ0_checkIndex_df160_2 : decode cJ0_checkIndex_df160 2 = .ok (.getstatic 1053, 3) := by decide +kernel
theorem dJ0_checkIndex_df160_5 : decode cJ0_checkIndex_df160 5 = .ok (.invokestatic 1059, 3) := by decide +kernel
theorem dJ0_checkIndex_df160_8 : decode cJ0_checkIndex_df160 8 = .ok (.pop, 1) := by decide +kernel
theorem dJ0_checkIndex_df160_9 : decode cJ0_checkIndex_df160 9 = .ok (.return_, 1) := by decide +kernel
theorem dJ1_charAt_3b067_0 : decode cJ1_charAt_3b067 0 = .ok (.iload_n 1, 1) := by decide +kernel
theorem dJ1_charAt_3b067_1 : decode cJ1_charAt_3b067 1 = .ok (.aload_n 0, 1) := by decide +kernel
theorem dJ1_charAt_3b067_2 : decode cJ1_charAt_3b067 2 = .ok (.arraylength, 1) := by decide +kernel
theorem dJ1_charAt_3b067_3 : decode cJ1_charAt_3b067 3 = .ok (.invokestatic 9, 3) := by decide +kernel
theorem dJ1_charAt_3b067_6 : decode cJ1_charAt_3b067 6 = .ok (.aload_n 0, 1) := by decide +kernel
theorem dJ1_charAt_3b067_7 : decode cJ1_charAt_3b067 7 = .ok (.iload_n 1, 1) := by decide +kernel
theorem dJ1_charAt_3b067_8 : decode cJ1_charAt_3b067 8 = .ok (.baload, 1) := by decide +kernel
theorem dJ1_charAt_3b067_9 : decode cJ1_charAt_3b067 9 = .ok (.sipush 255, 3) := by decide +kernel
theorem dJ1_charAt_3b067_12 : decode cJ1_charAt_3b067 12 = .ok (.iand, 1) := by decide +kernel
theorem dJ1_charAt_3b067_13 : decode cJ1_charAt_3b067 13 = .ok (.i2c, 1) := by decide +kernel
theorem dJ1_charAt_3b067_14 : decode cJ1_charAt_3b067 14 = .ok (.ireturn, 1) := by decide +kernel
theorem dJ2_getChar_3b067_0 : decode cJ2_getChar_3b067 0 = .ok (.getstatic 44, 3) := by decide +kernel
theorem dJ2_getChar_3b067_3 : decode cJ2_getChar_3b067 3 = .ok (.ifCond .ne 25, 3) := by decide +kernel
theorem dJ2_getChar_3b067_6 : decode cJ2_getChar_3b067 6 = .ok (.iload_n 1, 1) := by decide +kernel
theorem dJ2_getChar_3b067_7 : decode cJ2_getChar_3b067 7 = .ok (.ifCond .lt 11, 3) := by decide +kernel
theorem dJ2_getChar_3b067_10 : decode cJ2_getChar_3b067 10 = .ok (.iload_n 1, 1) := by decide +kernel
theorem dJ2_getChar_3b067_11 : decode cJ2_getChar_3b067 11 = .ok (.aload_n 0, 1) := by decide +kernel
theorem dJ2_getChar_3b067_12 : decode cJ2_getChar_3b067 12 = .ok (.invokestatic 48, 3) := by decide +kernel
theorem dJ2_getChar_3b067_15 : decode cJ2_getChar_3b067 15 = .ok (.if_icmp .lt 13, 3) := by decide +kernel
theorem dJ2_getChar_3b067_18 : decode cJ2_getChar_3b067 18 = .ok (.new 52, 3) := by decide +kernel
theorem dJ2_getChar_3b067_21 : decode cJ2_getChar_3b067 21 = .ok (.dup, 1) := by decide +kernel
theorem dJ2_getChar_3b067_22 : decode cJ2_getChar_3b067 22 = .ok (.ldc 54, 2) := by decide +kernel
theorem dJ2_getChar_3b067_24 : decode cJ2_getChar_3b067 24 = .ok (.invokespecial 56, 3) := by decide +kernel
theorem dJ2_getChar_3b067_27 : decode cJ2_getChar_3b067 27 = .ok (.athrow, 1) := by decide +kernel
theorem dJ2_getChar_3b067_28 : decode cJ2_getChar_3b067 28 = .ok (.iload_n 1, 1) := by decide +kernel
theorem dJ2_getChar_3b067_29 : decode cJ2_getChar_3b067 29 = .ok (.iconst 1, 1) := by decide +kernel
theorem dJ2_getChar_3b067_30 : decode cJ2_getChar_3b067 30 = .ok (.ishl, 1) := by decide +kernel
theorem dJ2_getChar_3b067_31 : decode cJ2_getChar_3b067 31 = .ok (.istore_n 1, 1) := by decide +kernel
theorem dJ2_getChar_3b067_32 : decode cJ2_getChar_3b067 32 = .ok (.aload_n 0, 1) := by decide +kernel
theorem dJ2_getChar_3b067_33 : decode cJ2_getChar_3b067 33 = .ok (.iload_n 1, 1) := by decide +kernel
theorem dJ2_getChar_3b067_34 : decode cJ2_getChar_3b067 34 = .ok (.iinc 1 1, 3) := by decide +kernel
theorem dJ2_getChar_3b067_37 : decode cJ2_getChar_3b067 37 = .ok (.baload, 1) := by decide +kernel
theorem dJ2_getChar_3b067_38 : decode cJ2_getChar_3b067 38 = .ok (.sipush 255, 3) := by decide +kernel
theorem dJ2_getChar_3b067_41 : decode cJ2_getChar_3b067 41 = .ok (.iand, 1) := by decide +kernel
theorem dJ2_getChar_3b067_42 : decode cJ2_getChar_3b067 42 = .ok (.getstatic 59, 3) := by decide +kernel
theorem dJ2_getChar_3b067_45 : decode cJ2_getChar_3b067 45 = .ok (.ishl, 1) := by decide +kernel
theorem dJ2_getChar_3b067_46 : decode cJ2_getChar_3b067 46 = .ok (.aload_n 0, 1) := by decide +kernel
theorem dJ2_getChar_3b067_47 : decode cJ2_getChar_3b067 47 = .ok (.iload_n 1, 1) := by decide +kernel
theorem dJ2_getChar_3b067_48 : decode cJ2_getChar_3b067 48 = .ok (.baload, 1) := by decide +kernel
