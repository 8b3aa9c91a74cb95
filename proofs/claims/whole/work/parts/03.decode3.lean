theorem dX9_shares_107 : decode cX9_shares 107 = .ok (.iload_n 3, 1) := by decide +kernel
theorem dX9_shares_108 : decode cX9_shares 108 = .ok (.ifCond .le 75, 3) := by decide +kernel
theorem dX9_shares_111 : decode cX9_shares 111 = .ok (.iconst 0, 1) := by decide +kernel
theorem dX9_shares_112 : decode cX9_shares 112 = .ok (.istore 4, 2) := by decide +kernel
theorem dX9_shares_114 : decode cX9_shares 114 = .ok (.iconst 1, 1) := by decide +kernel
theorem dX9_shares_115 : decode cX9_shares 115 = .ok (.istore 5, 2) := by decide +kernel
theorem dX9_shares_117 : decode cX9_shares 117 = .ok (.iload 5, 2) := by decide +kernel
theorem dX9_shares_119 : decode cX9_shares 119 = .ok (.aload_n 0, 1) := by decide +kernel
theorem dX9_shares_120 : decode cX9_shares 120 = .ok (.getfield 58, 3) := by decide +kernel
theorem dX9_shares_123 : decode cX9_shares 123 = .ok (.if_icmp .ge 35, 3) := by decide +kernel
theorem dX9_shares_126 : decode cX9_shares 126 = .ok (.aload_n 0, 1) := by decide +kernel
theorem dX9_shares_127 : decode cX9_shares 127 = .ok (.getfield 46, 3) := by decide +kernel
theorem dX9_shares_130 : decode cX9_shares 130 = .ok (.iload 5, 2) := by decide +kernel
theorem dX9_shares_132 : decode cX9_shares 132 = .ok (.iaload, 1) := by decide +kernel
theorem dX9_shares_133 : decode cX9_shares 133 = .ok (.aload_n 0, 1) := by decide +kernel
theorem dX9_shares_134 : decode cX9_shares 134 = .ok (.getfield 46, 3) := by decide +kernel
theorem dX9_shares_137 : decode cX9_shares 137 = .ok (.iload 4, 2) := by decide +kernel
theorem dX9_shares_139 : decode cX9_shares 139 = .ok (.iaload, 1) := by decide +kernel
theorem dX9_shares_140 : decode cX9_shares 140 = .ok (.if_icmp .le 8, 3) := by decide +kernel
theorem dX9_shares_143 : decode cX9_shares 143 = .ok (.iload 5, 2) := by decide +kernel
theorem dX9_shares_145 : decode cX9_shares 145 = .ok (.goto 5, 3) := by decide +kernel
theorem dX9_shares_148 : decode cX9_shares 148 = .ok (.iload 4, 2) := by decide +kernel
theorem dX9_shares_150 : decode cX9_shares 150 = .ok (.istore 4, 2) := by decide +kernel
theorem dX9_shares_152 : decode cX9_shares 152 = .ok (.iinc 5 1, 3) := by decide +kernel
theorem dX9_shares_155 : decode cX9_shares 155 = .ok (.goto (-38), 3) := by decide +kernel
theorem dX9_shares_158 : decode cX9_shares 158 = .ok (.aload_n 0, 1) := by decide +kernel
theorem dX9_shares_159 : decode cX9_shares 159 = .ok (.getfield 43, 3) := by decide +kernel
theorem dX9_shares_162 : decode cX9_shares 162 = .ok (.iload 4, 2) := by decide +kernel
theorem dX9_shares_164 : decode cX9_shares 164 = .ok (.dup2, 1) := by decide +kernel
theorem dX9_shares_165 : decode cX9_shares 165 = .ok (.iaload, 1) := by decide +kernel
theorem dX9_shares_166 : decode cX9_shares 166 = .ok (.iconst 1, 1) := by decide +kernel
theorem dX9_shares_167 : decode cX9_shares 167 = .ok (.iadd, 1) := by decide +kernel
theorem dX9_shares_168 : decode cX9_shares 168 = .ok (.iastore, 1) := by decide +kernel
theorem dX9_shares_169 : decode cX9_shares 169 = .ok (.aload_n 0, 1) := by decide +kernel
theorem dX9_shares_170 : decode cX9_shares 170 = .ok (.getfield 46, 3) := by decide +kernel
theorem dX9_shares_173 : decode cX9_shares 173 = .ok (.iload 4, 2) := by decide +kernel
theorem dX9_shares_175 : decode cX9_shares 175 = .ok (.iconst (-1), 1) := by decide +kernel
theorem dX9_shares_176 : decode cX9_shares 176 = .ok (.iastore, 1) := by decide +kernel
theorem dX9_shares_177 : decode cX9_shares 177 = .ok (.iinc 3 (-1), 3) := by decide +kernel
theorem dX9_shares_180 : decode cX9_shares 180 = .ok (.goto (-73), 3) := by decide +kernel
theorem dX9_shares_183 : decode cX9_shares 183 = .ok (.iconst 1, 1) := by decide +kernel
theorem dX9_shares_184 : decode cX9_shares 184 = .ok (.istore 4, 2) := by decide +kernel
theorem dX9_shares_186 : decode cX9_shares 186 = .ok (.iconst 0, 1) := by decide +kernel
theorem dX9_shares_187 : decode cX9_shares 187 = .ok (.istore 5, 2) := by decide +kernel
theorem dX9_shares_189 : decode cX9_shares 189 = .ok (.iload 5, 2) := by decide +kernel
theorem dX9_shares_191 : decode cX9_shares 191 = .ok (.aload_n 0, 1) := by decide +kernel
theorem dX9_shares_192 : decode cX9_shares 192 = .ok (.getfield 58, 3) := by decide +kernel
theorem dX9_shares_195 : decode cX9_shares 195 = .ok (.if_icmp .ge 48, 3) := by decide +kernel
theorem dX9_shares_198 : decode cX9_shares 198 = .ok (.iload 4, 2) := by decide +kernel
theorem dX9_shares_200 : decode cX9_shares 200 = .ok (.ifCond .eq 34, 3) := by decide +kernel
theorem dX9_shares_203 : decode cX9_shares 203 = .ok (.aload_n 0, 1) := by decide +kernel
theorem dX9_shares_204 : decode cX9_shares 204 = .ok (.getfield 19, 3) := by decide +kernel
theorem dX9_shares_207 : decode cX9_shares 207 = .ok (.iload 5, 2) := by decide +kernel
theorem dX9_shares_209 : decode cX9_shares 209 = .ok (.iaload, 1) := by decide +kernel
theorem dX9_shares_210 : decode cX9_shares 210 = .ok (.ifCond .eq 20, 3) := by decide +kernel
theorem dX9_shares_213 : decode cX9_shares 213 = .ok (.aload_n 0, 1) := by decide +kernel
theorem dX9_shares_214 : decode cX9_shares 214 = .ok (.getfield 43, 3) := by decide +kernel
theorem dX9_shares_217 : decode cX9_shares 217 = .ok (.iload 5, 2) := by decide +kernel
theorem dX9_shares_219 : decode cX9_shares 219 = .ok (.iaload, 1) := by decide +kernel
theorem dX9_shares_220 : decode cX9_shares 220 = .ok (.aload_n 0, 1) := by decide +kernel
theorem dX9_shares_221 : decode cX9_shares 221 = .ok (.getfield 19, 3) := by decide +kernel
theorem dX9_shares_224 : decode cX9_shares 224 = .ok (.iload 5, 2) := by decide +kernel
theorem dX9_shares_226 : decode cX9_shares 226 = .ok (.iaload, 1) := by decide +kernel
theorem dX9_shares_227 : decode cX9_shares 227 = .ok (.if_icmp .ge 7, 3) := by decide +kernel
theorem dX9_shares_230 : decode cX9_shares 230 = .ok (.iconst 1, 1) := by decide +kernel
theorem dX9_shares_231 : decode cX9_shares 231 = .ok (.goto 4, 3) := by decide +kernel
theorem dX9_shares_234 : decode cX9_shares 234 = .ok (.iconst 0, 1) := by decide +kernel
theorem dX9_shares_235 : decode cX9_shares 235 = .ok (.istore 4, 2) := by decide +kernel
theorem dX9_shares_237 : decode cX9_shares 237 = .ok (.iinc 5 1, 3) := by decide +kernel
theorem dX9_shares_240 : decode cX9_shares 240 = .ok (.goto (-51), 3) := by decide +kernel
theorem dX9_shares_243 : decode cX9_shares 243 = .ok (.iload 4, 2) := by decide +kernel
theorem dX9_shares_245 : decode cX9_shares 245 = .ok (.ireturn, 1) := by decide +kernel
theorem dX9_child_0 : decode cX9_child 0 = .ok (.aload_n 0, 1) := by decide +kernel
theorem dX9_child_1 : decode cX9_child 1 = .ok (.iconst 0, 1) := by decide +kernel
theorem dX9_child_2 : decode cX9_child 2 = .ok (.putfield 68, 3) := by decide +kernel
theorem dX9_child_5 : decode cX9_child 5 = .ok (.iload_n 1, 1) := by decide +kernel
theorem dX9_child_6 : decode cX9_child 6 = .ok (.iconst 1, 1) := by decide +kernel
theorem dX9_child_7 : decode cX9_child 7 = .ok (.bipush 99, 2) := by decide +kernel
theorem dX9_child_9 : decode cX9_child 9 = .ok (.invokestatic 71, 3) := by decide +kernel
theorem dX9_child_12 : decode cX9_child 12 = .ok (.ifCond .eq 20, 3) := by decide +kernel
theorem dX9_child_15 : decode cX9_child 15 = .ok (.aload_n 0, 1) := by decide +kernel
theorem dX9_child_16 : decode cX9_child 16 = .ok (.iload_n 2, 1) := by decide +kernel
theorem dX9_child_17 : decode cX9_child 17 = .ok (.invokevirtual 107, 3) := by decide +kernel
theorem dX9_child_20 : decode cX9_child 20 = .ok (.ifCond .eq 12, 3) := by decide +kernel
theorem dX9_child_23 : decode cX9_child 23 = .ok (.aload_n 0, 1) := by decide +kernel
theorem dX9_child_24 : decode cX9_child 24 = .ok (.getfield 19, 3) := by decide +kernel
theorem dX9_child_27 : decode cX9_child 27 = .ok (.iload_n 2, 1) := by decide +kernel
theorem dX9_child_28 : decode cX9_child 28 = .ok (.iaload, 1) := by decide +kernel
theorem dX9_child_29 : decode cX9_child 29 = .ok (.ifCond .ne 5, 3) := by decide +kernel
theorem dX9_child_32 : decode cX9_child 32 = .ok (.iconst (-1), 1) := by decide +kernel
theorem dX9_child_33 : decode cX9_child 33 = .ok (.ireturn, 1) := by decide +kernel
theorem dX9_child_34 : decode cX9_child 34 = .ok (.aload_n 0, 1) := by decide +kernel
theorem dX9_child_35 : decode cX9_child 35 = .ok (.iload_n 1, 1) := by decide +kernel
theorem dX9_child_36 : decode cX9_child 36 = .ok (.invokevirtual 181, 3) := by decide +kernel
theorem dX9_child_39 : decode cX9_child 39 = .ok (.ifCond .eq 12, 3) := by decide +kernel
theorem dX9_child_42 : decode cX9_child 42 = .ok (.aload_n 0, 1) := by decide +kernel
theorem dX9_child_43 : decode cX9_child 43 = .ok (.getfield 43, 3) := by decide +kernel
theorem dX9_child_46 : decode cX9_child 46 = .ok (.iload_n 2, 1) := by decide +kernel
theorem dX9_child_47 : decode cX9_child 47 = .ok (.iaload, 1) := by decide +kernel
theorem dX9_child_48 : decode cX9_child 48 = .ok (.goto 5, 3) := by decide +kernel
theorem dX9_child_51 : decode cX9_child 51 = .ok (.bipush (-2), 2) := by decide +kernel
theorem dX9_child_53 : decode cX9_child 53 = .ok (.ireturn, 1) := by decide +kernel
theorem dX9_runs_0 : decode cX9_runs 0 = .ok (.iconst 0, 1) := by decide +kernel
theorem dX9_runs_1 : decode cX9_runs 1 = .ok (.istore_n 1, 1) := by decide +kernel
theorem dX9_runs_2 : decode cX9_runs 2 = .ok (.iload_n 1, 1) := by decide +kernel
theorem dX9_runs_3 : decode cX9_runs 3 = .ok (.bipush 8, 2) := by decide +kernel
theorem dX9_runs_5 : decode cX9_runs 5 = .ok (.if_icmp .ge 23, 3) := by decide +kernel
theorem dX9_runs_8 : decode cX9_runs 8 = .ok (.aload_n 0, 1) := by decide +kernel
theorem dX9_runs_9 : decode cX9_runs 9 = .ok (.getfield 34, 3) := by decide +kernel
theorem dX9_runs_12 : decode cX9_runs 12 = .ok (.iload_n 1, 1) := by decide +kernel
theorem dX9_runs_13 : decode cX9_runs 13 = .ok (.iload_n 1, 1) := by decide +kernel
theorem dX9_runs_14 : decode cX9_runs 14 = .ok (.iastore, 1) := by decide +kernel
theorem dX9_runs_15 : decode cX9_runs 15 = .ok (.aload_n 0, 1) := by decide +kernel
theorem dX9_runs_16 : decode cX9_runs 16 = .ok (.getfield 37, 3) := by decide +kernel
theorem dX9_runs_19 : decode cX9_runs 19 = .ok (.iload_n 1, 1) := by decide +kernel
theorem dX9_runs_20 : decode cX9_runs 20 = .ok (.iconst 0, 1) := by decide +kernel
theorem dX9_runs_21 : decode cX9_runs 21 = .ok (.iastore, 1) := by decide +kernel
theorem dX9_runs_22 : decode cX9_runs 22 = .ok (.iinc 1 1, 3) := by decide +kernel
theorem dX9_runs_25 : decode cX9_runs 25 = .ok (.goto (-23), 3) := by decide +kernel
theorem dX9_runs_28 : decode cX9_runs 28 = .ok (.iconst 0, 1) := by decide +kernel
theorem dX9_runs_29 : decode cX9_runs 29 = .ok (.istore_n 1, 1) := by decide +kernel
theorem dX9_runs_30 : decode cX9_runs 30 = .ok (.iload_n 1, 1) := by decide +kernel
theorem dX9_runs_31 : decode cX9_runs 31 = .ok (.aload_n 0, 1) := by decide +kernel
theorem dX9_runs_32 : decode cX9_runs 32 = .ok (.getfield 58, 3) := by decide +kernel
theorem dX9_runs_35 : decode cX9_runs 35 = .ok (.if_icmp .ge 30, 3) := by decide +kernel
theorem dX9_runs_38 : decode cX9_runs 38 = .ok (.aload_n 0, 1) := by decide +kernel
theorem dX9_runs_39 : decode cX9_runs 39 = .ok (.getfield 43, 3) := by decide +kernel
theorem dX9_runs_42 : decode cX9_runs 42 = .ok (.iload_n 1, 1) := by decide +kernel
theorem dX9_runs_43 : decode cX9_runs 43 = .ok (.aload_n 0, 1) := by decide +kernel
theorem dX9_runs_44 : decode cX9_runs 44 = .ok (.getfield 19, 3) := by decide +kernel
theorem dX9_runs_47 : decode cX9_runs 47 = .ok (.iload_n 1, 1) := by decide +kernel
theorem dX9_runs_48 : decode cX9_runs 48 = .ok (.iaload, 1) := by decide +kernel
theorem dX9_runs_49 : decode cX9_runs 49 = .ok (.ifCond .ne 7, 3) := by decide +kernel
theorem dX9_runs_52 : decode cX9_runs 52 = .ok (.iconst 0, 1) := by decide +kernel
theorem dX9_runs_53 : decode cX9_runs 53 = .ok (.goto 5, 3) := by decide +kernel
theorem dX9_runs_56 : decode cX9_runs 56 = .ok (.bipush (-4), 2) := by decide +kernel
theorem dX9_runs_58 : decode cX9_runs 58 = .ok (.iastore, 1) := by decide +kernel
theorem dX9_runs_59 : decode cX9_runs 59 = .ok (.iinc 1 1, 3) := by decide +kernel
theorem dX9_runs_62 : decode cX9_runs 62 = .ok (.goto (-32), 3) := by decide +kernel
theorem dX9_runs_65 : decode cX9_runs 65 = .ok (.iconst 1, 1) := by decide +kernel
theorem dX9_runs_66 : decode cX9_runs 66 = .ok (.istore_n 1, 1) := by decide +kernel
theorem dX9_runs_67 : decode cX9_runs 67 = .ok (.iload_n 1, 1) := by decide +kernel
theorem dX9_runs_68 : decode cX9_runs 68 = .ok (.sipush 301, 3) := by decide +kernel
theorem dX9_runs_71 : decode cX9_runs 71 = .ok (.if_icmp .ge 65, 3) := by decide +kernel
theorem dX9_runs_74 : decode cX9_runs 74 = .ok (.aload_n 0, 1) := by decide +kernel
theorem dX9_runs_75 : decode cX9_runs 75 = .ok (.invokevirtual 153, 3) := by decide +kernel
theorem dX9_runs_78 : decode cX9_runs 78 = .ok (.iconst 0, 1) := by decide +kernel
theorem dX9_runs_79 : decode cX9_runs 79 = .ok (.istore_n 2, 1) := by decide +kernel
theorem dX9_runs_80 : decode cX9_runs 80 = .ok (.iload_n 2, 1) := by decide +kernel
theorem dX9_runs_81 : decode cX9_runs 81 = .ok (.aload_n 0, 1) := by decide +kernel
theorem dX9_runs_82 : decode cX9_runs 82 = .ok (.getfield 58, 3) := by decide +kernel
theorem dX9_runs_85 : decode cX9_runs 85 = .ok (.if_icmp .ge 45, 3) := by decide +kernel
theorem dX9_runs_88 : decode cX9_runs 88 = .ok (.aload_n 0, 1) := by decide +kernel
theorem dX9_runs_89 : decode cX9_runs 89 = .ok (.getfield 43, 3) := by decide +kernel
theorem dX9_runs_92 : decode cX9_runs 92 = .ok (.iload_n 2, 1) := by decide +kernel
theorem dX9_runs_93 : decode cX9_runs 93 = .ok (.aload_n 0, 1) := by decide +kernel
theorem dX9_runs_94 : decode cX9_runs 94 = .ok (.getfield 43, 3) := by decide +kernel
theorem dX9_runs_97 : decode cX9_runs 97 = .ok (.iload_n 2, 1) := by decide +kernel
theorem dX9_runs_98 : decode cX9_runs 98 = .ok (.iaload, 1) := by decide +kernel
theorem dX9_runs_99 : decode cX9_runs 99 = .ok (.bipush (-4), 2) := by decide +kernel
theorem dX9_runs_101 : decode cX9_runs 101 = .ok (.if_icmp .ne 16, 3) := by decide +kernel
theorem dX9_runs_104 : decode cX9_runs 104 = .ok (.aload_n 0, 1) := by decide +kernel
theorem dX9_runs_105 : decode cX9_runs 105 = .ok (.getfield 19, 3) := by decide +kernel
theorem dX9_runs_108 : decode cX9_runs 108 = .ok (.iload_n 2, 1) := by decide +kernel
theorem dX9_runs_109 : decode cX9_runs 109 = .ok (.iaload, 1) := by decide +kernel
theorem dX9_runs_110 : decode cX9_runs 110 = .ok (.ifCond .ne 7, 3) := by decide +kernel
theorem dX9_runs_113 : decode cX9_runs 113 = .ok (.iload_n 1, 1) := by decide +kernel
theorem dX9_runs_114 : decode cX9_runs 114 = .ok (.goto 9, 3) := by decide +kernel
theorem dX9_runs_117 : decode cX9_runs 117 = .ok (.aload_n 0, 1) := by decide +kernel
theorem dX9_runs_118 : decode cX9_runs 118 = .ok (.getfield 43, 3) := by decide +kernel
theorem dX9_runs_121 : decode cX9_runs 121 = .ok (.iload_n 2, 1) := by decide +kernel
theorem dX9_runs_122 : decode cX9_runs 122 = .ok (.iaload, 1) := by decide +kernel
theorem dX9_runs_123 : decode cX9_runs 123 = .ok (.iastore, 1) := by decide +kernel
theorem dX9_runs_124 : decode cX9_runs 124 = .ok (.iinc 2 1, 3) := by decide +kernel
theorem dX9_runs_127 : decode cX9_runs 127 = .ok (.goto (-47), 3) := by decide +kernel
theorem dX9_runs_130 : decode cX9_runs 130 = .ok (.iinc 1 1, 3) := by decide +kernel
theorem dX9_runs_133 : decode cX9_runs 133 = .ok (.goto (-66), 3) := by decide +kernel
theorem dX9_runs_136 : decode cX9_runs 136 = .ok (.return_, 1) := by decide +kernel
theorem dX9_falls_0 : decode cX9_falls 0 = .ok (.aload_n 0, 1) := by decide +kernel
theorem dX9_falls_1 : decode cX9_falls 1 = .ok (.iconst 0, 1) := by decide +kernel
theorem dX9_falls_2 : decode cX9_falls 2 = .ok (.putfield 68, 3) := by decide +kernel
theorem dX9_falls_5 : decode cX9_falls 5 = .ok (.aload_n 0, 1) := by decide +kernel
theorem dX9_falls_6 : decode cX9_falls 6 = .ok (.iload_n 1, 1) := by decide +kernel
theorem dX9_falls_7 : decode cX9_falls 7 = .ok (.invokevirtual 107, 3) := by decide +kernel
theorem dX9_falls_10 : decode cX9_falls 10 = .ok (.ifCond .eq 21, 3) := by decide +kernel
theorem dX9_falls_13 : decode cX9_falls 13 = .ok (.iload_n 2, 1) := by decide +kernel
theorem dX9_falls_14 : decode cX9_falls 14 = .ok (.iconst 0, 1) := by decide +kernel
theorem dX9_falls_15 : decode cX9_falls 15 = .ok (.iconst 1, 1) := by decide +kernel
theorem dX9_falls_16 : decode cX9_falls 16 = .ok (.invokestatic 71, 3) := by decide +kernel
theorem dX9_falls_19 : decode cX9_falls 19 = .ok (.ifCond .eq 12, 3) := by decide +kernel
theorem dX9_falls_22 : decode cX9_falls 22 = .ok (.aload_n 0, 1) := by decide +kernel
theorem dX9_falls_23 : decode cX9_falls 23 = .ok (.getfield 19, 3) := by decide +kernel
theorem dX9_falls_26 : decode cX9_falls 26 = .ok (.iload_n 1, 1) := by decide +kernel
theorem dX9_falls_27 : decode cX9_falls 27 = .ok (.iaload, 1) := by decide +kernel
theorem dX9_falls_28 : decode cX9_falls 28 = .ok (.ifCond .ne 5, 3) := by decide +kernel
theorem dX9_falls_31 : decode cX9_falls 31 = .ok (.iconst (-1), 1) := by decide +kernel
theorem dX9_falls_32 : decode cX9_falls 32 = .ok (.ireturn, 1) := by decide +kernel
theorem dX9_falls_33 : decode cX9_falls 33 = .ok (.aload_n 0, 1) := by decide +kernel
theorem dX9_falls_34 : decode cX9_falls 34 = .ok (.iconst 1, 1) := by decide +kernel
theorem dX9_falls_35 : decode cX9_falls 35 = .ok (.invokevirtual 159, 3) := by decide +kernel
theorem dX9_falls_38 : decode cX9_falls 38 = .ok (.aload_n 0, 1) := by decide +kernel
theorem dX9_falls_39 : decode cX9_falls 39 = .ok (.invokevirtual 184, 3) := by decide +kernel
theorem dX9_falls_42 : decode cX9_falls 42 = .ok (.iconst 0, 1) := by decide +kernel
theorem dX9_falls_43 : decode cX9_falls 43 = .ok (.istore_n 3, 1) := by decide +kernel
theorem dX9_falls_44 : decode cX9_falls 44 = .ok (.iload_n 3, 1) := by decide +kernel
theorem dX9_falls_45 : decode cX9_falls 45 = .ok (.bipush 8, 2) := by decide +kernel
theorem dX9_falls_47 : decode cX9_falls 47 = .ok (.if_icmp .ge 21, 3) := by decide +kernel
theorem dX9_falls_50 : decode cX9_falls 50 = .ok (.aload_n 0, 1) := by decide +kernel
theorem dX9_falls_51 : decode cX9_falls 51 = .ok (.getfield 40, 3) := by decide +kernel
theorem dX9_falls_54 : decode cX9_falls 54 = .ok (.iload_n 3, 1) := by decide +kernel
theorem dX9_falls_55 : decode cX9_falls 55 = .ok (.aload_n 0, 1) := by decide +kernel
theorem dX9_falls_56 : decode cX9_falls 56 = .ok (.getfield 37, 3) := by decide +kernel
theorem dX9_falls_59 : decode cX9_falls 59 = .ok (.iload_n 3, 1) := by decide +kernel
theorem dX9_falls_60 : decode cX9_falls 60 = .ok (.iaload, 1) := by decide +kernel
theorem dX9_falls_61 : decode cX9_falls 61 = .ok (.iastore, 1) := by decide +kernel
theorem dX9_falls_62 : decode cX9_falls 62 = .ok (.iinc 3 1, 3) := by decide +kernel
theorem dX9_falls_65 : decode cX9_falls 65 = .ok (.goto (-21), 3) := by decide +kernel
theorem dX9_falls_68 : decode cX9_falls 68 = .ok (.iconst 0, 1) := by decide +kernel
theorem dX9_falls_69 : decode cX9_falls 69 = .ok (.istore_n 3, 1) := by decide +kernel
theorem dX9_falls_70 : decode cX9_falls 70 = .ok (.iload_n 3, 1) := by decide +kernel
theorem dX9_falls_71 : decode cX9_falls 71 = .ok (.aload_n 0, 1) := by decide +kernel
theorem dX9_falls_72 : decode cX9_falls 72 = .ok (.getfield 58, 3) := by decide +kernel
theorem dX9_falls_75 : decode cX9_falls 75 = .ok (.if_icmp .ge 21, 3) := by decide +kernel
theorem dX9_falls_78 : decode cX9_falls 78 = .ok (.aload_n 0, 1) := by decide +kernel
theorem dX9_falls_79 : decode cX9_falls 79 = .ok (.getfield 46, 3) := by decide +kernel
theorem dX9_falls_82 : decode cX9_falls 82 = .ok (.iload_n 3, 1) := by decide +kernel
theorem dX9_falls_83 : decode cX9_falls 83 = .ok (.aload_n 0, 1) := by decide +kernel
theorem dX9_falls_84 : decode cX9_falls 84 = .ok (.getfield 43, 3) := by decide +kernel
theorem dX9_falls_87 : decode cX9_falls 87 = .ok (.iload_n 3, 1) := by decide +kernel
theorem dX9_falls_88 : decode cX9_falls 88 = .ok (.iaload, 1) := by decide +kernel
theorem dX9_falls_89 : decode cX9_falls 89 = .ok (.iastore, 1) := by decide +kernel
theorem dX9_falls_90 : decode cX9_falls 90 = .ok (.iinc 3 1, 3) := by decide +kernel
theorem dX9_falls_93 : decode cX9_falls 93 = .ok (.goto (-23), 3) := by decide +kernel
theorem dX9_falls_96 : decode cX9_falls 96 = .ok (.aload_n 0, 1) := by decide +kernel
theorem dX9_falls_97 : decode cX9_falls 97 = .ok (.iconst 0, 1) := by decide +kernel
theorem dX9_falls_98 : decode cX9_falls 98 = .ok (.invokevirtual 159, 3) := by decide +kernel
theorem dX9_falls_101 : decode cX9_falls 101 = .ok (.aload_n 0, 1) := by decide +kernel
theorem dX9_falls_102 : decode cX9_falls 102 = .ok (.getfield 19, 3) := by decide +kernel
theorem dX9_falls_105 : decode cX9_falls 105 = .ok (.bipush 12, 2) := by decide +kernel
theorem dX9_falls_107 : decode cX9_falls 107 = .ok (.iaload, 1) := by decide +kernel
theorem dX9_falls_108 : decode cX9_falls 108 = .ok (.istore_n 3, 1) := by decide +kernel
theorem dX9_falls_109 : decode cX9_falls 109 = .ok (.aload_n 0, 1) := by decide +kernel
theorem dX9_falls_110 : decode cX9_falls 110 = .ok (.getfield 19, 3) := by decide +kernel
theorem dX9_falls_113 : decode cX9_falls 113 = .ok (.iload_n 1, 1) := by decide +kernel
theorem dX9_falls_114 : decode cX9_falls 114 = .ok (.iconst 0, 1) := by decide +kernel
theorem dX9_falls_115 : decode cX9_falls 115 = .ok (.iastore, 1) := by decide +kernel
theorem dX9_falls_116 : decode cX9_falls 116 = .ok (.aload_n 0, 1) := by decide +kernel
theorem dX9_falls_117 : decode cX9_falls 117 = .ok (.invokevirtual 184, 3) := by decide +kernel
theorem dX9_falls_120 : decode cX9_falls 120 = .ok (.aload_n 0, 1) := by decide +kernel
theorem dX9_falls_121 : decode cX9_falls 121 = .ok (.iconst 0, 1) := by decide +kernel
theorem dX9_falls_122 : decode cX9_falls 122 = .ok (.invokevirtual 159, 3) := by decide +kernel
theorem dX9_falls_125 : decode cX9_falls 125 = .ok (.iconst 0, 1) := by decide +kernel
theorem dX9_falls_126 : decode cX9_falls 126 = .ok (.istore 4, 2) := by decide +kernel
theorem dX9_falls_128 : decode cX9_falls 128 = .ok (.iconst 0, 1) := by decide +kernel
theorem dX9_falls_129 : decode cX9_falls 129 = .ok (.istore 5, 2) := by decide +kernel
theorem dX9_falls_131 : decode cX9_falls 131 = .ok (.iload 5, 2) := by decide +kernel
theorem dX9_falls_133 : decode cX9_falls 133 = .ok (.iload_n 3, 1) := by decide +kernel
theorem dX9_falls_134 : decode cX9_falls 134 = .ok (.if_icmp .ge 36, 3) := by decide +kernel
theorem dX9_falls_137 : decode cX9_falls 137 = .ok (.iload 4, 2) := by decide +kernel
theorem dX9_falls_139 : decode cX9_falls 139 = .ok (.aload_n 0, 1) := by decide +kernel
theorem dX9_falls_140 : decode cX9_falls 140 = .ok (.getfield 37, 3) := by decide +kernel
theorem dX9_falls_143 : decode cX9_falls 143 = .ok (.iload 5, 2) := by decide +kernel
theorem dX9_falls_145 : decode cX9_falls 145 = .ok (.iaload, 1) := by decide +kernel
theorem dX9_falls_146 : decode cX9_falls 146 = .ok (.aload_n 0, 1) := by decide +kernel
theorem dX9_falls_147 : decode cX9_falls 147 = .ok (.getfield 40, 3) := by decide +kernel
theorem dX9_falls_150 : decode cX9_falls 150 = .ok (.iload 5, 2) := by decide +kernel
theorem dX9_falls_152 : decode cX9_falls 152 = .ok (.iaload, 1) := by decide +kernel
theorem dX9_falls_153 : decode cX9_falls 153 = .ok (.if_icmp .ge 7, 3) := by decide +kernel
theorem dX9_falls_156 : decode cX9_falls 156 = .ok (.iconst 1, 1) := by decide +kernel
theorem dX9_falls_157 : decode cX9_falls 157 = .ok (.goto 4, 3) := by decide +kernel
theorem dX9_falls_160 : decode cX9_falls 160 = .ok (.iconst 0, 1) := by decide +kernel
theorem dX9_falls_161 : decode cX9_falls 161 = .ok (.iadd, 1) := by decide +kernel
theorem dX9_falls_162 : decode cX9_falls 162 = .ok (.istore 4, 2) := by decide +kernel
theorem dX9_falls_164 : decode cX9_falls 164 = .ok (.iinc 5 1, 3) := by decide +kernel
theorem dX9_falls_167 : decode cX9_falls 167 = .ok (.goto (-36), 3) := by decide +kernel
theorem dX9_falls_170 : decode cX9_falls 170 = .ok (.bipush (-4), 2) := by decide +kernel
theorem dX9_falls_172 : decode cX9_falls 172 = .ok (.istore 5, 2) := by decide +kernel
theorem dX9_falls_174 : decode cX9_falls 174 = .ok (.iconst 0, 1) := by decide +kernel
theorem dX9_falls_175 : decode cX9_falls 175 = .ok (.istore 6, 2) := by decide +kernel
theorem dX9_falls_177 : decode cX9_falls 177 = .ok (.iload 6, 2) := by decide +kernel
theorem dX9_falls_179 : decode cX9_falls 179 = .ok (.aload_n 0, 1) := by decide +kernel
theorem dX9_falls_180 : decode cX9_falls 180 = .ok (.getfield 58, 3) := by decide +kernel
theorem dX9_falls_183 : decode cX9_falls 183 = .ok (.if_icmp .ge 101, 3) := by decide +kernel
theorem dX9_falls_186 : decode cX9_falls 186 = .ok (.iload 6, 2) := by decide +kernel
theorem dX9_falls_188 : decode cX9_falls 188 = .ok (.iload_n 1, 1) := by decide +kernel
theorem dX9_falls_189 : decode cX9_falls 189 = .ok (.if_icmp .eq 48, 3) := by decide +kernel
theorem dX9_falls_192 : decode cX9_falls 192 = .ok (.aload_n 0, 1) := by decide +kernel
theorem dX9_falls_193 : decode cX9_falls 193 = .ok (.getfield 43, 3) := by decide +kernel
theorem dX9_falls_196 : decode cX9_falls 196 = .ok (.iload 6, 2) := by decide +kernel
theorem dX9_falls_198 : decode cX9_falls 198 = .ok (.iaload, 1) := by decide +kernel
theorem dX9_falls_199 : decode cX9_falls 199 = .ok (.bipush (-4), 2) := by decide +kernel
theorem dX9_falls_201 : decode cX9_falls 201 = .ok (.if_icmp .eq 36, 3) := by decide +kernel
theorem dX9_falls_204 : decode cX9_falls 204 = .ok (.aload_n 0, 1) := by decide +kernel
theorem dX9_falls_205 : decode cX9_falls 205 = .ok (.getfield 46, 3) := by decide +kernel
theorem dX9_falls_208 : decode cX9_falls 208 = .ok (.iload 6, 2) := by decide +kernel
theorem dX9_falls_210 : decode cX9_falls 210 = .ok (.iaload, 1) := by decide +kernel
theorem dX9_falls_211 : decode cX9_falls 211 = .ok (.bipush (-4), 2) := by decide +kernel
theorem dX9_falls_213 : decode cX9_falls 213 = .ok (.if_icmp .eq 20, 3) := by decide +kernel
theorem dX9_falls_216 : decode cX9_falls 216 = .ok (.aload_n 0, 1) := by decide +kernel
theorem dX9_falls_217 : decode cX9_falls 217 = .ok (.getfield 43, 3) := by decide +kernel
theorem dX9_falls_220 : decode cX9_falls 220 = .ok (.iload 6, 2) := by decide +kernel
theorem dX9_falls_222 : decode cX9_falls 222 = .ok (.iaload, 1) := by decide +kernel
theorem dX9_falls_223 : decode cX9_falls 223 = .ok (.aload_n 0, 1) := by decide +kernel
theorem dX9_falls_224 : decode cX9_falls 224 = .ok (.getfield 46, 3) := by decide +kernel
theorem dX9_falls_227 : decode cX9_falls 227 = .ok (.iload 6, 2) := by decide +kernel
theorem dX9_falls_229 : decode cX9_falls 229 = .ok (.iaload, 1) := by decide +kernel
theorem dX9_falls_230 : decode cX9_falls 230 = .ok (.if_icmp .ge 7, 3) := by decide +kernel
theorem dX9_falls_233 : decode cX9_falls 233 = .ok (.iconst 1, 1) := by decide +kernel
theorem dX9_falls_234 : decode cX9_falls 234 = .ok (.goto 4, 3) := by decide +kernel
theorem dX9_falls_237 : decode cX9_falls 237 = .ok (.iconst 0, 1) := by decide +kernel
theorem dX9_falls_238 : decode cX9_falls 238 = .ok (.istore 7, 2) := by decide +kernel
theorem dX9_falls_240 : decode cX9_falls 240 = .ok (.iload 7, 2) := by decide +kernel
theorem dX9_falls_242 : decode cX9_falls 242 = .ok (.ifCond .eq 32, 3) := by decide +kernel
theorem dX9_falls_245 : decode cX9_falls 245 = .ok (.iload 5, 2) := by decide +kernel
theorem dX9_falls_247 : decode cX9_falls 247 = .ok (.bipush (-4), 2) := by decide +kernel
theorem dX9_falls_249 : decode cX9_falls 249 = .ok (.if_icmp .eq 20, 3) := by decide +kernel
theorem dX9_falls_252 : decode cX9_falls 252 = .ok (.aload_n 0, 1) := by decide +kernel
theorem dX9_falls_253 : decode cX9_falls 253 = .ok (.getfield 43, 3) := by decide +kernel
theorem dX9_falls_256 : decode cX9_falls 256 = .ok (.iload 6, 2) := by decide +kernel
theorem dX9_falls_258 : decode cX9_falls 258 = .ok (.iaload, 1) := by decide +kernel
theorem dX9_falls_259 : decode cX9_falls 259 = .ok (.aload_n 0, 1) := by decide +kernel
theorem dX9_falls_260 : decode cX9_falls 260 = .ok (.getfield 43, 3) := by decide +kernel
theorem dX9_falls_263 : decode cX9_falls 263 = .ok (.iload 5, 2) := by decide +kernel
theorem dX9_falls_265 : decode cX9_falls 265 = .ok (.iaload, 1) := by decide +kernel
theorem dX9_falls_266 : decode cX9_falls 266 = .ok (.if_icmp .ge 8, 3) := by decide +kernel
theorem dX9_falls_269 : decode cX9_falls 269 = .ok (.iload 6, 2) := by decide +kernel
theorem dX9_falls_271 : decode cX9_falls 271 = .ok (.goto 5, 3) := by decide +kernel
theorem dX9_falls_274 : decode cX9_falls 274 = .ok (.iload 5, 2) := by decide +kernel
theorem dX9_falls_276 : decode cX9_falls 276 = .ok (.istore 5, 2) := by decide +kernel
theorem dX9_falls_278 : decode cX9_falls 278 = .ok (.iinc 6 1, 3) := by decide +kernel
theorem dX9_falls_281 : decode cX9_falls 281 = .ok (.goto (-104), 3) := by decide +kernel
theorem dX9_falls_284 : decode cX9_falls 284 = .ok (.iload_n 2, 1) := by decide +kernel
theorem dX9_falls_285 : decode cX9_falls 285 = .ok (.ifCond .ne 8, 3) := by decide +kernel
theorem dX9_falls_288 : decode cX9_falls 288 = .ok (.iload 4, 2) := by decide +kernel
theorem dX9_falls_290 : decode cX9_falls 290 = .ok (.goto 5, 3) := by decide +kernel
theorem dX9_falls_293 : decode cX9_falls 293 = .ok (.iload 5, 2) := by decide +kernel
theorem dX9_falls_295 : decode cX9_falls 295 = .ok (.ireturn, 1) := by decide +kernel
theorem dX9_burned_0 : decode cX9_burned 0 = .ok (.aload_n 0, 1) := by decide +kernel
theorem dX9_burned_1 : decode cX9_burned 1 = .ok (.iconst 0, 1) := by decide +kernel
theorem dX9_burned_2 : decode cX9_burned 2 = .ok (.putfield 68, 3) := by decide +kernel
theorem dX9_burned_5 : decode cX9_burned 5 = .ok (.iload_n 1, 1) := by decide +kernel
theorem dX9_burned_6 : decode cX9_burned 6 = .ok (.iconst 2, 1) := by decide +kernel
theorem dX9_burned_7 : decode cX9_burned 7 = .ok (.iconst 4, 1) := by decide +kernel
theorem dX9_burned_8 : decode cX9_burned 8 = .ok (.invokestatic 71, 3) := by decide +kernel
theorem dX9_burned_11 : decode cX9_burned 11 = .ok (.ifCond .eq 36, 3) := by decide +kernel
theorem dX9_burned_14 : decode cX9_burned 14 = .ok (.iload_n 2, 1) := by decide +kernel
theorem dX9_burned_15 : decode cX9_burned 15 = .ok (.iconst 1, 1) := by decide +kernel
theorem dX9_burned_16 : decode cX9_burned 16 = .ok (.bipush 12, 2) := by decide +kernel
theorem dX9_burned_18 : decode cX9_burned 18 = .ok (.invokestatic 71, 3) := by decide +kernel
theorem dX9_burned_21 : decode cX9_burned 21 = .ok (.ifCond .eq 26, 3) := by decide +kernel
theorem dX9_burned_24 : decode cX9_burned 24 = .ok (.iload_n 3, 1) := by decide +kernel
theorem dX9_burned_25 : decode cX9_burned 25 = .ok (.iconst 0, 1) := by decide +kernel
theorem dX9_burned_26 : decode cX9_burned 26 = .ok (.sipush 999, 3) := by decide +kernel
theorem dX9_burned_29 : decode cX9_burned 29 = .ok (.invokestatic 71, 3) := by decide +kernel
theorem dX9_burned_32 : decode cX9_burned 32 = .ok (.ifCond .eq 15, 3) := by decide +kernel
theorem dX9_burned_35 : decode cX9_burned 35 = .ok (.iload 4, 2) := by decide +kernel
theorem dX9_burned_37 : decode cX9_burned 37 = .ok (.iconst (-1), 1) := by decide +kernel
theorem dX9_burned_38 : decode cX9_burned 38 = .ok (.iload_n 1, 1) := by decide +kernel
theorem dX9_burned_39 : decode cX9_burned 39 = .ok (.iconst 1, 1) := by decide +kernel
theorem dX9_burned_40 : decode cX9_burned 40 = .ok (.isub, 1) := by decide +kernel
theorem dX9_burned_41 : decode cX9_burned 41 = .ok (.invokestatic 71, 3) := by decide +kernel
theorem dX9_burned_44 : decode cX9_burned 44 = .ok (.ifCond .ne 5, 3) := by decide +kernel
theorem dX9_burned_47 : decode cX9_burned 47 = .ok (.iconst (-1), 1) := by decide +kernel
theorem dX9_burned_48 : decode cX9_burned 48 = .ok (.ireturn, 1) := by decide +kernel
theorem dX9_burned_49 : decode cX9_burned 49 = .ok (.iconst 1, 1) := by decide +kernel
theorem dX9_burned_50 : decode cX9_burned 50 = .ok (.istore 5, 2) := by decide +kernel
theorem dX9_burned_52 : decode cX9_burned 52 = .ok (.iconst 0, 1) := by decide +kernel
theorem dX9_burned_53 : decode cX9_burned 53 = .ok (.istore 6, 2) := by decide +kernel
theorem dX9_burned_55 : decode cX9_burned 55 = .ok (.iload 6, 2) := by decide +kernel
theorem dX9_burned_57 : decode cX9_burned 57 = .ok (.iload_n 1, 1) := by decide +kernel
theorem dX9_burned_58 : decode cX9_burned 58 = .ok (.if_icmp .ge 15, 3) := by decide +kernel
theorem dX9_burned_61 : decode cX9_burned 61 = .ok (.iload 5, 2) := by decide +kernel
theorem dX9_burned_63 : decode cX9_burned 63 = .ok (.iload_n 2, 1) := by decide +kernel
theorem dX9_burned_64 : decode cX9_burned 64 = .ok (.imul, 1) := by decide +kernel
theorem dX9_burned_65 : decode cX9_burned 65 = .ok (.istore 5, 2) := by decide +kernel
theorem dX9_burned_67 : decode cX9_burned 67 = .ok (.iinc 6 1, 3) := by decide +kernel
theorem dX9_burned_70 : decode cX9_burned 70 = .ok (.goto (-15), 3) := by decide +kernel
theorem dX9_burned_73 : decode cX9_burned 73 = .ok (.iconst 0, 1) := by decide +kernel
theorem dX9_burned_74 : decode cX9_burned 74 = .ok (.istore 6, 2) := by decide +kernel
theorem dX9_burned_76 : decode cX9_burned 76 = .ok (.iconst 0, 1) := by decide +kernel
theorem dX9_burned_77 : decode cX9_burned 77 = .ok (.istore 7, 2) := by decide +kernel
theorem dX9_burned_79 : decode cX9_burned 79 = .ok (.iload 7, 2) := by decide +kernel
theorem dX9_burned_81 : decode cX9_burned 81 = .ok (.iload 5, 2) := by decide +kernel
theorem dX9_burned_83 : decode cX9_burned 83 = .ok (.if_icmp .ge 132, 3) := by decide +kernel
theorem dX9_burned_86 : decode cX9_burned 86 = .ok (.iload 7, 2) := by decide +kernel
theorem dX9_burned_88 : decode cX9_burned 88 = .ok (.istore 8, 2) := by decide +kernel
theorem dX9_burned_90 : decode cX9_burned 90 = .ok (.iconst 0, 1) := by decide +kernel
theorem dX9_burned_91 : decode cX9_burned 91 = .ok (.istore 9, 2) := by decide +kernel
theorem dX9_burned_93 : decode cX9_burned 93 = .ok (.iconst 1, 1) := by decide +kernel
theorem dX9_burned_94 : decode cX9_burned 94 = .ok (.istore 10, 2) := by decide +kernel
theorem dX9_burned_96 : decode cX9_burned 96 = .ok (.iload_n 1, 1) := by decide +kernel
theorem dX9_burned_97 : decode cX9_burned 97 = .ok (.iconst 1, 1) := by decide +kernel
theorem dX9_burned_98 : decode cX9_burned 98 = .ok (.isub, 1) := by decide +kernel
theorem dX9_burned_99 : decode cX9_burned 99 = .ok (.istore 11, 2) := by decide +kernel
theorem dX9_burned_101 : decode cX9_burned 101 = .ok (.iload 11, 2) := by decide +kernel
theorem dX9_burned_103 : decode cX9_burned 103 = .ok (.ifCond .lt 79, 3) := by decide +kernel
theorem dX9_burned_106 : decode cX9_burned 106 = .ok (.aload_n 0, 1) := by decide +kernel
theorem dX9_burned_107 : decode cX9_burned 107 = .ok (.getfield 55, 3) := by decide +kernel
theorem dX9_burned_110 : decode cX9_burned 110 = .ok (.iload 11, 2) := by decide +kernel
theorem dX9_burned_112 : decode cX9_burned 112 = .ok (.iconst 1, 1) := by decide +kernel
theorem dX9_burned_113 : decode cX9_burned 113 = .ok (.iload 8, 2) := by decide +kernel
theorem dX9_burned_115 : decode cX9_burned 115 = .ok (.iload_n 2, 1) := by decide +kernel
theorem dX9_burned_116 : decode cX9_burned 116 = .ok (.irem, 1) := by decide +kernel
theorem dX9_burned_117 : decode cX9_burned 117 = .ok (.iadd, 1) := by decide +kernel
theorem dX9_burned_118 : decode cX9_burned 118 = .ok (.iastore, 1) := by decide +kernel
theorem dX9_burned_119 : decode cX9_burned 119 = .ok (.iload 8, 2) := by decide +kernel
theorem dX9_burned_121 : decode cX9_burned 121 = .ok (.iload_n 2, 1) := by decide +kernel
theorem dX9_burned_122 : decode cX9_burned 122 = .ok (.idiv, 1) := by decide +kernel
theorem dX9_burned_123 : decode cX9_burned 123 = .ok (.istore 8, 2) := by decide +kernel
theorem dX9_burned_125 : decode cX9_burned 125 = .ok (.iload 9, 2) := by decide +kernel
theorem dX9_burned_127 : decode cX9_burned 127 = .ok (.aload_n 0, 1) := by decide +kernel
theorem dX9_burned_128 : decode cX9_burned 128 = .ok (.getfield 55, 3) := by decide +kernel
theorem dX9_burned_131 : decode cX9_burned 131 = .ok (.iload 11, 2) := by decide +kernel
theorem dX9_burned_133 : decode cX9_burned 133 = .ok (.iaload, 1) := by decide +kernel
theorem dX9_burned_134 : decode cX9_burned 134 = .ok (.iadd, 1) := by decide +kernel
theorem dX9_burned_135 : decode cX9_burned 135 = .ok (.istore 9, 2) := by decide +kernel
theorem dX9_burned_137 : decode cX9_burned 137 = .ok (.iload 10, 2) := by decide +kernel
theorem dX9_burned_139 : decode cX9_burned 139 = .ok (.ifCond .eq 34, 3) := by decide +kernel
theorem dX9_burned_142 : decode cX9_burned 142 = .ok (.iload 11, 2) := by decide +kernel
theorem dX9_burned_144 : decode cX9_burned 144 = .ok (.iload_n 1, 1) := by decide +kernel
theorem dX9_burned_145 : decode cX9_burned 145 = .ok (.iconst 1, 1) := by decide +kernel
theorem dX9_burned_146 : decode cX9_burned 146 = .ok (.isub, 1) := by decide +kernel
theorem dX9_burned_147 : decode cX9_burned 147 = .ok (.if_icmp .eq 22, 3) := by decide +kernel
theorem dX9_burned_150 : decode cX9_burned 150 = .ok (.aload_n 0, 1) := by decide +kernel
theorem dX9_burned_151 : decode cX9_burned 151 = .ok (.getfield 55, 3) := by decide +kernel
theorem dX9_burned_154 : decode cX9_burned 154 = .ok (.iload 11, 2) := by decide +kernel
theorem dX9_burned_156 : decode cX9_burned 156 = .ok (.iaload, 1) := by decide +kernel
theorem dX9_burned_157 : decode cX9_burned 157 = .ok (.aload_n 0, 1) := by decide +kernel
theorem dX9_burned_158 : decode cX9_burned 158 = .ok (.getfield 55, 3) := by decide +kernel
theorem dX9_burned_161 : decode cX9_burned 161 = .ok (.iload 11, 2) := by decide +kernel
theorem dX9_burned_163 : decode cX9_burned 163 = .ok (.iconst 1, 1) := by decide +kernel
theorem dX9_burned_164 : decode cX9_burned 164 = .ok (.iadd, 1) := by decide +kernel
theorem dX9_burned_165 : decode cX9_burned 165 = .ok (.iaload, 1) := by decide +kernel
theorem dX9_burned_166 : decode cX9_burned 166 = .ok (.if_icmp .gt 7, 3) := by decide +kernel
theorem dX9_burned_169 : decode cX9_burned 169 = .ok (.iconst 1, 1) := by decide +kernel
theorem dX9_burned_170 : decode cX9_burned 170 = .ok (.goto 4, 3) := by decide +kernel
theorem dX9_burned_173 : decode cX9_burned 173 = .ok (.iconst 0, 1) := by decide +kernel
theorem dX9_burned_174 : decode cX9_burned 174 = .ok (.istore 10, 2) := by decide +kernel
theorem dX9_burned_176 : decode cX9_burned 176 = .ok (.iinc 11 (-1), 3) := by decide +kernel
theorem dX9_burned_179 : decode cX9_burned 179 = .ok (.goto (-78), 3) := by decide +kernel
theorem dX9_burned_182 : decode cX9_burned 182 = .ok (.iload 10, 2) := by decide +kernel
theorem dX9_burned_184 : decode cX9_burned 184 = .ok (.ifCond .eq 25, 3) := by decide +kernel
theorem dX9_burned_187 : decode cX9_burned 187 = .ok (.iload 9, 2) := by decide +kernel
theorem dX9_burned_189 : decode cX9_burned 189 = .ok (.iload_n 3, 1) := by decide +kernel
theorem dX9_burned_190 : decode cX9_burned 190 = .ok (.if_icmp .ne 19, 3) := by decide +kernel
theorem dX9_burned_193 : decode cX9_burned 193 = .ok (.iload 4, 2) := by decide +kernel
theorem dX9_burned_195 : decode cX9_burned 195 = .ok (.ifCond .lt 11, 3) := by decide +kernel
theorem dX9_burned_198 : decode cX9_burned 198 = .ok (.aload_n 0, 1) := by decide +kernel
theorem dX9_burned_199 : decode cX9_burned 199 = .ok (.getfield 55, 3) := by decide +kernel
theorem dX9_burned_202 : decode cX9_burned 202 = .ok (.iload 4, 2) := by decide +kernel
theorem dX9_burned_204 : decode cX9_burned 204 = .ok (.iaload, 1) := by decide +kernel
theorem dX9_burned_205 : decode cX9_burned 205 = .ok (.ireturn, 1) := by decide +kernel
theorem dX9_burned_206 : decode cX9_burned 206 = .ok (.iinc 6 1, 3) := by decide +kernel
theorem dX9_burned_209 : decode cX9_burned 209 = .ok (.iinc 7 1, 3) := by decide +kernel
theorem dX9_burned_212 : decode cX9_burned 212 = .ok (.goto (-133), 3) := by decide +kernel
theorem dX9_burned_215 : decode cX9_burned 215 = .ok (.iload 4, 2) := by decide +kernel
theorem dX9_burned_217 : decode cX9_burned 217 = .ok (.ifCond .ge 8, 3) := by decide +kernel
theorem dX9_burned_220 : decode cX9_burned 220 = .ok (.iload 6, 2) := by decide +kernel
theorem dX9_burned_222 : decode cX9_burned 222 = .ok (.goto 5, 3) := by decide +kernel
theorem dX9_burned_225 : decode cX9_burned 225 = .ok (.bipush (-4), 2) := by decide +kernel
theorem dX9_burned_227 : decode cX9_burned 227 = .ok (.ireturn, 1) := by decide +kernel
theorem dX9_draw_0 : decode cX9_draw 0 = .ok (.ldc2_w 187, 3) := by decide +kernel
theorem dX9_draw_3 : decode cX9_draw 3 = .ok (.iload_n 0, 1) := by decide +kernel
theorem dX9_draw_4 : decode cX9_draw 4 = .ok (.i2l, 1) := by decide +kernel
theorem dX9_draw_5 : decode cX9_draw 5 = .ok (.lmul, 1) := by decide +kernel
theorem dX9_draw_6 : decode cX9_draw 6 = .ok (.ldc2_w 189, 3) := by decide +kernel
theorem dX9_draw_9 : decode cX9_draw 9 = .ok (.iload_n 1, 1) := by decide +kernel
theorem dX9_draw_10 : decode cX9_draw 10 = .ok (.i2l, 1) := by decide +kernel
theorem dX9_draw_11 : decode cX9_draw 11 = .ok (.lmul, 1) := by decide +kernel
theorem dX9_draw_12 : decode cX9_draw 12 = .ok (.ladd, 1) := by decide +kernel
theorem dX9_draw_13 : decode cX9_draw 13 = .ok (.ldc2_w 191, 3) := by decide +kernel
theorem dX9_draw_16 : decode cX9_draw 16 = .ok (.iload_n 2, 1) := by decide +kernel
theorem dX9_draw_17 : decode cX9_draw 17 = .ok (.i2l, 1) := by decide +kernel
theorem dX9_draw_18 : decode cX9_draw 18 = .ok (.lmul, 1) := by decide +kernel
theorem dX9_draw_19 : decode cX9_draw 19 = .ok (.ladd, 1) := by decide +kernel
theorem dX9_draw_20 : decode cX9_draw 20 = .ok (.lconst 1, 1) := by decide +kernel
theorem dX9_draw_21 : decode cX9_draw 21 = .ok (.ladd, 1) := by decide +kernel
theorem dX9_draw_22 : decode cX9_draw 22 = .ok (.lstore_n 3, 1) := by decide +kernel
theorem dX9_draw_23 : decode cX9_draw 23 = .ok (.lload_n 3, 1) := by decide +kernel
theorem dX9_draw_24 : decode cX9_draw 24 = .ok (.lload_n 3, 1) := by decide +kernel
theorem dX9_draw_25 : decode cX9_draw 25 = .ok (.lmul, 1) := by decide +kernel
theorem dX9_draw_26 : decode cX9_draw 26 = .ok (.ldc2_w 193, 3) := by decide +kernel
theorem dX9_draw_29 : decode cX9_draw 29 = .ok (.lrem, 1) := by decide +kernel
theorem dX9_draw_30 : decode cX9_draw 30 = .ok (.l2i, 1) := by decide +kernel
theorem dX9_draw_31 : decode cX9_draw 31 = .ok (.ireturn, 1) := by decide +kernel
theorem dX9_drawn_0 : decode cX9_drawn 0 = .ok (.aload_n 0, 1) := by decide +kernel
theorem dX9_drawn_1 : decode cX9_drawn 1 = .ok (.iconst 0, 1) := by decide +kernel
theorem dX9_drawn_2 : decode cX9_drawn 2 = .ok (.putfield 68, 3) := by decide +kernel
theorem dX9_drawn_5 : decode cX9_drawn 5 = .ok (.iload_n 1, 1) := by decide +kernel
theorem dX9_drawn_6 : decode cX9_drawn 6 = .ok (.iconst 0, 1) := by decide +kernel
theorem dX9_drawn_7 : decode cX9_drawn 7 = .ok (.sipush 9999, 3) := by decide +kernel
theorem dX9_drawn_10 : decode cX9_drawn 10 = .ok (.invokestatic 71, 3) := by decide +kernel
theorem dX9_drawn_13 : decode cX9_drawn 13 = .ok (.ifCond .eq 22, 3) := by decide +kernel
theorem dX9_drawn_16 : decode cX9_drawn 16 = .ok (.iload_n 2, 1) := by decide +kernel
theorem dX9_drawn_17 : decode cX9_drawn 17 = .ok (.iconst 1, 1) := by decide +kernel
theorem dX9_drawn_18 : decode cX9_drawn 18 = .ok (.bipush 60, 2) := by decide +kernel
theorem dX9_drawn_20 : decode cX9_drawn 20 = .ok (.invokestatic 71, 3) := by decide +kernel
theorem dX9_drawn_23 : decode cX9_drawn 23 = .ok (.ifCond .eq 12, 3) := by decide +kernel
theorem dX9_drawn_26 : decode cX9_drawn 26 = .ok (.iload_n 3, 1) := by decide +kernel
theorem dX9_drawn_27 : decode cX9_drawn 27 = .ok (.iconst 0, 1) := by decide +kernel
theorem dX9_drawn_28 : decode cX9_drawn 28 = .ok (.iconst 1, 1) := by decide +kernel
theorem dX9_drawn_29 : decode cX9_drawn 29 = .ok (.invokestatic 71, 3) := by decide +kernel
theorem dX9_drawn_32 : decode cX9_drawn 32 = .ok (.ifCond .ne 5, 3) := by decide +kernel
theorem dX9_drawn_35 : decode cX9_drawn 35 = .ok (.iconst (-1), 1) := by decide +kernel
theorem dX9_drawn_36 : decode cX9_drawn 36 = .ok (.ireturn, 1) := by decide +kernel
theorem dX9_drawn_37 : decode cX9_drawn 37 = .ok (.aload_n 0, 1) := by decide +kernel
theorem dX9_drawn_38 : decode cX9_drawn 38 = .ok (.iconst 1, 1) := by decide +kernel
theorem dX9_drawn_39 : decode cX9_drawn 39 = .ok (.invokevirtual 159, 3) := by decide +kernel
theorem dX9_drawn_42 : decode cX9_drawn 42 = .ok (.iconst 0, 1) := by decide +kernel
theorem dX9_drawn_43 : decode cX9_drawn 43 = .ok (.istore 4, 2) := by decide +kernel
theorem dX9_drawn_45 : decode cX9_drawn 45 = .ok (.iload 4, 2) := by decide +kernel
theorem dX9_drawn_47 : decode cX9_drawn 47 = .ok (.iload_n 2, 1) := by decide +kernel
theorem dX9_drawn_48 : decode cX9_drawn 48 = .ok (.if_icmp .ge 123, 3) := by decide +kernel
theorem dX9_drawn_51 : decode cX9_drawn 51 = .ok (.iload_n 1, 1) := by decide +kernel
theorem dX9_drawn_52 : decode cX9_drawn 52 = .ok (.iload 4, 2) := by decide +kernel
theorem dX9_drawn_54 : decode cX9_drawn 54 = .ok (.iconst 0, 1) := by decide +kernel
theorem dX9_drawn_55 : decode cX9_drawn 55 = .ok (.invokestatic 195, 3) := by decide +kernel
theorem dX9_drawn_58 : decode cX9_drawn 58 = .ok (.aload_n 0, 1) := by decide +kernel
theorem dX9_drawn_59 : decode cX9_drawn 59 = .ok (.getfield 58, 3) := by decide +kernel
theorem dX9_drawn_62 : decode cX9_drawn 62 = .ok (.irem, 1) := by decide +kernel
theorem dX9_drawn_63 : decode cX9_drawn 63 = .ok (.istore 5, 2) := by decide +kernel
theorem dX9_drawn_65 : decode cX9_drawn 65 = .ok (.iload_n 1, 1) := by decide +kernel
theorem dX9_drawn_66 : decode cX9_drawn 66 = .ok (.iload 4, 2) := by decide +kernel
theorem dX9_drawn_68 : decode cX9_drawn 68 = .ok (.iconst 1, 1) := by decide +kernel
theorem dX9_drawn_69 : decode cX9_drawn 69 = .ok (.invokestatic 195, 3) := by decide +kernel
theorem dX9_drawn_72 : decode cX9_drawn 72 = .ok (.aload_n 0, 1) := by decide +kernel
theorem dX9_drawn_73 : decode cX9_drawn 73 = .ok (.getfield 58, 3) := by decide +kernel
theorem dX9_drawn_76 : decode cX9_drawn 76 = .ok (.irem, 1) := by decide +kernel
theorem dX9_drawn_77 : decode cX9_drawn 77 = .ok (.istore 6, 2) := by decide +kernel
theorem dX9_drawn_79 : decode cX9_drawn 79 = .ok (.iconst 1, 1) := by decide +kernel
theorem dX9_drawn_80 : decode cX9_drawn 80 = .ok (.iload_n 1, 1) := by decide +kernel
theorem dX9_drawn_81 : decode cX9_drawn 81 = .ok (.iload 4, 2) := by decide +kernel
theorem dX9_drawn_83 : decode cX9_drawn 83 = .ok (.iconst 2, 1) := by decide +kernel
theorem dX9_drawn_84 : decode cX9_drawn 84 = .ok (.invokestatic 195, 3) := by decide +kernel
theorem dX9_drawn_87 : decode cX9_drawn 87 = .ok (.bipush 20, 2) := by decide +kernel
theorem dX9_drawn_89 : decode cX9_drawn 89 = .ok (.irem, 1) := by decide +kernel
theorem dX9_drawn_90 : decode cX9_drawn 90 = .ok (.iadd, 1) := by decide +kernel
theorem dX9_drawn_91 : decode cX9_drawn 91 = .ok (.istore 7, 2) := by decide +kernel
theorem dX9_drawn_93 : decode cX9_drawn 93 = .ok (.iconst 1, 1) := by decide +kernel
theorem dX9_drawn_94 : decode cX9_drawn 94 = .ok (.iload_n 1, 1) := by decide +kernel
theorem dX9_drawn_95 : decode cX9_drawn 95 = .ok (.iload 4, 2) := by decide +kernel
theorem dX9_drawn_97 : decode cX9_drawn 97 = .ok (.iconst 3, 1) := by decide +kernel
theorem dX9_drawn_98 : decode cX9_drawn 98 = .ok (.invokestatic 195, 3) := by decide +kernel
theorem dX9_drawn_101 : decode cX9_drawn 101 = .ok (.bipush 30, 2) := by decide +kernel
theorem dX9_drawn_103 : decode cX9_drawn 103 = .ok (.irem, 1) := by decide +kernel
theorem dX9_drawn_104 : decode cX9_drawn 104 = .ok (.iadd, 1) := by decide +kernel
theorem dX9_drawn_105 : decode cX9_drawn 105 = .ok (.istore 8, 2) := by decide +kernel
theorem dX9_drawn_107 : decode cX9_drawn 107 = .ok (.aload_n 0, 1) := by decide +kernel
theorem dX9_drawn_108 : decode cX9_drawn 108 = .ok (.iload 5, 2) := by decide +kernel
theorem dX9_drawn_110 : decode cX9_drawn 110 = .ok (.iload 6, 2) := by decide +kernel
theorem dX9_drawn_112 : decode cX9_drawn 112 = .ok (.iload 7, 2) := by decide +kernel
theorem dX9_drawn_114 : decode cX9_drawn 114 = .ok (.iload 8, 2) := by decide +kernel
theorem dX9_drawn_116 : decode cX9_drawn 116 = .ok (.invokevirtual 120, 3) := by decide +kernel
theorem dX9_drawn_119 : decode cX9_drawn 119 = .ok (.ifCond .eq 42, 3) := by decide +kernel
theorem dX9_drawn_122 : decode cX9_drawn 122 = .ok (.aload_n 0, 1) := by decide +kernel
theorem dX9_drawn_123 : decode cX9_drawn 123 = .ok (.iload 5, 2) := by decide +kernel
theorem dX9_drawn_125 : decode cX9_drawn 125 = .ok (.iload 6, 2) := by decide +kernel
theorem dX9_drawn_127 : decode cX9_drawn 127 = .ok (.iload 7, 2) := by decide +kernel
theorem dX9_drawn_129 : decode cX9_drawn 129 = .ok (.iload 8, 2) := by decide +kernel
theorem dX9_drawn_131 : decode cX9_drawn 131 = .ok (.invokevirtual 124, 3) := by decide +kernel
theorem dX9_drawn_134 : decode cX9_drawn 134 = .ok (.ifCond .eq 27, 3) := by decide +kernel
theorem dX9_drawn_137 : decode cX9_drawn 137 = .ok (.aload_n 0, 1) := by decide +kernel
theorem dX9_drawn_138 : decode cX9_drawn 138 = .ok (.getfield 19, 3) := by decide +kernel
theorem dX9_drawn_141 : decode cX9_drawn 141 = .ok (.bipush 12, 2) := by decide +kernel
theorem dX9_drawn_143 : decode cX9_drawn 143 = .ok (.iaload, 1) := by decide +kernel
theorem dX9_drawn_144 : decode cX9_drawn 144 = .ok (.bipush 8, 2) := by decide +kernel
theorem dX9_drawn_146 : decode cX9_drawn 146 = .ok (.if_icmp .ge 15, 3) := by decide +kernel
theorem dX9_drawn_149 : decode cX9_drawn 149 = .ok (.aload_n 0, 1) := by decide +kernel
theorem dX9_drawn_150 : decode cX9_drawn 150 = .ok (.iload 5, 2) := by decide +kernel
theorem dX9_drawn_152 : decode cX9_drawn 152 = .ok (.iload 6, 2) := by decide +kernel
theorem dX9_drawn_154 : decode cX9_drawn 154 = .ok (.iload 7, 2) := by decide +kernel
theorem dX9_drawn_156 : decode cX9_drawn 156 = .ok (.iload 8, 2) := by decide +kernel
theorem dX9_drawn_158 : decode cX9_drawn 158 = .ok (.invokevirtual 130, 3) := by decide +kernel
theorem dX9_drawn_161 : decode cX9_drawn 161 = .ok (.aload_n 0, 1) := by decide +kernel
theorem dX9_drawn_162 : decode cX9_drawn 162 = .ok (.invokevirtual 153, 3) := by decide +kernel
theorem dX9_drawn_165 : decode cX9_drawn 165 = .ok (.iinc 4 1, 3) := by decide +kernel
theorem dX9_drawn_168 : decode cX9_drawn 168 = .ok (.goto (-123), 3) := by decide +kernel
theorem dX9_drawn_171 : decode cX9_drawn 171 = .ok (.iconst 0, 1) := by decide +kernel
theorem dX9_drawn_172 : decode cX9_drawn 172 = .ok (.istore 4, 2) := by decide +kernel
theorem dX9_drawn_174 : decode cX9_drawn 174 = .ok (.iconst 0, 1) := by decide +kernel
theorem dX9_drawn_175 : decode cX9_drawn 175 = .ok (.istore 5, 2) := by decide +kernel
theorem dX9_drawn_177 : decode cX9_drawn 177 = .ok (.iload 5, 2) := by decide +kernel
theorem dX9_drawn_179 : decode cX9_drawn 179 = .ok (.aload_n 0, 1) := by decide +kernel
theorem dX9_drawn_180 : decode cX9_drawn 180 = .ok (.getfield 58, 3) := by decide +kernel
theorem dX9_drawn_183 : decode cX9_drawn 183 = .ok (.if_icmp .ge 24, 3) := by decide +kernel
theorem dX9_drawn_186 : decode cX9_drawn 186 = .ok (.iload 4, 2) := by decide +kernel
theorem dX9_drawn_188 : decode cX9_drawn 188 = .ok (.aload_n 0, 1) := by decide +kernel
theorem dX9_drawn_189 : decode cX9_drawn 189 = .ok (.getfield 19, 3) := by decide +kernel
theorem dX9_drawn_192 : decode cX9_drawn 192 = .ok (.bipush 6, 2) := by decide +kernel
theorem dX9_drawn_194 : decode cX9_drawn 194 = .ok (.iload 5, 2) := by decide +kernel
theorem dX9_drawn_196 : decode cX9_drawn 196 = .ok (.iadd, 1) := by decide +kernel
theorem dX9_drawn_197 : decode cX9_drawn 197 = .ok (.iaload, 1) := by decide +kernel
theorem dX9_drawn_198 : decode cX9_drawn 198 = .ok (.iadd, 1) := by decide +kernel
theorem dX9_drawn_199 : decode cX9_drawn 199 = .ok (.istore 4, 2) := by decide +kernel
theorem dX9_drawn_201 : decode cX9_drawn 201 = .ok (.iinc 5 1, 3) := by decide +kernel
theorem dX9_drawn_204 : decode cX9_drawn 204 = .ok (.goto (-27), 3) := by decide +kernel
theorem dX9_drawn_207 : decode cX9_drawn 207 = .ok (.iload_n 3, 1) := by decide +kernel
theorem dX9_drawn_208 : decode cX9_drawn 208 = .ok (.ifCond .ne 10, 3) := by decide +kernel
theorem dX9_drawn_211 : decode cX9_drawn 211 = .ok (.aload_n 0, 1) := by decide +kernel
theorem dX9_drawn_212 : decode cX9_drawn 212 = .ok (.invokevirtual 156, 3) := by decide +kernel
theorem dX9_drawn_215 : decode cX9_drawn 215 = .ok (.goto 5, 3) := by decide +kernel
theorem dX9_drawn_218 : decode cX9_drawn 218 = .ok (.iload 4, 2) := by decide +kernel
theorem dX9_drawn_220 : decode cX9_drawn 220 = .ok (.istore 5, 2) := by decide +kernel
theorem dX9_drawn_222 : decode cX9_drawn 222 = .ok (.aload_n 0, 1) := by decide +kernel
theorem dX9_drawn_223 : decode cX9_drawn 223 = .ok (.iconst 0, 1) := by decide +kernel
theorem dX9_drawn_224 : decode cX9_drawn 224 = .ok (.invokevirtual 159, 3) := by decide +kernel
theorem dX9_drawn_227 : decode cX9_drawn 227 = .ok (.iload 5, 2) := by decide +kernel
theorem dX9_drawn_229 : decode cX9_drawn 229 = .ok (.ireturn, 1) := by decide +kernel
theorem dX9_keep_0 : decode cX9_keep 0 = .ok (.aload_n 0, 1) := by decide +kernel
theorem dX9_keep_1 : decode cX9_keep 1 = .ok (.iconst 0, 1) := by decide +kernel
theorem dX9_keep_2 : decode cX9_keep 2 = .ok (.putfield 68, 3) := by decide +kernel
theorem dX9_keep_5 : decode cX9_keep 5 = .ok (.aload_n 0, 1) := by decide +kernel
theorem dX9_keep_6 : decode cX9_keep 6 = .ok (.getfield 95, 3) := by decide +kernel
theorem dX9_keep_9 : decode cX9_keep 9 = .ok (.iconst 2, 1) := by decide +kernel
theorem dX9_keep_10 : decode cX9_keep 10 = .ok (.if_icmp .ne 6, 3) := by decide +kernel
theorem dX9_keep_13 : decode cX9_keep 13 = .ok (.bipush (-3), 2) := by decide +kernel
theorem dX9_keep_15 : decode cX9_keep 15 = .ok (.ireturn, 1) := by decide +kernel
theorem dX9_keep_16 : decode cX9_keep 16 = .ok (.iconst 0, 1) := by decide +kernel
theorem dX9_keep_17 : decode cX9_keep 17 = .ok (.istore_n 1, 1) := by decide +kernel
theorem dX9_keep_18 : decode cX9_keep 18 = .ok (.iload_n 1, 1) := by decide +kernel
theorem dX9_keep_19 : decode cX9_keep 19 = .ok (.bipush 46, 2) := by decide +kernel
theorem dX9_keep_21 : decode cX9_keep 21 = .ok (.if_icmp .ge 29, 3) := by decide +kernel
theorem dX9_keep_24 : decode cX9_keep 24 = .ok (.aload_n 0, 1) := by decide +kernel
theorem dX9_keep_25 : decode cX9_keep 25 = .ok (.getfield 28, 3) := by decide +kernel
theorem dX9_keep_28 : decode cX9_keep 28 = .ok (.bipush 46, 2) := by decide +kernel
theorem dX9_keep_30 : decode cX9_keep 30 = .ok (.aload_n 0, 1) := by decide +kernel
theorem dX9_keep_31 : decode cX9_keep 31 = .ok (.getfield 95, 3) := by decide +kernel
theorem dX9_keep_34 : decode cX9_keep 34 = .ok (.imul, 1) := by decide +kernel
theorem dX9_keep_35 : decode cX9_keep 35 = .ok (.iload_n 1, 1) := by decide +kernel
theorem dX9_keep_36 : decode cX9_keep 36 = .ok (.iadd, 1) := by decide +kernel
theorem dX9_keep_37 : decode cX9_keep 37 = .ok (.aload_n 0, 1) := by decide +kernel
theorem dX9_keep_38 : decode cX9_keep 38 = .ok (.getfield 19, 3) := by decide +kernel
theorem dX9_keep_41 : decode cX9_keep 41 = .ok (.iload_n 1, 1) := by decide +kernel
theorem dX9_keep_42 : decode cX9_keep 42 = .ok (.iaload, 1) := by decide +kernel
theorem dX9_keep_43 : decode cX9_keep 43 = .ok (.iastore, 1) := by decide +kernel
theorem dX9_keep_44 : decode cX9_keep 44 = .ok (.iinc 1 1, 3) := by decide +kernel
theorem dX9_keep_47 : decode cX9_keep 47 = .ok (.goto (-29), 3) := by decide +kernel
theorem dX9_keep_50 : decode cX9_keep 50 = .ok (.aload_n 0, 1) := by decide +kernel
theorem dX9_keep_51 : decode cX9_keep 51 = .ok (.dup, 1) := by decide +kernel
theorem dX9_keep_52 : decode cX9_keep 52 = .ok (.getfield 95, 3) := by decide +kernel
theorem dX9_keep_55 : decode cX9_keep 55 = .ok (.iconst 1, 1) := by decide +kernel
theorem dX9_keep_56 : decode cX9_keep 56 = .ok (.iadd, 1) := by decide +kernel
theorem dX9_keep_57 : decode cX9_keep 57 = .ok (.putfield 95, 3) := by decide +kernel
theorem dX9_keep_60 : decode cX9_keep 60 = .ok (.aload_n 0, 1) := by decide +kernel
theorem dX9_keep_61 : decode cX9_keep 61 = .ok (.getfield 95, 3) := by decide +kernel
theorem dX9_keep_64 : decode cX9_keep 64 = .ok (.ireturn, 1) := by decide +kernel
theorem dX9_back_0 : decode cX9_back 0 = .ok (.aload_n 0, 1) := by decide +kernel
theorem dX9_back_1 : decode cX9_back 1 = .ok (.iconst 0, 1) := by decide +kernel
theorem dX9_back_2 : decode cX9_back 2 = .ok (.putfield 68, 3) := by decide +kernel
theorem dX9_back_5 : decode cX9_back 5 = .ok (.aload_n 0, 1) := by decide +kernel
theorem dX9_back_6 : decode cX9_back 6 = .ok (.getfield 95, 3) := by decide +kernel
theorem dX9_back_9 : decode cX9_back 9 = .ok (.ifCond .ne 6, 3) := by decide +kernel
theorem dX9_back_12 : decode cX9_back 12 = .ok (.bipush (-2), 2) := by decide +kernel
theorem dX9_back_14 : decode cX9_back 14 = .ok (.ireturn, 1) := by decide +kernel
theorem dX9_back_15 : decode cX9_back 15 = .ok (.aload_n 0, 1) := by decide +kernel
theorem dX9_back_16 : decode cX9_back 16 = .ok (.dup, 1) := by decide +kernel
theorem dX9_back_17 : decode cX9_back 17 = .ok (.getfield 95, 3) := by decide +kernel
theorem dX9_back_20 : decode cX9_back 20 = .ok (.iconst 1, 1) := by decide +kernel
theorem dX9_back_21 : decode cX9_back 21 = .ok (.isub, 1) := by decide +kernel
theorem dX9_back_22 : decode cX9_back 22 = .ok (.putfield 95, 3) := by decide +kernel
theorem dX9_back_25 : decode cX9_back 25 = .ok (.iconst 0, 1) := by decide +kernel
theorem dX9_back_26 : decode cX9_back 26 = .ok (.istore_n 1, 1) := by decide +kernel
theorem dX9_back_27 : decode cX9_back 27 = .ok (.iload_n 1, 1) := by decide +kernel
theorem dX9_back_28 : decode cX9_back 28 = .ok (.bipush 46, 2) := by decide +kernel
theorem dX9_back_30 : decode cX9_back 30 = .ok (.if_icmp .ge 29, 3) := by decide +kernel
theorem dX9_back_33 : decode cX9_back 33 = .ok (.aload_n 0, 1) := by decide +kernel
theorem dX9_back_34 : decode cX9_back 34 = .ok (.getfield 19, 3) := by decide +kernel
theorem dX9_back_37 : decode cX9_back 37 = .ok (.iload_n 1, 1) := by decide +kernel
theorem dX9_back_38 : decode cX9_back 38 = .ok (.aload_n 0, 1) := by decide +kernel
theorem dX9_back_39 : decode cX9_back 39 = .ok (.getfield 28, 3) := by decide +kernel
theorem dX9_back_42 : decode cX9_back 42 = .ok (.bipush 46, 2) := by decide +kernel
theorem dX9_back_44 : decode cX9_back 44 = .ok (.aload_n 0, 1) := by decide +kernel
theorem dX9_back_45 : decode cX9_back 45 = .ok (.getfield 95, 3) := by decide +kernel
theorem dX9_back_48 : decode cX9_back 48 = .ok (.imul, 1) := by decide +kernel
theorem dX9_back_49 : decode cX9_back 49 = .ok (.iload_n 1, 1) := by decide +kernel
theorem dX9_back_50 : decode cX9_back 50 = .ok (.iadd, 1) := by decide +kernel
theorem dX9_back_51 : decode cX9_back 51 = .ok (.iaload, 1) := by decide +kernel
theorem dX9_back_52 : decode cX9_back 52 = .ok (.iastore, 1) := by decide +kernel
theorem dX9_back_53 : decode cX9_back 53 = .ok (.iinc 1 1, 3) := by decide +kernel
theorem dX9_back_56 : decode cX9_back 56 = .ok (.goto (-29), 3) := by decide +kernel
theorem dX9_back_59 : decode cX9_back 59 = .ok (.aload_n 0, 1) := by decide +kernel
theorem dX9_back_60 : decode cX9_back 60 = .ok (.iconst 0, 1) := by decide +kernel
theorem dX9_back_61 : decode cX9_back 61 = .ok (.putfield 92, 3) := by decide +kernel
theorem dX9_back_64 : decode cX9_back 64 = .ok (.aload_n 0, 1) := by decide +kernel
theorem dX9_back_65 : decode cX9_back 65 = .ok (.getfield 95, 3) := by decide +kernel
theorem dX9_back_68 : decode cX9_back 68 = .ok (.ireturn, 1) := by decide +kernel
theorem dX9_count_0 : decode cX9_count 0 = .ok (.aload_n 0, 1) := by decide +kernel
theorem dX9_count_1 : decode cX9_count 1 = .ok (.iconst 0, 1) := by decide +kernel
theorem dX9_count_2 : decode cX9_count 2 = .ok (.putfield 68, 3) := by decide +kernel
theorem dX9_count_5 : decode cX9_count 5 = .ok (.iload_n 1, 1) := by decide +kernel
theorem dX9_count_6 : decode cX9_count 6 = .ok (.ifCond .ne 10, 3) := by decide +kernel
theorem dX9_count_9 : decode cX9_count 9 = .ok (.aload_n 0, 1) := by decide +kernel
theorem dX9_count_10 : decode cX9_count 10 = .ok (.getfield 58, 3) := by decide +kernel
theorem dX9_count_13 : decode cX9_count 13 = .ok (.goto 83, 3) := by decide +kernel
theorem dX9_count_16 : decode cX9_count 16 = .ok (.iload_n 1, 1) := by decide +kernel
theorem dX9_count_17 : decode cX9_count 17 = .ok (.iconst 1, 1) := by decide +kernel
theorem dX9_count_18 : decode cX9_count 18 = .ok (.if_icmp .ne 13, 3) := by decide +kernel
theorem dX9_count_21 : decode cX9_count 21 = .ok (.aload_n 0, 1) := by decide +kernel
theorem dX9_count_22 : decode cX9_count 22 = .ok (.getfield 19, 3) := by decide +kernel
theorem dX9_count_25 : decode cX9_count 25 = .ok (.bipush 12, 2) := by decide +kernel
theorem dX9_count_27 : decode cX9_count 27 = .ok (.iaload, 1) := by decide +kernel
theorem dX9_count_28 : decode cX9_count 28 = .ok (.goto 68, 3) := by decide +kernel
theorem dX9_count_31 : decode cX9_count 31 = .ok (.iload_n 1, 1) := by decide +kernel
theorem dX9_count_32 : decode cX9_count 32 = .ok (.iconst 2, 1) := by decide +kernel
theorem dX9_count_33 : decode cX9_count 33 = .ok (.if_icmp .ne 10, 3) := by decide +kernel
theorem dX9_count_36 : decode cX9_count 36 = .ok (.aload_n 0, 1) := by decide +kernel
theorem dX9_count_37 : decode cX9_count 37 = .ok (.getfield 98, 3) := by decide +kernel
theorem dX9_count_40 : decode cX9_count 40 = .ok (.goto 56, 3) := by decide +kernel
theorem dX9_count_43 : decode cX9_count 43 = .ok (.iload_n 1, 1) := by decide +kernel
theorem dX9_count_44 : decode cX9_count 44 = .ok (.iconst 3, 1) := by decide +kernel
theorem dX9_count_45 : decode cX9_count 45 = .ok (.if_icmp .ne 10, 3) := by decide +kernel
theorem dX9_count_48 : decode cX9_count 48 = .ok (.aload_n 0, 1) := by decide +kernel
theorem dX9_count_49 : decode cX9_count 49 = .ok (.getfield 92, 3) := by decide +kernel
theorem dX9_count_52 : decode cX9_count 52 = .ok (.goto 44, 3) := by decide +kernel
theorem dX9_count_55 : decode cX9_count 55 = .ok (.iload_n 1, 1) := by decide +kernel
theorem dX9_count_56 : decode cX9_count 56 = .ok (.iconst 4, 1) := by decide +kernel
theorem dX9_count_57 : decode cX9_count 57 = .ok (.if_icmp .ne 10, 3) := by decide +kernel
theorem dX9_count_60 : decode cX9_count 60 = .ok (.aload_n 0, 1) := by decide +kernel
theorem dX9_count_61 : decode cX9_count 61 = .ok (.getfield 95, 3) := by decide +kernel
theorem dX9_count_64 : decode cX9_count 64 = .ok (.goto 32, 3) := by decide +kernel
theorem dX9_count_67 : decode cX9_count 67 = .ok (.iload_n 1, 1) := by decide +kernel
theorem dX9_count_68 : decode cX9_count 68 = .ok (.iconst 5, 1) := by decide +kernel
theorem dX9_count_69 : decode cX9_count 69 = .ok (.if_icmp .ne 10, 3) := by decide +kernel
theorem dX9_count_72 : decode cX9_count 72 = .ok (.aload_n 0, 1) := by decide +kernel
theorem dX9_count_73 : decode cX9_count 73 = .ok (.getfield 75, 3) := by decide +kernel
theorem dX9_count_76 : decode cX9_count 76 = .ok (.goto 20, 3) := by decide +kernel
theorem dX9_count_79 : decode cX9_count 79 = .ok (.iload_n 1, 1) := by decide +kernel
theorem dX9_count_80 : decode cX9_count 80 = .ok (.bipush 6, 2) := by decide +kernel
theorem dX9_count_82 : decode cX9_count 82 = .ok (.if_icmp .ne 13, 3) := by decide +kernel
theorem dX9_count_85 : decode cX9_count 85 = .ok (.aload_n 0, 1) := by decide +kernel
theorem dX9_count_86 : decode cX9_count 86 = .ok (.getfield 19, 3) := by decide +kernel
theorem dX9_count_89 : decode cX9_count 89 = .ok (.bipush 45, 2) := by decide +kernel
theorem dX9_count_91 : decode cX9_count 91 = .ok (.iaload, 1) := by decide +kernel
theorem dX9_count_92 : decode cX9_count 92 = .ok (.goto 4, 3) := by decide +kernel
theorem dX9_count_95 : decode cX9_count 95 = .ok (.iconst (-1), 1) := by decide +kernel
theorem dX9_count_96 : decode cX9_count 96 = .ok (.ireturn, 1) := by decide +kernel
theorem dJ9_max_7cf53_0 : decode cJ9_max_7cf53 0 = .ok (.iload_n 0, 1) := by decide +kernel
theorem dJ9_max_7cf53_1 : decode cJ9_max_7cf53 1 = .ok (.iload_n 1, 1) := by decide +kernel
theorem dJ9_max_7cf53_2 : decode cJ9_max_7cf53 2 = .ok (.if_icmp .lt 7, 3) := by decide +kernel
theorem dJ9_max_7cf53_5 : decode cJ9_max_7cf53 5 = .ok (.iload_n 0, 1) := by decide +kernel
theorem dJ9_max_7cf53_6 : decode cJ9_max_7cf53 6 = .ok (.goto 4, 3) := by decide +kernel
theorem dJ9_max_7cf53_9 : decode cJ9_max_7cf53 9 = .ok (.iload_n 1, 1) := by decide +kernel
theorem dJ9_max_7cf53_10 : decode cJ9_max_7cf53 10 = .ok (.ireturn, 1) := by decide +kernel
theorem dJ9_min_7cf53_0 : decode cJ9_min_7cf53 0 = .ok (.iload_n 0, 1) := by decide +kernel
theorem dJ9_min_7cf53_1 : decode cJ9_min_7cf53 1 = .ok (.iload_n 1, 1) := by decide +kernel
theorem dJ9_min_7cf53_2 : decode cJ9_min_7cf53 2 = .ok (.if_icmp .gt 7, 3) := by decide +kernel
theorem dJ9_min_7cf53_5 : decode cJ9_min_7cf53 5 = .ok (.iload_n 0, 1) := by decide +kernel
theorem dJ9_min_7cf53_6 : decode cJ9_min_7cf53 6 = .ok (.goto 4, 3) := by decide +kernel
theorem dJ9_min_7cf53_9 : decode cJ9_min_7cf53 9 = .ok (.iload_n 1, 1) := by decide +kernel
theorem dJ9_min_7cf53_10 : decode cJ9_min_7cf53 10 = .ok (.ireturn, 1) := by decide +kernel
theorem dL_law_0 : decode cL_law 0 = .ok (.new 7, 3) := by decide +kernel
theorem dL_law_3 : decode cL_law 3 = .ok (.dup, 1) := by decide +kernel
theorem dL_law_4 : decode cL_law 4 = .ok (.invokespecial 9, 3) := by decide +kernel
theorem dL_law_7 : decode cL_law 7 = .ok (.astore_n 1, 1) := by decide +kernel
theorem dL_law_8 : decode cL_law 8 = .ok (.new 10, 3) := by decide +kernel
theorem dL_law_11 : decode cL_law 11 = .ok (.dup, 1) := by decide +kernel
theorem dL_law_12 : decode cL_law 12 = .ok (.invokespecial 12, 3) := by decide +kernel
theorem dL_law_15 : decode cL_law 15 = .ok (.astore_n 2, 1) := by decide +kernel
theorem dL_law_16 : decode cL_law 16 = .ok (.iconst 0, 1) := by decide +kernel
theorem dL_law_17 : decode cL_law 17 = .ok (.istore_n 3, 1) := by decide +kernel
theorem dL_law_18 : decode cL_law 18 = .ok (.iload_n 3, 1) := by decide +kernel
theorem dL_law_19 : decode cL_law 19 = .ok (.aload_n 0, 1) := by decide +kernel
theorem dL_law_20 : decode cL_law 20 = .ok (.arraylength, 1) := by decide +kernel
theorem dL_law_21 : decode cL_law 21 = .ok (.iconst 5, 1) := by decide +kernel
theorem dL_law_22 : decode cL_law 22 = .ok (.isub, 1) := by decide +kernel
theorem dL_law_23 : decode cL_law 23 = .ok (.if_icmp .gt 902, 3) := by decide +kernel
theorem dL_law_26 : decode cL_law 26 = .ok (.aload_n 0, 1) := by decide +kernel
theorem dL_law_27 : decode cL_law 27 = .ok (.iload_n 3, 1) := by decide +kernel
theorem dL_law_28 : decode cL_law 28 = .ok (.iaload, 1) := by decide +kernel
theorem dL_law_29 : decode cL_law 29 = .ok (.bipush 31, 2) := by decide +kernel
theorem dL_law_31 : decode cL_law 31 = .ok (.iand, 1) := by decide +kernel
theorem dL_law_32 : decode cL_law 32 = .ok (.tableswitch 887 0 24 #[116, 179, 192, 205, 218, 251, 284, 337, 390, 403, 416, 439, 482, 551, 564, 597, 630, 643, 676, 709, 742, 795, 838, 851, 864], 116) := by decide +kernel
theorem dL_law_148 : decode cL_law 148 = .ok (.aload_n 1, 1) := by decide +kernel
theorem dL_law_149 : decode cL_law 149 = .ok (.aload_n 0, 1) := by decide +kernel
theorem dL_law_150 : decode cL_law 150 = .ok (.iload_n 3, 1) := by decide +kernel
theorem dL_law_151 : decode cL_law 151 = .ok (.iconst 1, 1) := by decide +kernel
theorem dL_law_152 : decode cL_law 152 = .ok (.iadd, 1) := by decide +kernel
theorem dL_law_153 : decode cL_law 153 = .ok (.iaload, 1) := by decide +kernel
theorem dL_law_154 : decode cL_law 154 = .ok (.aload_n 0, 1) := by decide +kernel
theorem dL_law_155 : decode cL_law 155 = .ok (.iload_n 3, 1) := by decide +kernel
theorem dL_law_156 : decode cL_law 156 = .ok (.iconst 2, 1) := by decide +kernel
theorem dL_law_157 : decode cL_law 157 = .ok (.iadd, 1) := by decide +kernel
theorem dL_law_158 : decode cL_law 158 = .ok (.iaload, 1) := by decide +kernel
theorem dL_law_159 : decode cL_law 159 = .ok (.i2l, 1) := by decide +kernel
theorem dL_law_160 : decode cL_law 160 = .ok (.bipush 32, 2) := by decide +kernel
theorem dL_law_162 : decode cL_law 162 = .ok (.lshl, 1) := by decide +kernel
theorem dL_law_163 : decode cL_law 163 = .ok (.aload_n 0, 1) := by decide +kernel
theorem dL_law_164 : decode cL_law 164 = .ok (.iload_n 3, 1) := by decide +kernel
theorem dL_law_165 : decode cL_law 165 = .ok (.iconst 3, 1) := by decide +kernel
theorem dL_law_166 : decode cL_law 166 = .ok (.iadd, 1) := by decide +kernel
theorem dL_law_167 : decode cL_law 167 = .ok (.iaload, 1) := by decide +kernel
theorem dL_law_168 : decode cL_law 168 = .ok (.i2l, 1) := by decide +kernel
theorem dL_law_169 : decode cL_law 169 = .ok (.ldc2_w 13, 3) := by decide +kernel
theorem dL_law_172 : decode cL_law 172 = .ok (.land, 1) := by decide +kernel
theorem dL_law_173 : decode cL_law 173 = .ok (.lor, 1) := by decide +kernel
theorem dL_law_174 : decode cL_law 174 = .ok (.invokevirtual 15, 3) := by decide +kernel
theorem dL_law_177 : decode cL_law 177 = .ok (.aload_n 2, 1) := by decide +kernel
theorem dL_law_178 : decode cL_law 178 = .ok (.aload_n 0, 1) := by decide +kernel
theorem dL_law_179 : decode cL_law 179 = .ok (.iload_n 3, 1) := by decide +kernel
theorem dL_law_180 : decode cL_law 180 = .ok (.iconst 1, 1) := by decide +kernel
theorem dL_law_181 : decode cL_law 181 = .ok (.iadd, 1) := by decide +kernel
theorem dL_law_182 : decode cL_law 182 = .ok (.iaload, 1) := by decide +kernel
theorem dL_law_183 : decode cL_law 183 = .ok (.aload_n 0, 1) := by decide +kernel
theorem dL_law_184 : decode cL_law 184 = .ok (.iload_n 3, 1) := by decide +kernel
theorem dL_law_185 : decode cL_law 185 = .ok (.iconst 2, 1) := by decide +kernel
theorem dL_law_186 : decode cL_law 186 = .ok (.iadd, 1) := by decide +kernel
theorem dL_law_187 : decode cL_law 187 = .ok (.iaload, 1) := by decide +kernel
theorem dL_law_188 : decode cL_law 188 = .ok (.i2l, 1) := by decide +kernel
theorem dL_law_189 : decode cL_law 189 = .ok (.bipush 32, 2) := by decide +kernel
theorem dL_law_191 : decode cL_law 191 = .ok (.lshl, 1) := by decide +kernel
theorem dL_law_192 : decode cL_law 192 = .ok (.aload_n 0, 1) := by decide +kernel
theorem dL_law_193 : decode cL_law 193 = .ok (.iload_n 3, 1) := by decide +kernel
theorem dL_law_194 : decode cL_law 194 = .ok (.iconst 3, 1) := by decide +kernel
theorem dL_law_195 : decode cL_law 195 = .ok (.iadd, 1) := by decide +kernel
theorem dL_law_196 : decode cL_law 196 = .ok (.iaload, 1) := by decide +kernel
theorem dL_law_197 : decode cL_law 197 = .ok (.i2l, 1) := by decide +kernel
theorem dL_law_198 : decode cL_law 198 = .ok (.ldc2_w 13, 3) := by decide +kernel
theorem dL_law_201 : decode cL_law 201 = .ok (.land, 1) := by decide +kernel
theorem dL_law_202 : decode cL_law 202 = .ok (.lor, 1) := by decide +kernel
theorem dL_law_203 : decode cL_law 203 = .ok (.invokevirtual 19, 3) := by decide +kernel
theorem dL_law_206 : decode cL_law 206 = .ok (.if_icmp .eq 713, 3) := by decide +kernel
theorem dL_law_209 : decode cL_law 209 = .ok (.iconst 0, 1) := by decide +kernel
theorem dL_law_210 : decode cL_law 210 = .ok (.ireturn, 1) := by decide +kernel
theorem dL_law_211 : decode cL_law 211 = .ok (.aload_n 1, 1) := by decide +kernel
theorem dL_law_212 : decode cL_law 212 = .ok (.invokevirtual 20, 3) := by decide +kernel
theorem dL_law_215 : decode cL_law 215 = .ok (.aload_n 2, 1) := by decide +kernel
theorem dL_law_216 : decode cL_law 216 = .ok (.invokevirtual 24, 3) := by decide +kernel
theorem dL_law_219 : decode cL_law 219 = .ok (.if_icmp .eq 700, 3) := by decide +kernel
theorem dL_law_222 : decode cL_law 222 = .ok (.iconst 0, 1) := by decide +kernel
theorem dL_law_223 : decode cL_law 223 = .ok (.ireturn, 1) := by decide +kernel
theorem dL_law_224 : decode cL_law 224 = .ok (.aload_n 1, 1) := by decide +kernel
theorem dL_law_225 : decode cL_law 225 = .ok (.invokevirtual 25, 3) := by decide +kernel
theorem dL_law_228 : decode cL_law 228 = .ok (.aload_n 2, 1) := by decide +kernel
theorem dL_law_229 : decode cL_law 229 = .ok (.invokevirtual 28, 3) := by decide +kernel
theorem dL_law_232 : decode cL_law 232 = .ok (.if_icmp .eq 687, 3) := by decide +kernel
theorem dL_law_235 : decode cL_law 235 = .ok (.iconst 0, 1) := by decide +kernel
theorem dL_law_236 : decode cL_law 236 = .ok (.ireturn, 1) := by decide +kernel
theorem dL_law_237 : decode cL_law 237 = .ok (.aload_n 1, 1) := by decide +kernel
theorem dL_law_238 : decode cL_law 238 = .ok (.invokevirtual 29, 3) := by decide +kernel
theorem dL_law_241 : decode cL_law 241 = .ok (.aload_n 2, 1) := by decide +kernel
theorem dL_law_242 : decode cL_law 242 = .ok (.invokevirtual 32, 3) := by decide +kernel
theorem dL_law_245 : decode cL_law 245 = .ok (.if_icmp .eq 674, 3) := by decide +kernel
theorem dL_law_248 : decode cL_law 248 = .ok (.iconst 0, 1) := by decide +kernel
theorem dL_law_249 : decode cL_law 249 = .ok (.ireturn, 1) := by decide +kernel
theorem dL_law_250 : decode cL_law 250 = .ok (.aload_n 1, 1) := by decide +kernel
theorem dL_law_251 : decode cL_law 251 = .ok (.aload_n 0, 1) := by decide +kernel
theorem dL_law_252 : decode cL_law 252 = .ok (.iload_n 3, 1) := by decide +kernel
theorem dL_law_253 : decode cL_law 253 = .ok (.iconst 1, 1) := by decide +kernel
theorem dL_law_254 : decode cL_law 254 = .ok (.iadd, 1) := by decide +kernel
theorem dL_law_255 : decode cL_law 255 = .ok (.iaload, 1) := by decide +kernel
theorem dL_law_256 : decode cL_law 256 = .ok (.aload_n 0, 1) := by decide +kernel
theorem dL_law_257 : decode cL_law 257 = .ok (.iload_n 3, 1) := by decide +kernel
theorem dL_law_258 : decode cL_law 258 = .ok (.iconst 2, 1) := by decide +kernel
theorem dL_law_259 : decode cL_law 259 = .ok (.iadd, 1) := by decide +kernel
theorem dL_law_260 : decode cL_law 260 = .ok (.iaload, 1) := by decide +kernel
theorem dL_law_261 : decode cL_law 261 = .ok (.invokevirtual 33, 3) := by decide +kernel
theorem dL_law_264 : decode cL_law 264 = .ok (.aload_n 2, 1) := by decide +kernel
theorem dL_law_265 : decode cL_law 265 = .ok (.aload_n 0, 1) := by decide +kernel
theorem dL_law_266 : decode cL_law 266 = .ok (.iload_n 3, 1) := by decide +kernel
theorem dL_law_267 : decode cL_law 267 = .ok (.iconst 1, 1) := by decide +kernel
theorem dL_law_268 : decode cL_law 268 = .ok (.iadd, 1) := by decide +kernel
theorem dL_law_269 : decode cL_law 269 = .ok (.iaload, 1) := by decide +kernel
theorem dL_law_270 : decode cL_law 270 = .ok (.aload_n 0, 1) := by decide +kernel
theorem dL_law_271 : decode cL_law 271 = .ok (.iload_n 3, 1) := by decide +kernel
theorem dL_law_272 : decode cL_law 272 = .ok (.iconst 2, 1) := by decide +kernel
theorem dL_law_273 : decode cL_law 273 = .ok (.iadd, 1) := by decide +kernel
theorem dL_law_274 : decode cL_law 274 = .ok (.iaload, 1) := by decide +kernel
theorem dL_law_275 : decode cL_law 275 = .ok (.invokevirtual 37, 3) := by decide +kernel
theorem dL_law_278 : decode cL_law 278 = .ok (.if_icmp .eq 641, 3) := by decide +kernel
theorem dL_law_281 : decode cL_law 281 = .ok (.iconst 0, 1) := by decide +kernel
theorem dL_law_282 : decode cL_law 282 = .ok (.ireturn, 1) := by decide +kernel
theorem dL_law_283 : decode cL_law 283 = .ok (.aload_n 1, 1) := by decide +kernel
theorem dL_law_284 : decode cL_law 284 = .ok (.aload_n 0, 1) := by decide +kernel
theorem dL_law_285 : decode cL_law 285 = .ok (.iload_n 3, 1) := by decide +kernel
theorem dL_law_286 : decode cL_law 286 = .ok (.iconst 1, 1) := by decide +kernel
theorem dL_law_287 : decode cL_law 287 = .ok (.iadd, 1) := by decide +kernel
theorem dL_law_288 : decode cL_law 288 = .ok (.iaload, 1) := by decide +kernel
theorem dL_law_289 : decode cL_law 289 = .ok (.aload_n 0, 1) := by decide +kernel
theorem dL_law_290 : decode cL_law 290 = .ok (.iload_n 3, 1) := by decide +kernel
theorem dL_law_291 : decode cL_law 291 = .ok (.iconst 2, 1) := by decide +kernel
theorem dL_law_292 : decode cL_law 292 = .ok (.iadd, 1) := by decide +kernel
theorem dL_law_293 : decode cL_law 293 = .ok (.iaload, 1) := by decide +kernel
theorem dL_law_294 : decode cL_law 294 = .ok (.invokevirtual 38, 3) := by decide +kernel
theorem dL_law_297 : decode cL_law 297 = .ok (.aload_n 2, 1) := by decide +kernel
theorem dL_law_298 : decode cL_law 298 = .ok (.aload_n 0, 1) := by decide +kernel
theorem dL_law_299 : decode cL_law 299 = .ok (.iload_n 3, 1) := by decide +kernel
theorem dL_law_300 : decode cL_law 300 = .ok (.iconst 1, 1) := by decide +kernel
theorem dL_law_301 : decode cL_law 301 = .ok (.iadd, 1) := by decide +kernel
theorem dL_law_302 : decode cL_law 302 = .ok (.iaload, 1) := by decide +kernel
theorem dL_law_303 : decode cL_law 303 = .ok (.aload_n 0, 1) := by decide +kernel
theorem dL_law_304 : decode cL_law 304 = .ok (.iload_n 3, 1) := by decide +kernel
theorem dL_law_305 : decode cL_law 305 = .ok (.iconst 2, 1) := by decide +kernel
theorem dL_law_306 : decode cL_law 306 = .ok (.iadd, 1) := by decide +kernel
theorem dL_law_307 : decode cL_law 307 = .ok (.iaload, 1) := by decide +kernel
theorem dL_law_308 : decode cL_law 308 = .ok (.invokevirtual 41, 3) := by decide +kernel
theorem dL_law_311 : decode cL_law 311 = .ok (.if_icmp .eq 608, 3) := by decide +kernel
theorem dL_law_314 : decode cL_law 314 = .ok (.iconst 0, 1) := by decide +kernel
theorem dL_law_315 : decode cL_law 315 = .ok (.ireturn, 1) := by decide +kernel
theorem dL_law_316 : decode cL_law 316 = .ok (.aload_n 1, 1) := by decide +kernel
theorem dL_law_317 : decode cL_law 317 = .ok (.aload_n 0, 1) := by decide +kernel
theorem dL_law_318 : decode cL_law 318 = .ok (.iload_n 3, 1) := by decide +kernel
theorem dL_law_319 : decode cL_law 319 = .ok (.iconst 1, 1) := by decide +kernel
theorem dL_law_320 : decode cL_law 320 = .ok (.iadd, 1) := by decide +kernel
theorem dL_law_321 : decode cL_law 321 = .ok (.iaload, 1) := by decide +kernel
theorem dL_law_322 : decode cL_law 322 = .ok (.aload_n 0, 1) := by decide +kernel
theorem dL_law_323 : decode cL_law 323 = .ok (.iload_n 3, 1) := by decide +kernel
theorem dL_law_324 : decode cL_law 324 = .ok (.iconst 2, 1) := by decide +kernel
theorem dL_law_325 : decode cL_law 325 = .ok (.iadd, 1) := by decide +kernel
theorem dL_law_326 : decode cL_law 326 = .ok (.iaload, 1) := by decide +kernel
theorem dL_law_327 : decode cL_law 327 = .ok (.aload_n 0, 1) := by decide +kernel
theorem dL_law_328 : decode cL_law 328 = .ok (.iload_n 3, 1) := by decide +kernel
theorem dL_law_329 : decode cL_law 329 = .ok (.iconst 3, 1) := by decide +kernel
theorem dL_law_330 : decode cL_law 330 = .ok (.iadd, 1) := by decide +kernel
theorem dL_law_331 : decode cL_law 331 = .ok (.iaload, 1) := by decide +kernel
theorem dL_law_332 : decode cL_law 332 = .ok (.aload_n 0, 1) := by decide +kernel
theorem dL_law_333 : decode cL_law 333 = .ok (.iload_n 3, 1) := by decide +kernel
theorem dL_law_334 : decode cL_law 334 = .ok (.iconst 4, 1) := by decide +kernel
theorem dL_law_335 : decode cL_law 335 = .ok (.iadd, 1) := by decide +kernel
theorem dL_law_336 : decode cL_law 336 = .ok (.iaload, 1) := by decide +kernel
theorem dL_law_337 : decode cL_law 337 = .ok (.invokevirtual 42, 3) := by decide +kernel
theorem dL_law_340 : decode cL_law 340 = .ok (.aload_n 2, 1) := by decide +kernel
theorem dL_law_341 : decode cL_law 341 = .ok (.aload_n 0, 1) := by decide +kernel
theorem dL_law_342 : decode cL_law 342 = .ok (.iload_n 3, 1) := by decide +kernel
theorem dL_law_343 : decode cL_law 343 = .ok (.iconst 1, 1) := by decide +kernel
theorem dL_law_344 : decode cL_law 344 = .ok (.iadd, 1) := by decide +kernel
theorem dL_law_345 : decode cL_law 345 = .ok (.iaload, 1) := by decide +kernel
theorem dL_law_346 : decode cL_law 346 = .ok (.aload_n 0, 1) := by decide +kernel
theorem dL_law_347 : decode cL_law 347 = .ok (.iload_n 3, 1) := by decide +kernel
theorem dL_law_348 : decode cL_law 348 = .ok (.iconst 2, 1) := by decide +kernel
theorem dL_law_349 : decode cL_law 349 = .ok (.iadd, 1) := by decide +kernel
theorem dL_law_350 : decode cL_law 350 = .ok (.iaload, 1) := by decide +kernel
theorem dL_law_351 : decode cL_law 351 = .ok (.aload_n 0, 1) := by decide +kernel
theorem dL_law_352 : decode cL_law 352 = .ok (.iload_n 3, 1) := by decide +kernel
theorem dL_law_353 : decode cL_law 353 = .ok (.iconst 3, 1) := by decide +kernel
theorem dL_law_354 : decode cL_law 354 = .ok (.iadd, 1) := by decide +kernel
theorem dL_law_355 : decode cL_law 355 = .ok (.iaload, 1) := by decide +kernel
theorem dL_law_356 : decode cL_law 356 = .ok (.aload_n 0, 1) := by decide +kernel
theorem dL_law_357 : decode cL_law 357 = .ok (.iload_n 3, 1) := by decide +kernel
theorem dL_law_358 : decode cL_law 358 = .ok (.iconst 4, 1) := by decide +kernel
theorem dL_law_359 : decode cL_law 359 = .ok (.iadd, 1) := by decide +kernel
theorem dL_law_360 : decode cL_law 360 = .ok (.iaload, 1) := by decide +kernel
theorem dL_law_361 : decode cL_law 361 = .ok (.invokevirtual 46, 3) := by decide +kernel
theorem dL_law_364 : decode cL_law 364 = .ok (.if_icmp .eq 555, 3) := by decide +kernel
theorem dL_law_367 : decode cL_law 367 = .ok (.iconst 0, 1) := by decide +kernel
theorem dL_law_368 : decode cL_law 368 = .ok (.ireturn, 1) := by decide +kernel
theorem dL_law_369 : decode cL_law 369 = .ok (.aload_n 1, 1) := by decide +kernel
theorem dL_law_370 : decode cL_law 370 = .ok (.aload_n 0, 1) := by decide +kernel
theorem dL_law_371 : decode cL_law 371 = .ok (.iload_n 3, 1) := by decide +kernel
theorem dL_law_372 : decode cL_law 372 = .ok (.iconst 1, 1) := by decide +kernel
theorem dL_law_373 : decode cL_law 373 = .ok (.iadd, 1) := by decide +kernel
theorem dL_law_374 : decode cL_law 374 = .ok (.iaload, 1) := by decide +kernel
theorem dL_law_375 : decode cL_law 375 = .ok (.aload_n 0, 1) := by decide +kernel
theorem dL_law_376 : decode cL_law 376 = .ok (.iload_n 3, 1) := by decide +kernel
theorem dL_law_377 : decode cL_law 377 = .ok (.iconst 2, 1) := by decide +kernel
theorem dL_law_378 : decode cL_law 378 = .ok (.iadd, 1) := by decide +kernel
theorem dL_law_379 : decode cL_law 379 = .ok (.iaload, 1) := by decide +kernel
theorem dL_law_380 : decode cL_law 380 = .ok (.aload_n 0, 1) := by decide +kernel
theorem dL_law_381 : decode cL_law 381 = .ok (.iload_n 3, 1) := by decide +kernel
theorem dL_law_382 : decode cL_law 382 = .ok (.iconst 3, 1) := by decide +kernel
theorem dL_law_383 : decode cL_law 383 = .ok (.iadd, 1) := by decide +kernel
theorem dL_law_384 : decode cL_law 384 = .ok (.iaload, 1) := by decide +kernel
theorem dL_law_385 : decode cL_law 385 = .ok (.aload_n 0, 1) := by decide +kernel
theorem dL_law_386 : decode cL_law 386 = .ok (.iload_n 3, 1) := by decide +kernel
theorem dL_law_387 : decode cL_law 387 = .ok (.iconst 4, 1) := by decide +kernel
theorem dL_law_388 : decode cL_law 388 = .ok (.iadd, 1) := by decide +kernel
theorem dL_law_389 : decode cL_law 389 = .ok (.iaload, 1) := by decide +kernel
theorem dL_law_390 : decode cL_law 390 = .ok (.invokevirtual 47, 3) := by decide +kernel
theorem dL_law_393 : decode cL_law 393 = .ok (.aload_n 2, 1) := by decide +kernel
theorem dL_law_394 : decode cL_law 394 = .ok (.aload_n 0, 1) := by decide +kernel
theorem dL_law_395 : decode cL_law 395 = .ok (.iload_n 3, 1) := by decide +kernel
theorem dL_law_396 : decode cL_law 396 = .ok (.iconst 1, 1) := by decide +kernel
theorem dL_law_397 : decode cL_law 397 = .ok (.iadd, 1) := by decide +kernel
theorem dL_law_398 : decode cL_law 398 = .ok (.iaload, 1) := by decide +kernel
theorem dL_law_399 : decode cL_law 399 = .ok (.aload_n 0, 1) := by decide +kernel
theorem dL_law_400 : decode cL_law 400 = .ok (.iload_n 3, 1) := by decide +kernel
theorem dL_law_401 : decode cL_law 401 = .ok (.iconst 2, 1) := by decide +kernel
theorem dL_law_402 : decode cL_law 402 = .ok (.iadd, 1) := by decide +kernel
theorem dL_law_403 : decode cL_law 403 = .ok (.iaload, 1) := by decide +kernel
theorem dL_law_404 : decode cL_law 404 = .ok (.aload_n 0, 1) := by decide +kernel
theorem dL_law_405 : decode cL_law 405 = .ok (.iload_n 3, 1) := by decide +kernel
theorem dL_law_406 : decode cL_law 406 = .ok (.iconst 3, 1) := by decide +kernel
theorem dL_law_407 : decode cL_law 407 = .ok (.iadd, 1) := by decide +kernel
theorem dL_law_408 : decode cL_law 408 = .ok (.iaload, 1) := by decide +kernel
theorem dL_law_409 : decode cL_law 409 = .ok (.aload_n 0, 1) := by decide +kernel
theorem dL_law_410 : decode cL_law 410 = .ok (.iload_n 3, 1) := by decide +kernel
theorem dL_law_411 : decode cL_law 411 = .ok (.iconst 4, 1) := by decide +kernel
theorem dL_law_412 : decode cL_law 412 = .ok (.iadd, 1) := by decide +kernel
theorem dL_law_413 : decode cL_law 413 = .ok (.iaload, 1) := by decide +kernel
theorem dL_law_414 : decode cL_law 414 = .ok (.invokevirtual 50, 3) := by decide +kernel
theorem dL_law_417 : decode cL_law 417 = .ok (.if_icmp .eq 502, 3) := by decide +kernel
theorem dL_law_420 : decode cL_law 420 = .ok (.iconst 0, 1) := by decide +kernel
theorem dL_law_421 : decode cL_law 421 = .ok (.ireturn, 1) := by decide +kernel
theorem dL_law_422 : decode cL_law 422 = .ok (.aload_n 1, 1) := by decide +kernel
theorem dL_law_423 : decode cL_law 423 = .ok (.invokevirtual 51, 3) := by decide +kernel
theorem dL_law_426 : decode cL_law 426 = .ok (.aload_n 2, 1) := by decide +kernel
theorem dL_law_427 : decode cL_law 427 = .ok (.invokevirtual 54, 3) := by decide +kernel
theorem dL_law_430 : decode cL_law 430 = .ok (.if_icmp .eq 489, 3) := by decide +kernel
theorem dL_law_433 : decode cL_law 433 = .ok (.iconst 0, 1) := by decide +kernel
theorem dL_law_434 : decode cL_law 434 = .ok (.ireturn, 1) := by decide +kernel
theorem dL_law_435 : decode cL_law 435 = .ok (.aload_n 1, 1) := by decide +kernel
theorem dL_law_436 : decode cL_law 436 = .ok (.invokevirtual 55, 3) := by decide +kernel
theorem dL_law_439 : decode cL_law 439 = .ok (.aload_n 2, 1) := by decide +kernel
theorem dL_law_440 : decode cL_law 440 = .ok (.invokevirtual 58, 3) := by decide +kernel
theorem dL_law_443 : decode cL_law 443 = .ok (.if_icmp .eq 476, 3) := by decide +kernel
theorem dL_law_446 : decode cL_law 446 = .ok (.iconst 0, 1) := by decide +kernel
theorem dL_law_447 : decode cL_law 447 = .ok (.ireturn, 1) := by decide +kernel
theorem dL_law_448 : decode cL_law 448 = .ok (.aload_n 1, 1) := by decide +kernel
theorem dL_law_449 : decode cL_law 449 = .ok (.aload_n 0, 1) := by decide +kernel
theorem dL_law_450 : decode cL_law 450 = .ok (.iload_n 3, 1) := by decide +kernel
theorem dL_law_451 : decode cL_law 451 = .ok (.iconst 1, 1) := by decide +kernel
theorem dL_law_452 : decode cL_law 452 = .ok (.iadd, 1) := by decide +kernel
theorem dL_law_453 : decode cL_law 453 = .ok (.iaload, 1) := by decide +kernel
theorem dL_law_454 : decode cL_law 454 = .ok (.invokevirtual 59, 3) := by decide +kernel
theorem dL_law_457 : decode cL_law 457 = .ok (.aload_n 2, 1) := by decide +kernel
theorem dL_law_458 : decode cL_law 458 = .ok (.aload_n 0, 1) := by decide +kernel
theorem dL_law_459 : decode cL_law 459 = .ok (.iload_n 3, 1) := by decide +kernel
theorem dL_law_460 : decode cL_law 460 = .ok (.iconst 1, 1) := by decide +kernel
theorem dL_law_461 : decode cL_law 461 = .ok (.iadd, 1) := by decide +kernel
theorem dL_law_462 : decode cL_law 462 = .ok (.iaload, 1) := by decide +kernel
theorem dL_law_463 : decode cL_law 463 = .ok (.invokevirtual 63, 3) := by decide +kernel
theorem dL_law_466 : decode cL_law 466 = .ok (.if_icmp .eq 453, 3) := by decide +kernel
theorem dL_law_469 : decode cL_law 469 = .ok (.iconst 0, 1) := by decide +kernel
theorem dL_law_470 : decode cL_law 470 = .ok (.ireturn, 1) := by decide +kernel
theorem dL_law_471 : decode cL_law 471 = .ok (.aload_n 1, 1) := by decide +kernel
theorem dL_law_472 : decode cL_law 472 = .ok (.aload_n 0, 1) := by decide +kernel
theorem dL_law_473 : decode cL_law 473 = .ok (.iload_n 3, 1) := by decide +kernel
theorem dL_law_474 : decode cL_law 474 = .ok (.iconst 1, 1) := by decide +kernel
theorem dL_law_475 : decode cL_law 475 = .ok (.iadd, 1) := by decide +kernel
theorem dL_law_476 : decode cL_law 476 = .ok (.iaload, 1) := by decide +kernel
theorem dL_law_477 : decode cL_law 477 = .ok (.aload_n 0, 1) := by decide +kernel
theorem dL_law_478 : decode cL_law 478 = .ok (.iload_n 3, 1) := by decide +kernel
theorem dL_law_479 : decode cL_law 479 = .ok (.iconst 2, 1) := by decide +kernel
theorem dL_law_480 : decode cL_law 480 = .ok (.iadd, 1) := by decide +kernel
theorem dL_law_481 : decode cL_law 481 = .ok (.iaload, 1) := by decide +kernel
theorem dL_law_482 : decode cL_law 482 = .ok (.aload_n 0, 1) := by decide +kernel
theorem dL_law_483 : decode cL_law 483 = .ok (.iload_n 3, 1) := by decide +kernel
theorem dL_law_484 : decode cL_law 484 = .ok (.iconst 3, 1) := by decide +kernel
theorem dL_law_485 : decode cL_law 485 = .ok (.iadd, 1) := by decide +kernel
theorem dL_law_486 : decode cL_law 486 = .ok (.iaload, 1) := by decide +kernel
theorem dL_law_487 : decode cL_law 487 = .ok (.invokevirtual 64, 3) := by decide +kernel
theorem dL_law_490 : decode cL_law 490 = .ok (.aload_n 2, 1) := by decide +kernel
theorem dL_law_491 : decode cL_law 491 = .ok (.aload_n 0, 1) := by decide +kernel
theorem dL_law_492 : decode cL_law 492 = .ok (.iload_n 3, 1) := by decide +kernel
theorem dL_law_493 : decode cL_law 493 = .ok (.iconst 1, 1) := by decide +kernel
theorem dL_law_494 : decode cL_law 494 = .ok (.iadd, 1) := by decide +kernel
theorem dL_law_495 : decode cL_law 495 = .ok (.iaload, 1) := by decide +kernel
theorem dL_law_496 : decode cL_law 496 = .ok (.aload_n 0, 1) := by decide +kernel
theorem dL_law_497 : decode cL_law 497 = .ok (.iload_n 3, 1) := by decide +kernel
theorem dL_law_498 : decode cL_law 498 = .ok (.iconst 2, 1) := by decide +kernel
theorem dL_law_499 : decode cL_law 499 = .ok (.iadd, 1) := by decide +kernel
theorem dL_law_500 : decode cL_law 500 = .ok (.iaload, 1) := by decide +kernel
theorem dL_law_501 : decode cL_law 501 = .ok (.aload_n 0, 1) := by decide +kernel
theorem dL_law_502 : decode cL_law 502 = .ok (.iload_n 3, 1) := by decide +kernel
theorem dL_law_503 : decode cL_law 503 = .ok (.iconst 3, 1) := by decide +kernel
theorem dL_law_504 : decode cL_law 504 = .ok (.iadd, 1) := by decide +kernel
theorem dL_law_505 : decode cL_law 505 = .ok (.iaload, 1) := by decide +kernel
theorem dL_law_506 : decode cL_law 506 = .ok (.invokevirtual 68, 3) := by decide +kernel
theorem dL_law_509 : decode cL_law 509 = .ok (.if_icmp .eq 410, 3) := by decide +kernel
theorem dL_law_512 : decode cL_law 512 = .ok (.iconst 0, 1) := by decide +kernel
theorem dL_law_513 : decode cL_law 513 = .ok (.ireturn, 1) := by decide +kernel
theorem dL_law_514 : decode cL_law 514 = .ok (.aload_n 1, 1) := by decide +kernel
theorem dL_law_515 : decode cL_law 515 = .ok (.aload_n 0, 1) := by decide +kernel
theorem dL_law_516 : decode cL_law 516 = .ok (.iload_n 3, 1) := by decide +kernel
theorem dL_law_517 : decode cL_law 517 = .ok (.iconst 1, 1) := by decide +kernel
theorem dL_law_518 : decode cL_law 518 = .ok (.iadd, 1) := by decide +kernel
theorem dL_law_519 : decode cL_law 519 = .ok (.iaload, 1) := by decide +kernel
theorem dL_law_520 : decode cL_law 520 = .ok (.aload_n 0, 1) := by decide +kernel
theorem dL_law_521 : decode cL_law 521 = .ok (.iload_n 3, 1) := by decide +kernel
theorem dL_law_522 : decode cL_law 522 = .ok (.iconst 2, 1) := by decide +kernel
theorem dL_law_523 : decode cL_law 523 = .ok (.iadd, 1) := by decide +kernel
theorem dL_law_524 : decode cL_law 524 = .ok (.iaload, 1) := by decide +kernel
theorem dL_law_525 : decode cL_law 525 = .ok (.aload_n 0, 1) := by decide +kernel
theorem dL_law_526 : decode cL_law 526 = .ok (.iload_n 3, 1) := by decide +kernel
theorem dL_law_527 : decode cL_law 527 = .ok (.iconst 3, 1) := by decide +kernel
theorem dL_law_528 : decode cL_law 528 = .ok (.iadd, 1) := by decide +kernel
theorem dL_law_529 : decode cL_law 529 = .ok (.iaload, 1) := by decide +kernel
theorem dL_law_530 : decode cL_law 530 = .ok (.aload_n 0, 1) := by decide +kernel
theorem dL_law_531 : decode cL_law 531 = .ok (.iload_n 3, 1) := by decide +kernel
theorem dL_law_532 : decode cL_law 532 = .ok (.iconst 4, 1) := by decide +kernel
theorem dL_law_533 : decode cL_law 533 = .ok (.iadd, 1) := by decide +kernel
theorem dL_law_534 : decode cL_law 534 = .ok (.iaload, 1) := by decide +kernel
theorem dL_law_535 : decode cL_law 535 = .ok (.ifCond .eq 7, 3) := by decide +kernel
theorem dL_law_538 : decode cL_law 538 = .ok (.iconst 1, 1) := by decide +kernel
theorem dL_law_539 : decode cL_law 539 = .ok (.goto 4, 3) := by decide +kernel
theorem dL_law_542 : decode cL_law 542 = .ok (.iconst 0, 1) := by decide +kernel
theorem dL_law_543 : decode cL_law 543 = .ok (.invokevirtual 69, 3) := by decide +kernel
theorem dL_law_546 : decode cL_law 546 = .ok (.aload_n 2, 1) := by decide +kernel
theorem dL_law_547 : decode cL_law 547 = .ok (.aload_n 0, 1) := by decide +kernel
theorem dL_law_548 : decode cL_law 548 = .ok (.iload_n 3, 1) := by decide +kernel
theorem dL_law_549 : decode cL_law 549 = .ok (.iconst 1, 1) := by decide +kernel
theorem dL_law_550 : decode cL_law 550 = .ok (.iadd, 1) := by decide +kernel
theorem dL_law_551 : decode cL_law 551 = .ok (.iaload, 1) := by decide +kernel
theorem dL_law_552 : decode cL_law 552 = .ok (.aload_n 0, 1) := by decide +kernel
theorem dL_law_553 : decode cL_law 553 = .ok (.iload_n 3, 1) := by decide +kernel
theorem dL_law_554 : decode cL_law 554 = .ok (.iconst 2, 1) := by decide +kernel
theorem dL_law_555 : decode cL_law 555 = .ok (.iadd, 1) := by decide +kernel
theorem dL_law_556 : decode cL_law 556 = .ok (.iaload, 1) := by decide +kernel
theorem dL_law_557 : decode cL_law 557 = .ok (.aload_n 0, 1) := by decide +kernel
theorem dL_law_558 : decode cL_law 558 = .ok (.iload_n 3, 1) := by decide +kernel
theorem dL_law_559 : decode cL_law 559 = .ok (.iconst 3, 1) := by decide +kernel
theorem dL_law_560 : decode cL_law 560 = .ok (.iadd, 1) := by decide +kernel
theorem dL_law_561 : decode cL_law 561 = .ok (.iaload, 1) := by decide +kernel
theorem dL_law_562 : decode cL_law 562 = .ok (.aload_n 0, 1) := by decide +kernel
theorem dL_law_563 : decode cL_law 563 = .ok (.iload_n 3, 1) := by decide +kernel
theorem dL_law_564 : decode cL_law 564 = .ok (.iconst 4, 1) := by decide +kernel
theorem dL_law_565 : decode cL_law 565 = .ok (.iadd, 1) := by decide +kernel
theorem dL_law_566 : decode cL_law 566 = .ok (.iaload, 1) := by decide +kernel
theorem dL_law_567 : decode cL_law 567 = .ok (.ifCond .eq 7, 3) := by decide +kernel
theorem dL_law_570 : decode cL_law 570 = .ok (.iconst 1, 1) := by decide +kernel
theorem dL_law_571 : decode cL_law 571 = .ok (.goto 4, 3) := by decide +kernel
theorem dL_law_574 : decode cL_law 574 = .ok (.iconst 0, 1) := by decide +kernel
theorem dL_law_575 : decode cL_law 575 = .ok (.invokevirtual 73, 3) := by decide +kernel
theorem dL_law_578 : decode cL_law 578 = .ok (.if_icmp .eq 341, 3) := by decide +kernel
theorem dL_law_581 : decode cL_law 581 = .ok (.iconst 0, 1) := by decide +kernel
theorem dL_law_582 : decode cL_law 582 = .ok (.ireturn, 1) := by decide +kernel
theorem dL_law_583 : decode cL_law 583 = .ok (.aload_n 1, 1) := by decide +kernel
theorem dL_law_584 : decode cL_law 584 = .ok (.invokevirtual 74, 3) := by decide +kernel
theorem dL_law_587 : decode cL_law 587 = .ok (.aload_n 2, 1) := by decide +kernel
theorem dL_law_588 : decode cL_law 588 = .ok (.invokevirtual 77, 3) := by decide +kernel
theorem dL_law_591 : decode cL_law 591 = .ok (.if_icmp .eq 328, 3) := by decide +kernel
theorem dL_law_594 : decode cL_law 594 = .ok (.iconst 0, 1) := by decide +kernel
theorem dL_law_595 : decode cL_law 595 = .ok (.ireturn, 1) := by decide +kernel
theorem dL_law_596 : decode cL_law 596 = .ok (.aload_n 1, 1) := by decide +kernel
theorem dL_law_597 : decode cL_law 597 = .ok (.aload_n 0, 1) := by decide +kernel
theorem dL_law_598 : decode cL_law 598 = .ok (.iload_n 3, 1) := by decide +kernel
theorem dL_law_599 : decode cL_law 599 = .ok (.iconst 1, 1) := by decide +kernel
theorem dL_law_600 : decode cL_law 600 = .ok (.iadd, 1) := by decide +kernel
theorem dL_law_601 : decode cL_law 601 = .ok (.iaload, 1) := by decide +kernel
theorem dL_law_602 : decode cL_law 602 = .ok (.aload_n 0, 1) := by decide +kernel
theorem dL_law_603 : decode cL_law 603 = .ok (.iload_n 3, 1) := by decide +kernel
theorem dL_law_604 : decode cL_law 604 = .ok (.iconst 2, 1) := by decide +kernel
theorem dL_law_605 : decode cL_law 605 = .ok (.iadd, 1) := by decide +kernel
theorem dL_law_606 : decode cL_law 606 = .ok (.iaload, 1) := by decide +kernel
theorem dL_law_607 : decode cL_law 607 = .ok (.invokevirtual 78, 3) := by decide +kernel
theorem dL_law_610 : decode cL_law 610 = .ok (.aload_n 2, 1) := by decide +kernel
theorem dL_law_611 : decode cL_law 611 = .ok (.aload_n 0, 1) := by decide +kernel
theorem dL_law_612 : decode cL_law 612 = .ok (.iload_n 3, 1) := by decide +kernel
theorem dL_law_613 : decode cL_law 613 = .ok (.iconst 1, 1) := by decide +kernel
theorem dL_law_614 : decode cL_law 614 = .ok (.iadd, 1) := by decide +kernel
theorem dL_law_615 : decode cL_law 615 = .ok (.iaload, 1) := by decide +kernel
theorem dL_law_616 : decode cL_law 616 = .ok (.aload_n 0, 1) := by decide +kernel
theorem dL_law_617 : decode cL_law 617 = .ok (.iload_n 3, 1) := by decide +kernel
theorem dL_law_618 : decode cL_law 618 = .ok (.iconst 2, 1) := by decide +kernel
theorem dL_law_619 : decode cL_law 619 = .ok (.iadd, 1) := by decide +kernel
theorem dL_law_620 : decode cL_law 620 = .ok (.iaload, 1) := by decide +kernel
theorem dL_law_621 : decode cL_law 621 = .ok (.invokevirtual 81, 3) := by decide +kernel
theorem dL_law_624 : decode cL_law 624 = .ok (.if_icmp .eq 295, 3) := by decide +kernel
theorem dL_law_627 : decode cL_law 627 = .ok (.iconst 0, 1) := by decide +kernel
theorem dL_law_628 : decode cL_law 628 = .ok (.ireturn, 1) := by decide +kernel
theorem dL_law_629 : decode cL_law 629 = .ok (.aload_n 1, 1) := by decide +kernel
theorem dL_law_630 : decode cL_law 630 = .ok (.aload_n 0, 1) := by decide +kernel
theorem dL_law_631 : decode cL_law 631 = .ok (.iload_n 3, 1) := by decide +kernel
theorem dL_law_632 : decode cL_law 632 = .ok (.iconst 1, 1) := by decide +kernel
theorem dL_law_633 : decode cL_law 633 = .ok (.iadd, 1) := by decide +kernel
theorem dL_law_634 : decode cL_law 634 = .ok (.iaload, 1) := by decide +kernel
theorem dL_law_635 : decode cL_law 635 = .ok (.aload_n 0, 1) := by decide +kernel
theorem dL_law_636 : decode cL_law 636 = .ok (.iload_n 3, 1) := by decide +kernel
theorem dL_law_637 : decode cL_law 637 = .ok (.iconst 2, 1) := by decide +kernel
theorem dL_law_638 : decode cL_law 638 = .ok (.iadd, 1) := by decide +kernel
theorem dL_law_639 : decode cL_law 639 = .ok (.iaload, 1) := by decide +kernel
theorem dL_law_640 : decode cL_law 640 = .ok (.invokevirtual 82, 3) := by decide +kernel
theorem dL_law_643 : decode cL_law 643 = .ok (.aload_n 2, 1) := by decide +kernel
theorem dL_law_644 : decode cL_law 644 = .ok (.aload_n 0, 1) := by decide +kernel
theorem dL_law_645 : decode cL_law 645 = .ok (.iload_n 3, 1) := by decide +kernel
theorem dL_law_646 : decode cL_law 646 = .ok (.iconst 1, 1) := by decide +kernel
theorem dL_law_647 : decode cL_law 647 = .ok (.iadd, 1) := by decide +kernel
theorem dL_law_648 : decode cL_law 648 = .ok (.iaload, 1) := by decide +kernel
theorem dL_law_649 : decode cL_law 649 = .ok (.aload_n 0, 1) := by decide +kernel
theorem dL_law_650 : decode cL_law 650 = .ok (.iload_n 3, 1) := by decide +kernel
theorem dL_law_651 : decode cL_law 651 = .ok (.iconst 2, 1) := by decide +kernel
theorem dL_law_652 : decode cL_law 652 = .ok (.iadd, 1) := by decide +kernel
theorem dL_law_653 : decode cL_law 653 = .ok (.iaload, 1) := by decide +kernel
theorem dL_law_654 : decode cL_law 654 = .ok (.invokevirtual 85, 3) := by decide +kernel
theorem dL_law_657 : decode cL_law 657 = .ok (.if_icmp .eq 262, 3) := by decide +kernel
theorem dL_law_660 : decode cL_law 660 = .ok (.iconst 0, 1) := by decide +kernel
theorem dL_law_661 : decode cL_law 661 = .ok (.ireturn, 1) := by decide +kernel
theorem dL_law_662 : decode cL_law 662 = .ok (.aload_n 1, 1) := by decide +kernel
theorem dL_law_663 : decode cL_law 663 = .ok (.invokevirtual 86, 3) := by decide +kernel
theorem dL_law_666 : decode cL_law 666 = .ok (.aload_n 2, 1) := by decide +kernel
theorem dL_law_667 : decode cL_law 667 = .ok (.invokevirtual 89, 3) := by decide +kernel
theorem dL_law_670 : decode cL_law 670 = .ok (.if_icmp .eq 249, 3) := by decide +kernel
theorem dL_law_673 : decode cL_law 673 = .ok (.iconst 0, 1) := by decide +kernel
theorem dL_law_674 : decode cL_law 674 = .ok (.ireturn, 1) := by decide +kernel
theorem dL_law_675 : decode cL_law 675 = .ok (.aload_n 1, 1) := by decide +kernel
theorem dL_law_676 : decode cL_law 676 = .ok (.aload_n 0, 1) := by decide +kernel
theorem dL_law_677 : decode cL_law 677 = .ok (.iload_n 3, 1) := by decide +kernel
theorem dL_law_678 : decode cL_law 678 = .ok (.iconst 1, 1) := by decide +kernel
theorem dL_law_679 : decode cL_law 679 = .ok (.iadd, 1) := by decide +kernel
theorem dL_law_680 : decode cL_law 680 = .ok (.iaload, 1) := by decide +kernel
theorem dL_law_681 : decode cL_law 681 = .ok (.aload_n 0, 1) := by decide +kernel
theorem dL_law_682 : decode cL_law 682 = .ok (.iload_n 3, 1) := by decide +kernel
theorem dL_law_683 : decode cL_law 683 = .ok (.iconst 2, 1) := by decide +kernel
theorem dL_law_684 : decode cL_law 684 = .ok (.iadd, 1) := by decide +kernel
theorem dL_law_685 : decode cL_law 685 = .ok (.iaload, 1) := by decide +kernel
theorem dL_law_686 : decode cL_law 686 = .ok (.invokevirtual 90, 3) := by decide +kernel
theorem dL_law_689 : decode cL_law 689 = .ok (.aload_n 2, 1) := by decide +kernel
theorem dL_law_690 : decode cL_law 690 = .ok (.aload_n 0, 1) := by decide +kernel
theorem dL_law_691 : decode cL_law 691 = .ok (.iload_n 3, 1) := by decide +kernel
theorem dL_law_692 : decode cL_law 692 = .ok (.iconst 1, 1) := by decide +kernel
theorem dL_law_693 : decode cL_law 693 = .ok (.iadd, 1) := by decide +kernel
theorem dL_law_694 : decode cL_law 694 = .ok (.iaload, 1) := by decide +kernel
theorem dL_law_695 : decode cL_law 695 = .ok (.aload_n 0, 1) := by decide +kernel
theorem dL_law_696 : decode cL_law 696 = .ok (.iload_n 3, 1) := by decide +kernel
theorem dL_law_697 : decode cL_law 697 = .ok (.iconst 2, 1) := by decide +kernel
theorem dL_law_698 : decode cL_law 698 = .ok (.iadd, 1) := by decide +kernel
theorem dL_law_699 : decode cL_law 699 = .ok (.iaload, 1) := by decide +kernel
theorem dL_law_700 : decode cL_law 700 = .ok (.invokevirtual 93, 3) := by decide +kernel
theorem dL_law_703 : decode cL_law 703 = .ok (.if_icmp .eq 216, 3) := by decide +kernel
theorem dL_law_706 : decode cL_law 706 = .ok (.iconst 0, 1) := by decide +kernel
theorem dL_law_707 : decode cL_law 707 = .ok (.ireturn, 1) := by decide +kernel
theorem dL_law_708 : decode cL_law 708 = .ok (.aload_n 1, 1) := by decide +kernel
theorem dL_law_709 : decode cL_law 709 = .ok (.aload_n 0, 1) := by decide +kernel
theorem dL_law_710 : decode cL_law 710 = .ok (.iload_n 3, 1) := by decide +kernel
theorem dL_law_711 : decode cL_law 711 = .ok (.iconst 1, 1) := by decide +kernel
theorem dL_law_712 : decode cL_law 712 = .ok (.iadd, 1) := by decide +kernel
theorem dL_law_713 : decode cL_law 713 = .ok (.iaload, 1) := by decide +kernel
theorem dL_law_714 : decode cL_law 714 = .ok (.aload_n 0, 1) := by decide +kernel
theorem dL_law_715 : decode cL_law 715 = .ok (.iload_n 3, 1) := by decide +kernel
theorem dL_law_716 : decode cL_law 716 = .ok (.iconst 2, 1) := by decide +kernel
theorem dL_law_717 : decode cL_law 717 = .ok (.iadd, 1) := by decide +kernel
theorem dL_law_718 : decode cL_law 718 = .ok (.iaload, 1) := by decide +kernel
theorem dL_law_719 : decode cL_law 719 = .ok (.invokevirtual 94, 3) := by decide +kernel
theorem dL_law_722 : decode cL_law 722 = .ok (.aload_n 2, 1) := by decide +kernel
theorem dL_law_723 : decode cL_law 723 = .ok (.aload_n 0, 1) := by decide +kernel
theorem dL_law_724 : decode cL_law 724 = .ok (.iload_n 3, 1) := by decide +kernel
theorem dL_law_725 : decode cL_law 725 = .ok (.iconst 1, 1) := by decide +kernel
theorem dL_law_726 : decode cL_law 726 = .ok (.iadd, 1) := by decide +kernel
theorem dL_law_727 : decode cL_law 727 = .ok (.iaload, 1) := by decide +kernel
theorem dL_law_728 : decode cL_law 728 = .ok (.aload_n 0, 1) := by decide +kernel
theorem dL_law_729 : decode cL_law 729 = .ok (.iload_n 3, 1) := by decide +kernel
theorem dL_law_730 : decode cL_law 730 = .ok (.iconst 2, 1) := by decide +kernel
theorem dL_law_731 : decode cL_law 731 = .ok (.iadd, 1) := by decide +kernel
theorem dL_law_732 : decode cL_law 732 = .ok (.iaload, 1) := by decide +kernel
theorem dL_law_733 : decode cL_law 733 = .ok (.invokevirtual 97, 3) := by decide +kernel
theorem dL_law_736 : decode cL_law 736 = .ok (.if_icmp .eq 183, 3) := by decide +kernel
theorem dL_law_739 : decode cL_law 739 = .ok (.iconst 0, 1) := by decide +kernel
theorem dL_law_740 : decode cL_law 740 = .ok (.ireturn, 1) := by decide +kernel
theorem dL_law_741 : decode cL_law 741 = .ok (.aload_n 1, 1) := by decide +kernel
theorem dL_law_742 : decode cL_law 742 = .ok (.aload_n 0, 1) := by decide +kernel
theorem dL_law_743 : decode cL_law 743 = .ok (.iload_n 3, 1) := by decide +kernel
theorem dL_law_744 : decode cL_law 744 = .ok (.iconst 1, 1) := by decide +kernel
theorem dL_law_745 : decode cL_law 745 = .ok (.iadd, 1) := by decide +kernel
theorem dL_law_746 : decode cL_law 746 = .ok (.iaload, 1) := by decide +kernel
theorem dL_law_747 : decode cL_law 747 = .ok (.aload_n 0, 1) := by decide +kernel
theorem dL_law_748 : decode cL_law 748 = .ok (.iload_n 3, 1) := by decide +kernel
theorem dL_law_749 : decode cL_law 749 = .ok (.iconst 2, 1) := by decide +kernel
theorem dL_law_750 : decode cL_law 750 = .ok (.iadd, 1) := by decide +kernel
theorem dL_law_751 : decode cL_law 751 = .ok (.iaload, 1) := by decide +kernel
theorem dL_law_752 : decode cL_law 752 = .ok (.invokevirtual 98, 3) := by decide +kernel
theorem dL_law_755 : decode cL_law 755 = .ok (.aload_n 2, 1) := by decide +kernel
theorem dL_law_756 : decode cL_law 756 = .ok (.aload_n 0, 1) := by decide +kernel
theorem dL_law_757 : decode cL_law 757 = .ok (.iload_n 3, 1) := by decide +kernel
theorem dL_law_758 : decode cL_law 758 = .ok (.iconst 1, 1) := by decide +kernel
theorem dL_law_759 : decode cL_law 759 = .ok (.iadd, 1) := by decide +kernel
theorem dL_law_760 : decode cL_law 760 = .ok (.iaload, 1) := by decide +kernel
theorem dL_law_761 : decode cL_law 761 = .ok (.aload_n 0, 1) := by decide +kernel
theorem dL_law_762 : decode cL_law 762 = .ok (.iload_n 3, 1) := by decide +kernel
theorem dL_law_763 : decode cL_law 763 = .ok (.iconst 2, 1) := by decide +kernel
theorem dL_law_764 : decode cL_law 764 = .ok (.iadd, 1) := by decide +kernel
theorem dL_law_765 : decode cL_law 765 = .ok (.iaload, 1) := by decide +kernel
theorem dL_law_766 : decode cL_law 766 = .ok (.invokevirtual 101, 3) := by decide +kernel
theorem dL_law_769 : decode cL_law 769 = .ok (.if_icmp .eq 150, 3) := by decide +kernel
theorem dL_law_772 : decode cL_law 772 = .ok (.iconst 0, 1) := by decide +kernel
theorem dL_law_773 : decode cL_law 773 = .ok (.ireturn, 1) := by decide +kernel
theorem dL_law_774 : decode cL_law 774 = .ok (.aload_n 1, 1) := by decide +kernel
theorem dL_law_775 : decode cL_law 775 = .ok (.aload_n 0, 1) := by decide +kernel
theorem dL_law_776 : decode cL_law 776 = .ok (.iload_n 3, 1) := by decide +kernel
theorem dL_law_777 : decode cL_law 777 = .ok (.iconst 1, 1) := by decide +kernel
theorem dL_law_778 : decode cL_law 778 = .ok (.iadd, 1) := by decide +kernel
theorem dL_law_779 : decode cL_law 779 = .ok (.iaload, 1) := by decide +kernel
theorem dL_law_780 : decode cL_law 780 = .ok (.aload_n 0, 1) := by decide +kernel
theorem dL_law_781 : decode cL_law 781 = .ok (.iload_n 3, 1) := by decide +kernel
theorem dL_law_782 : decode cL_law 782 = .ok (.iconst 2, 1) := by decide +kernel
theorem dL_law_783 : decode cL_law 783 = .ok (.iadd, 1) := by decide +kernel
theorem dL_law_784 : decode cL_law 784 = .ok (.iaload, 1) := by decide +kernel
theorem dL_law_785 : decode cL_law 785 = .ok (.aload_n 0, 1) := by decide +kernel
theorem dL_law_786 : decode cL_law 786 = .ok (.iload_n 3, 1) := by decide +kernel
theorem dL_law_787 : decode cL_law 787 = .ok (.iconst 3, 1) := by decide +kernel
theorem dL_law_788 : decode cL_law 788 = .ok (.iadd, 1) := by decide +kernel
theorem dL_law_789 : decode cL_law 789 = .ok (.iaload, 1) := by decide +kernel
theorem dL_law_790 : decode cL_law 790 = .ok (.aload_n 0, 1) := by decide +kernel
theorem dL_law_791 : decode cL_law 791 = .ok (.iload_n 3, 1) := by decide +kernel
theorem dL_law_792 : decode cL_law 792 = .ok (.iconst 4, 1) := by decide +kernel
theorem dL_law_793 : decode cL_law 793 = .ok (.iadd, 1) := by decide +kernel
theorem dL_law_794 : decode cL_law 794 = .ok (.iaload, 1) := by decide +kernel
theorem dL_law_795 : decode cL_law 795 = .ok (.invokevirtual 102, 3) := by decide +kernel
theorem dL_law_798 : decode cL_law 798 = .ok (.aload_n 2, 1) := by decide +kernel
theorem dL_law_799 : decode cL_law 799 = .ok (.aload_n 0, 1) := by decide +kernel
theorem dL_law_800 : decode cL_law 800 = .ok (.iload_n 3, 1) := by decide +kernel
theorem dL_law_801 : decode cL_law 801 = .ok (.iconst 1, 1) := by decide +kernel
theorem dL_law_802 : decode cL_law 802 = .ok (.iadd, 1) := by decide +kernel
theorem dL_law_803 : decode cL_law 803 = .ok (.iaload, 1) := by decide +kernel
theorem dL_law_804 : decode cL_law 804 = .ok (.aload_n 0, 1) := by decide +kernel
theorem dL_law_805 : decode cL_law 805 = .ok (.iload_n 3, 1) := by decide +kernel
theorem dL_law_806 : decode cL_law 806 = .ok (.iconst 2, 1) := by decide +kernel
theorem dL_law_807 : decode cL_law 807 = .ok (.iadd, 1) := by decide +kernel
theorem dL_law_808 : decode cL_law 808 = .ok (.iaload, 1) := by decide +kernel
theorem dL_law_809 : decode cL_law 809 = .ok (.aload_n 0, 1) := by decide +kernel
theorem dL_law_810 : decode cL_law 810 = .ok (.iload_n 3, 1) := by decide +kernel
theorem dL_law_811 : decode cL_law 811 = .ok (.iconst 3, 1) := by decide +kernel
theorem dL_law_812 : decode cL_law 812 = .ok (.iadd, 1) := by decide +kernel
theorem dL_law_813 : decode cL_law 813 = .ok (.iaload, 1) := by decide +kernel
theorem dL_law_814 : decode cL_law 814 = .ok (.aload_n 0, 1) := by decide +kernel
theorem dL_law_815 : decode cL_law 815 = .ok (.iload_n 3, 1) := by decide +kernel
theorem dL_law_816 : decode cL_law 816 = .ok (.iconst 4, 1) := by decide +kernel
theorem dL_law_817 : decode cL_law 817 = .ok (.iadd, 1) := by decide +kernel
theorem dL_law_818 : decode cL_law 818 = .ok (.iaload, 1) := by decide +kernel
theorem dL_law_819 : decode cL_law 819 = .ok (.invokevirtual 105, 3) := by decide +kernel
theorem dL_law_822 : decode cL_law 822 = .ok (.if_icmp .eq 97, 3) := by decide +kernel
theorem dL_law_825 : decode cL_law 825 = .ok (.iconst 0, 1) := by decide +kernel
theorem dL_law_826 : decode cL_law 826 = .ok (.ireturn, 1) := by decide +kernel
theorem dL_law_827 : decode cL_law 827 = .ok (.aload_n 1, 1) := by decide +kernel
theorem dL_law_828 : decode cL_law 828 = .ok (.aload_n 0, 1) := by decide +kernel
theorem dL_law_829 : decode cL_law 829 = .ok (.iload_n 3, 1) := by decide +kernel
theorem dL_law_830 : decode cL_law 830 = .ok (.iconst 1, 1) := by decide +kernel
theorem dL_law_831 : decode cL_law 831 = .ok (.iadd, 1) := by decide +kernel
theorem dL_law_832 : decode cL_law 832 = .ok (.iaload, 1) := by decide +kernel
theorem dL_law_833 : decode cL_law 833 = .ok (.aload_n 0, 1) := by decide +kernel
theorem dL_law_834 : decode cL_law 834 = .ok (.iload_n 3, 1) := by decide +kernel
theorem dL_law_835 : decode cL_law 835 = .ok (.iconst 2, 1) := by decide +kernel
theorem dL_law_836 : decode cL_law 836 = .ok (.iadd, 1) := by decide +kernel
theorem dL_law_837 : decode cL_law 837 = .ok (.iaload, 1) := by decide +kernel
theorem dL_law_838 : decode cL_law 838 = .ok (.aload_n 0, 1) := by decide +kernel
theorem dL_law_839 : decode cL_law 839 = .ok (.iload_n 3, 1) := by decide +kernel
theorem dL_law_840 : decode cL_law 840 = .ok (.iconst 3, 1) := by decide +kernel
theorem dL_law_841 : decode cL_law 841 = .ok (.iadd, 1) := by decide +kernel
theorem dL_law_842 : decode cL_law 842 = .ok (.iaload, 1) := by decide +kernel
theorem dL_law_843 : decode cL_law 843 = .ok (.invokevirtual 106, 3) := by decide +kernel
theorem dL_law_846 : decode cL_law 846 = .ok (.aload_n 2, 1) := by decide +kernel
theorem dL_law_847 : decode cL_law 847 = .ok (.aload_n 0, 1) := by decide +kernel
theorem dL_law_848 : decode cL_law 848 = .ok (.iload_n 3, 1) := by decide +kernel
theorem dL_law_849 : decode cL_law 849 = .ok (.iconst 1, 1) := by decide +kernel
theorem dL_law_850 : decode cL_law 850 = .ok (.iadd, 1) := by decide +kernel
theorem dL_law_851 : decode cL_law 851 = .ok (.iaload, 1) := by decide +kernel
theorem dL_law_852 : decode cL_law 852 = .ok (.aload_n 0, 1) := by decide +kernel
theorem dL_law_853 : decode cL_law 853 = .ok (.iload_n 3, 1) := by decide +kernel
theorem dL_law_854 : decode cL_law 854 = .ok (.iconst 2, 1) := by decide +kernel
theorem dL_law_855 : decode cL_law 855 = .ok (.iadd, 1) := by decide +kernel
theorem dL_law_856 : decode cL_law 856 = .ok (.iaload, 1) := by decide +kernel
theorem dL_law_857 : decode cL_law 857 = .ok (.aload_n 0, 1) := by decide +kernel
theorem dL_law_858 : decode cL_law 858 = .ok (.iload_n 3, 1) := by decide +kernel
theorem dL_law_859 : decode cL_law 859 = .ok (.iconst 3, 1) := by decide +kernel
theorem dL_law_860 : decode cL_law 860 = .ok (.iadd, 1) := by decide +kernel
theorem dL_law_861 : decode cL_law 861 = .ok (.iaload, 1) := by decide +kernel
theorem dL_law_862 : decode cL_law 862 = .ok (.invokevirtual 109, 3) := by decide +kernel
theorem dL_law_865 : decode cL_law 865 = .ok (.if_icmp .eq 54, 3) := by decide +kernel
theorem dL_law_868 : decode cL_law 868 = .ok (.iconst 0, 1) := by decide +kernel
theorem dL_law_869 : decode cL_law 869 = .ok (.ireturn, 1) := by decide +kernel
theorem dL_law_870 : decode cL_law 870 = .ok (.aload_n 1, 1) := by decide +kernel
theorem dL_law_871 : decode cL_law 871 = .ok (.invokevirtual 110, 3) := by decide +kernel
theorem dL_law_874 : decode cL_law 874 = .ok (.aload_n 2, 1) := by decide +kernel
theorem dL_law_875 : decode cL_law 875 = .ok (.invokevirtual 113, 3) := by decide +kernel
theorem dL_law_878 : decode cL_law 878 = .ok (.if_icmp .eq 41, 3) := by decide +kernel
theorem dL_law_881 : decode cL_law 881 = .ok (.iconst 0, 1) := by decide +kernel
theorem dL_law_882 : decode cL_law 882 = .ok (.ireturn, 1) := by decide +kernel
theorem dL_law_883 : decode cL_law 883 = .ok (.aload_n 1, 1) := by decide +kernel
theorem dL_law_884 : decode cL_law 884 = .ok (.invokevirtual 114, 3) := by decide +kernel
theorem dL_law_887 : decode cL_law 887 = .ok (.aload_n 2, 1) := by decide +kernel
theorem dL_law_888 : decode cL_law 888 = .ok (.invokevirtual 117, 3) := by decide +kernel
theorem dL_law_891 : decode cL_law 891 = .ok (.if_icmp .eq 28, 3) := by decide +kernel
theorem dL_law_894 : decode cL_law 894 = .ok (.iconst 0, 1) := by decide +kernel
theorem dL_law_895 : decode cL_law 895 = .ok (.ireturn, 1) := by decide +kernel
theorem dL_law_896 : decode cL_law 896 = .ok (.aload_n 1, 1) := by decide +kernel
theorem dL_law_897 : decode cL_law 897 = .ok (.aload_n 0, 1) := by decide +kernel
theorem dL_law_898 : decode cL_law 898 = .ok (.iload_n 3, 1) := by decide +kernel
theorem dL_law_899 : decode cL_law 899 = .ok (.iconst 1, 1) := by decide +kernel
theorem dL_law_900 : decode cL_law 900 = .ok (.iadd, 1) := by decide +kernel
theorem dL_law_901 : decode cL_law 901 = .ok (.iaload, 1) := by decide +kernel
theorem dL_law_902 : decode cL_law 902 = .ok (.invokevirtual 118, 3) := by decide +kernel
theorem dL_law_905 : decode cL_law 905 = .ok (.aload_n 2, 1) := by decide +kernel
theorem dL_law_906 : decode cL_law 906 = .ok (.aload_n 0, 1) := by decide +kernel
theorem dL_law_907 : decode cL_law 907 = .ok (.iload_n 3, 1) := by decide +kernel
theorem dL_law_908 : decode cL_law 908 = .ok (.iconst 1, 1) := by decide +kernel
theorem dL_law_909 : decode cL_law 909 = .ok (.iadd, 1) := by decide +kernel
theorem dL_law_910 : decode cL_law 910 = .ok (.iaload, 1) := by decide +kernel
theorem dL_law_911 : decode cL_law 911 = .ok (.invokevirtual 121, 3) := by decide +kernel
theorem dL_law_914 : decode cL_law 914 = .ok (.if_icmp .eq 5, 3) := by decide +kernel
theorem dL_law_917 : decode cL_law 917 = .ok (.iconst 0, 1) := by decide +kernel
theorem dL_law_918 : decode cL_law 918 = .ok (.ireturn, 1) := by decide +kernel
theorem dL_law_919 : decode cL_law 919 = .ok (.iinc 3 5, 3) := by decide +kernel
theorem dL_law_922 : decode cL_law 922 = .ok (.goto (-904), 3) := by decide +kernel
theorem dL_law_925 : decode cL_law 925 = .ok (.iconst 1, 1) := by decide +kernel
theorem dL_law_926 : decode cL_law 926 = .ok (.ireturn, 1) := by decide +kernel
