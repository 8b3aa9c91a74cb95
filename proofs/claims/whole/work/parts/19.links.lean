theorem fd_2_11 : zfd 2 11 = some (2, 0) := rfl
theorem fd_2_16 : zfd 2 16 = some (2, 1) := rfl
theorem fd_2_20 : zfd 2 20 = some (0, 0) := rfl
theorem fd_2_26 : zfd 2 26 = some (4, 1) := rfl
theorem fd_2_32 : zfd 2 32 = some (2, 2) := rfl
theorem fd_2_33 : zfd 2 33 = some (0, 9) := rfl
theorem fd_2_36 : zfd 2 36 = some (0, 4) := rfl
theorem fd_2_39 : zfd 2 39 = some (0, 3) := rfl
theorem fd_2_42 : zfd 2 42 = some (0, 5) := rfl
theorem fd_9_7 : zfd 9 7 = some (9, 1) := rfl
theorem fd_9_13 : zfd 9 13 = some (9, 3) := rfl
theorem fd_9_16 : zfd 9 16 = some (9, 5) := rfl
theorem fd_9_19 : zfd 9 19 = some (9, 9) := rfl
theorem fd_9_22 : zfd 9 22 = some (9, 10) := rfl
theorem fd_9_25 : zfd 9 25 = some (9, 11) := rfl
theorem fd_9_28 : zfd 9 28 = some (9, 13) := rfl
theorem fd_9_31 : zfd 9 31 = some (9, 15) := rfl
theorem fd_9_34 : zfd 9 34 = some (9, 17) := rfl
theorem fd_9_37 : zfd 9 37 = some (9, 18) := rfl
theorem fd_9_40 : zfd 9 40 = some (9, 19) := rfl
theorem fd_9_43 : zfd 9 43 = some (9, 20) := rfl
theorem fd_9_46 : zfd 9 46 = some (9, 21) := rfl
theorem fd_9_49 : zfd 9 49 = some (9, 22) := rfl
theorem fd_9_52 : zfd 9 52 = some (9, 23) := rfl
theorem fd_9_55 : zfd 9 55 = some (9, 26) := rfl
theorem fd_9_58 : zfd 9 58 = some (9, 4) := rfl
theorem fd_9_62 : zfd 9 62 = some (9, 6) := rfl
theorem fd_9_68 : zfd 9 68 = some (9, 0) := rfl
theorem fd_9_75 : zfd 9 75 = some (9, 2) := rfl
theorem fd_9_92 : zfd 9 92 = some (9, 12) := rfl
theorem fd_9_95 : zfd 9 95 = some (9, 14) := rfl
theorem fd_9_98 : zfd 9 98 = some (9, 16) := rfl
theorem fd_9_101 : zfd 9 101 = some (9, 7) := rfl
theorem fd_9_104 : zfd 9 104 = some (9, 8) := rfl
theorem fd_9_163 : zfd 9 163 = some (9, 24) := rfl
theorem fd_9_166 : zfd 9 166 = some (9, 25) := rfl
theorem fd_8_10 : zfd 8 10 = some (8, 0) := rfl
theorem fd_8_19 : zfd 8 19 = some (8, 1) := rfl
theorem fd_8_23 : zfd 8 23 = some (8, 2) := rfl
theorem fd_8_31 : zfd 8 31 = some (8, 3) := rfl
theorem fd_8_38 : zfd 8 38 = some (8, 4) := rfl
theorem fd_8_42 : zfd 8 42 = some (8, 5) := rfl
theorem fd_8_50 : zfd 8 50 = some (8, 6) := rfl
theorem fd_8_54 : zfd 8 54 = some (8, 7) := rfl
theorem fd_8_60 : zfd 8 60 = some (8, 8) := rfl
theorem fd_8_67 : zfd 8 67 = some (8, 9) := rfl
theorem fd_8_74 : zfd 8 74 = some (8, 10) := rfl
theorem fd_8_92 : zfd 8 92 = some (5, 1) := rfl
theorem fd_8_104 : zfd 8 104 = some (4, 1) := rfl
theorem fd_8_110 : zfd 8 110 = some (6, 3) := rfl
theorem fd_8_113 : zfd 8 113 = some (3, 1) := rfl
theorem fd_8_117 : zfd 8 117 = some (0, 1) := rfl
theorem fd_8_121 : zfd 8 121 = some (0, 2) := rfl
theorem fd_8_128 : zfd 8 128 = some (0, 9) := rfl
theorem fd_8_131 : zfd 8 131 = some (0, 3) := rfl
theorem fd_8_134 : zfd 8 134 = some (0, 4) := rfl
theorem fd_8_137 : zfd 8 137 = some (0, 5) := rfl
theorem fd_8_140 : zfd 8 140 = some (0, 6) := rfl
theorem fd_8_180 : zfd 8 180 = some (7, 1) := rfl
theorem fd_8_184 : zfd 8 184 = some (7, 0) := rfl
theorem fd_8_215 : zfd 8 215 = some (2, 0) := rfl
theorem fd_8_230 : zfd 8 230 = some (1, 0) := rfl
theorem fd_8_257 : zfd 8 257 = some (0, 10) := rfl
theorem fd_0_9 : zfd 0 9 = some (0, 1) := rfl
theorem fd_0_15 : zfd 0 15 = some (0, 2) := rfl
theorem fd_0_18 : zfd 0 18 = some (0, 3) := rfl
theorem fd_0_21 : zfd 0 21 = some (0, 4) := rfl
theorem fd_0_24 : zfd 0 24 = some (0, 5) := rfl
theorem fd_0_27 : zfd 0 27 = some (0, 6) := rfl
theorem fd_0_30 : zfd 0 30 = some (0, 7) := rfl
theorem fd_0_33 : zfd 0 33 = some (0, 8) := rfl
theorem fd_0_36 : zfd 0 36 = some (0, 0) := rfl
theorem fd_0_40 : zfd 0 40 = some (4, 1) := rfl
theorem fd_0_46 : zfd 0 46 = some (4, 0) := rfl
theorem fd_0_49 : zfd 0 49 = some (0, 9) := rfl
theorem fd_0_52 : zfd 0 52 = some (0, 10) := rfl
theorem fd_0_73 : zfd 0 73 = some (4, 4) := rfl
theorem fd_0_108 : zfd 0 108 = some (4, 3) := rfl
theorem fd_6_9 : zfd 6 9 = some (6, 0) := rfl
theorem fd_6_15 : zfd 6 15 = some (6, 1) := rfl
theorem fd_6_18 : zfd 6 18 = some (6, 2) := rfl
theorem fd_6_22 : zfd 6 22 = some (6, 3) := rfl
theorem fd_6_43 : zfd 6 43 = some (4, 0) := rfl
theorem fd_4_9 : zfd 4 9 = some (4, 0) := rfl
theorem fd_4_15 : zfd 4 15 = some (4, 1) := rfl
theorem fd_4_19 : zfd 4 19 = some (4, 2) := rfl
theorem fd_4_22 : zfd 4 22 = some (4, 3) := rfl
theorem fd_4_25 : zfd 4 25 = some (4, 4) := rfl
theorem fd_4_37 : zfd 4 37 = some (5, 1) := rfl
theorem fd_4_46 : zfd 4 46 = some (5, 2) := rfl
theorem fd_4_49 : zfd 4 49 = some (5, 3) := rfl
theorem fd_4_56 : zfd 4 56 = some (5, 4) := rfl
theorem fd_7_9 : zfd 7 9 = some (7, 1) := rfl
theorem fd_7_20 : zfd 7 20 = some (7, 0) := rfl
theorem fd_7_31 : zfd 7 31 = some (7, 2) := rfl
theorem fd_7_43 : zfd 7 43 = some (0, 1) := rfl
theorem fd_7_63 : zfd 7 63 = some (0, 8) := rfl
theorem fd_1_9 : zfd 1 9 = some (1, 0) := rfl
theorem fd_1_15 : zfd 1 15 = some (1, 1) := rfl
theorem fd_1_24 : zfd 1 24 = some (0, 1) := rfl
theorem fd_5_9 : zfd 5 9 = some (5, 0) := rfl
theorem fd_5_15 : zfd 5 15 = some (5, 1) := rfl
theorem fd_5_23 : zfd 5 23 = some (5, 2) := rfl
theorem fd_5_26 : zfd 5 26 = some (5, 3) := rfl
theorem fd_5_29 : zfd 5 29 = some (5, 4) := rfl
theorem fd_3_17 : zfd 3 17 = some (3, 0) := rfl
theorem fd_3_26 : zfd 3 26 = some (3, 1) := rfl
theorem bt_0_3 : zbt 0 3 = some 3 := rfl
theorem bt_0_55 : zbt 0 55 = some 2 := rfl
theorem bt_0_94 : zbt 0 94 = some 1 := rfl
theorem bt_0_99 : zbt 0 99 = some 0 := rfl
theorem bt_2_3 : zbt 2 3 = some 3 := rfl
theorem bt_2_65 : zbt 2 65 = some 1 := rfl
theorem bt_3_3 : zbt 3 3 = some 3 := rfl
theorem bt_3_9 : zbt 3 9 = some 0 := rfl
theorem bt_4_3 : zbt 4 3 = some 3 := rfl
theorem bt_4_28 : zbt 4 28 = some 2 := rfl
theorem bt_4_59 : zbt 4 59 = some 0 := rfl
theorem bt_7_3 : zbt 7 3 = some 3 := rfl
theorem bt_7_50 : zbt 7 50 = some 0 := rfl
theorem bt_6_3 : zbt 6 3 = some 3 := rfl
theorem bt_6_26 : zbt 6 26 = some 0 := rfl
theorem bt_6_32 : zbt 6 32 = some 1 := rfl
theorem bt_9_1 : zbt 9 1 = some 3 := rfl
theorem bt_1_3 : zbt 1 3 = some 3 := rfl
theorem bt_5_3 : zbt 5 3 = some 3 := rfl
theorem bt_8_1 : zbt 8 1 = some 3 := rfl
theorem bn_8_9 : zbt 8 9 = none := rfl
theorem mt_8_9 : zmt 8 9 = some (4, qX5_init, 1) := rfl
theorem bn_8_18 : zbt 8 18 = none := rfl
theorem mt_8_18 : zmt 8 18 = some (4, qX4_init, 1) := rfl
theorem bn_8_28 : zbt 8 28 = none := rfl
theorem mt_8_28 : zmt 8 28 = some (3, qX0_init, 2) := rfl
theorem bn_8_37 : zbt 8 37 = none := rfl
theorem mt_8_37 : zmt 8 37 = some (3, qX7_init, 2) := rfl
theorem bn_8_47 : zbt 8 47 = none := rfl
theorem mt_8_47 : zmt 8 47 = some (3, qX3_init, 3) := rfl
theorem bn_8_59 : zbt 8 59 = none := rfl
theorem mt_8_59 : zmt 8 59 = some (4, qX6_init, 1) := rfl
theorem bn_8_66 : zbt 8 66 = none := rfl
theorem mt_8_66 : zmt 8 66 = some (4, qX2_init, 1) := rfl
theorem bn_8_73 : zbt 8 73 = none := rfl
theorem mt_8_73 : zmt 8 73 = some (4, qX1_init, 1) := rfl
theorem bn_8_78 : zbt 8 78 = none := rfl
theorem mt_8_78 : zmt 8 78 = some (0, qX4_clear, 1) := rfl
theorem bn_8_81 : zbt 8 81 = none := rfl
theorem mt_8_81 : zmt 8 81 = some (0, qX4_addPerson, 2) := rfl
theorem bn_8_85 : zbt 8 85 = none := rfl
theorem mt_8_85 : zmt 8 85 = some (0, qX0_open, 1) := rfl
theorem bn_8_88 : zbt 8 88 = none := rfl
theorem mt_8_88 : zmt 8 88 = some (1, qX8_within, 3) := rfl
theorem bn_8_96 : zbt 8 96 = none := rfl
theorem mt_8_96 : zmt 8 96 = some (0, qX5_append, 3) := rfl
theorem bn_8_100 : zbt 8 100 = none := rfl
theorem mt_8_100 : zmt 8 100 = some (0, qX4_readFrom, 2) := rfl
theorem bn_8_107 : zbt 8 107 = none := rfl
theorem mt_8_107 : zmt 8 107 = some (0, qX4_copyFrom, 2) := rfl
theorem bn_8_114 : zbt 8 114 = none := rfl
theorem mt_8_114 : zmt 8 114 = some (0, qX8_isPerson, 2) := rfl
theorem bn_8_124 : zbt 8 124 = none := rfl
theorem mt_8_124 : zmt 8 124 = some (0, qX0_owedToAll, 2) := rfl
theorem bn_8_143 : zbt 8 143 = none := rfl
theorem mt_8_143 : zmt 8 143 = some (0, qX0_isFit, 5) := rfl
theorem bn_8_147 : zbt 8 147 = none := rfl
theorem mt_8_147 : zmt 8 147 = some (0, qX0_isGranted, 5) := rfl
theorem bn_8_150 : zbt 8 150 = none := rfl
theorem mt_8_150 : zmt 8 150 = some (0, qX0_hindrance, 5) := rfl
theorem bn_8_154 : zbt 8 154 = none := rfl
theorem mt_8_154 : zmt 8 154 = some (0, qX3_put, 2) := rfl
theorem bn_8_158 : zbt 8 158 = none := rfl
theorem mt_8_158 : zmt 8 158 = some (0, qX0_addLoan, 5) := rfl
theorem bn_8_162 : zbt 8 162 = none := rfl
theorem mt_8_162 : zmt 8 162 = some (0, qX0_pass, 2) := rfl
theorem bn_8_166 : zbt 8 166 = none := rfl
theorem mt_8_166 : zmt 8 166 = some (0, qX0_living, 1) := rfl
theorem bn_8_170 : zbt 8 170 = none := rfl
theorem mt_8_170 : zmt 8 170 = some (0, qX3_takeInto, 2) := rfl
theorem bn_8_174 : zbt 8 174 = none := rfl
theorem mt_8_174 : zmt 8 174 = some (0, qX7_start, 2) := rfl
theorem bn_8_177 : zbt 8 177 = none := rfl
theorem mt_8_177 : zmt 8 177 = some (0, qX7_advance, 2) := rfl
theorem bn_8_185 : zbt 8 185 = none := rfl
theorem mt_8_185 : zmt 8 185 = some (1, qX8_isLoanOf, 2) := rfl
theorem bn_8_189 : zbt 8 189 = none := rfl
theorem mt_8_189 : zmt 8 189 = some (0, qX4_interestOn, 2) := rfl
theorem bn_8_192 : zbt 8 192 = none := rfl
theorem mt_8_192 : zmt 8 192 = some (0, qX6_add, 4) := rfl
theorem bn_8_196 : zbt 8 196 = none := rfl
theorem mt_8_196 : zmt 8 196 = some (0, qX6_least, 2) := rfl
theorem bn_8_199 : zbt 8 199 = none := rfl
theorem mt_8_199 : zmt 8 199 = some (0, qX6_greatest, 2) := rfl
theorem bn_8_202 : zbt 8 202 = none := rfl
theorem mt_8_202 : zmt 8 202 = some (0, qX6_bestDue, 3) := rfl
theorem bn_8_206 : zbt 8 206 = none := rfl
theorem mt_8_206 : zmt 8 206 = some (0, qX6_untrueOf, 2) := rfl
theorem bn_8_210 : zbt 8 210 = none := rfl
theorem mt_8_210 : zmt 8 210 = some (0, qX2_readFrom, 2) := rfl
theorem bn_8_212 : zbt 8 212 = none := rfl
theorem mt_8_212 : zmt 8 212 = some (0, qX2_clearAll, 1) := rfl
theorem bn_8_219 : zbt 8 219 = none := rfl
theorem mt_8_219 : zmt 8 219 = some (0, qX0_isAlive, 2) := rfl
theorem bn_8_222 : zbt 8 222 = none := rfl
theorem mt_8_222 : zmt 8 222 = some (0, qX1_share, 3) := rfl
theorem bn_8_226 : zbt 8 226 = none := rfl
theorem mt_8_226 : zmt 8 226 = some (0, qX1_takeAllOfOne, 2) := rfl
theorem bn_8_233 : zbt 8 233 = none := rfl
theorem mt_8_233 : zmt 8 233 = some (0, qX7_startWithout, 3) := rfl
theorem bn_8_236 : zbt 8 236 = none := rfl
theorem mt_8_236 : zmt 8 236 = some (0, qX7_loansPaidLessThan, 2) := rfl
theorem bn_8_240 : zbt 8 240 = none := rfl
theorem mt_8_240 : zmt 8 240 = some (0, qX7_firstDeadEarlierThan, 3) := rfl
theorem bn_8_244 : zbt 8 244 = none := rfl
theorem mt_8_244 : zmt 8 244 = some (1, qX8_rowsOf, 4) := rfl
theorem bn_8_247 : zbt 8 247 = none := rfl
theorem mt_8_247 : zmt 8 247 = some (1, qX8_numberOfFirstRow, 4) := rfl
theorem bn_8_250 : zbt 8 250 = none := rfl
theorem mt_8_250 : zmt 8 250 = some (0, qX8_lendByDraw, 4) := rfl
theorem bn_8_254 : zbt 8 254 = none := rfl
theorem mt_8_254 : zmt 8 254 = some (0, qX0_lostByAll, 1) := rfl
theorem bn_8_260 : zbt 8 260 = none := rfl
theorem mt_8_260 : zmt 8 260 = some (1, qX8_draw, 3) := rfl
theorem bn_9_65 : zbt 9 65 = none := rfl
theorem mt_9_65 : zmt 9 65 = some (0, qX9_begins, 1) := rfl
theorem bn_9_71 : zbt 9 71 = none := rfl
theorem mt_9_71 : zmt 9 71 = some (1, qX9_in, 3) := rfl
theorem bn_9_80 : zbt 9 80 = none := rfl
theorem mt_9_80 : zmt 9 80 = some (0, qX9_byteAt, 2) := rfl
theorem bn_9_84 : zbt 9 84 = none := rfl
theorem mt_9_84 : zmt 9 84 = some (0, qX9_isWell, 3) := rfl
theorem bn_9_88 : zbt 9 88 = none := rfl
theorem mt_9_88 : zmt 9 88 = some (0, qX9_faultOf, 1) := rfl
theorem bn_9_107 : zbt 9 107 = none := rfl
theorem mt_9_107 : zmt 9 107 = some (0, qX9_isPerson, 2) := rfl
theorem bn_9_111 : zbt 9 111 = none := rfl
theorem mt_9_111 : zmt 9 111 = some (0, qX9_owesAll, 2) := rfl
theorem bn_9_114 : zbt 9 114 = none := rfl
theorem mt_9_114 : zmt 9 114 = some (1, qX9_isSpan, 1) := rfl
theorem bn_9_117 : zbt 9 117 = none := rfl
theorem mt_9_117 : zmt 9 117 = some (0, qX9_dueOf, 2) := rfl
theorem bn_9_120 : zbt 9 120 = none := rfl
theorem mt_9_120 : zmt 9 120 = some (0, qX9_mayAsk, 5) := rfl
theorem bn_9_124 : zbt 9 124 = none := rfl
theorem mt_9_124 : zmt 9 124 = some (0, qX9_says, 5) := rfl
theorem bn_9_127 : zbt 9 127 = none := rfl
theorem mt_9_127 : zmt 9 127 = some (0, qX9_notes, 1) := rfl
theorem bn_9_130 : zbt 9 130 = none := rfl
theorem mt_9_130 : zmt 9 130 = some (0, qX9_lends, 5) := rfl
theorem bn_9_134 : zbt 9 134 = none := rfl
theorem mt_9_134 : zmt 9 134 = some (1, qX9_lesser, 2) := rfl
theorem bn_9_138 : zbt 9 138 = none := rfl
theorem mt_9_138 : zmt 9 138 = some (0, qX9_gives, 4) := rfl
theorem bn_9_142 : zbt 9 142 = none := rfl
theorem mt_9_142 : zmt 9 142 = some (0, qX9_dueNow, 2) := rfl
theorem bn_9_146 : zbt 9 146 = none := rfl
theorem mt_9_146 : zmt 9 146 = some (0, qX9_pays, 2) := rfl
theorem bn_9_150 : zbt 9 150 = none := rfl
theorem mt_9_150 : zmt 9 150 = some (0, qX9_drops, 2) := rfl
theorem bn_9_153 : zbt 9 153 = none := rfl
theorem mt_9_153 : zmt 9 153 = some (0, qX9_goes, 1) := rfl
theorem bn_9_156 : zbt 9 156 = none := rfl
theorem mt_9_156 : zmt 9 156 = some (0, qX9_living, 1) := rfl
theorem bn_9_159 : zbt 9 159 = none := rfl
theorem mt_9_159 : zmt 9 159 = some (0, qX9_aside, 2) := rfl
theorem bn_9_169 : zbt 9 169 = none := rfl
theorem mt_9_169 : zmt 9 169 = some (0, qX9_isSo, 3) := rfl
theorem bn_9_172 : zbt 9 172 = none := rfl
theorem mt_9_172 : zmt 9 172 = some (0, qX9_spans, 2) := rfl
theorem bn_9_175 : zbt 9 175 = none := rfl
theorem mt_9_175 : zmt 9 175 = some (0, qX9_findsRing, 2) := rfl
theorem bn_9_178 : zbt 9 178 = none := rfl
theorem mt_9_178 : zmt 9 178 = some (0, qX9_clears, 1) := rfl
theorem bn_9_181 : zbt 9 181 = none := rfl
theorem mt_9_181 : zmt 9 181 = some (0, qX9_shares, 2) := rfl
theorem bn_9_184 : zbt 9 184 = none := rfl
theorem mt_9_184 : zmt 9 184 = some (0, qX9_runs, 1) := rfl
theorem bn_9_195 : zbt 9 195 = none := rfl
theorem mt_9_195 : zmt 9 195 = some (1, qX9_draw, 3) := rfl
theorem bn_10_9 : zbt 10 9 = none := rfl
theorem mt_10_9 : zmt 10 9 = some (3, qX8_init, 1) := rfl
theorem bn_10_12 : zbt 10 12 = none := rfl
theorem mt_10_12 : zmt 10 12 = some (3, qX9_init, 1) := rfl
theorem bn_10_15 : zbt 10 15 = none := rfl
theorem mt_10_15 : zmt 10 15 = some (0, qX8_write, 3) := rfl
theorem bn_10_19 : zbt 10 19 = none := rfl
theorem mt_10_19 : zmt 10 19 = some (0, qX9_write, 3) := rfl
theorem bn_10_20 : zbt 10 20 = none := rfl
theorem mt_10_20 : zmt 10 20 = some (0, qX8_wipe, 1) := rfl
theorem bn_10_24 : zbt 10 24 = none := rfl
theorem mt_10_24 : zmt 10 24 = some (0, qX9_wipe, 1) := rfl
theorem bn_10_25 : zbt 10 25 = none := rfl
theorem mt_10_25 : zmt 10 25 = some (0, qX8_fault, 1) := rfl
theorem bn_10_28 : zbt 10 28 = none := rfl
theorem mt_10_28 : zmt 10 28 = some (0, qX9_fault, 1) := rfl
theorem bn_10_29 : zbt 10 29 = none := rfl
theorem mt_10_29 : zmt 10 29 = some (0, qX8_lay, 1) := rfl
theorem bn_10_32 : zbt 10 32 = none := rfl
theorem mt_10_32 : zmt 10 32 = some (0, qX9_lay, 1) := rfl
theorem bn_10_33 : zbt 10 33 = none := rfl
theorem mt_10_33 : zmt 10 33 = some (0, qX8_person, 3) := rfl
theorem bn_10_37 : zbt 10 37 = none := rfl
theorem mt_10_37 : zmt 10 37 = some (0, qX9_person, 3) := rfl
theorem bn_10_38 : zbt 10 38 = none := rfl
theorem mt_10_38 : zmt 10 38 = some (0, qX8_loan, 3) := rfl
theorem bn_10_41 : zbt 10 41 = none := rfl
theorem mt_10_41 : zmt 10 41 = some (0, qX9_loan, 3) := rfl
theorem bn_10_42 : zbt 10 42 = none := rfl
theorem mt_10_42 : zmt 10 42 = some (0, qX8_notary, 5) := rfl
theorem bn_10_46 : zbt 10 46 = none := rfl
theorem mt_10_46 : zmt 10 46 = some (0, qX9_notary, 5) := rfl
theorem bn_10_47 : zbt 10 47 = none := rfl
theorem mt_10_47 : zmt 10 47 = some (0, qX8_lend, 5) := rfl
theorem bn_10_50 : zbt 10 50 = none := rfl
theorem mt_10_50 : zmt 10 50 = some (0, qX9_lend, 5) := rfl
theorem bn_10_51 : zbt 10 51 = none := rfl
theorem mt_10_51 : zmt 10 51 = some (0, qX8_week, 1) := rfl
theorem bn_10_54 : zbt 10 54 = none := rfl
theorem mt_10_54 : zmt 10 54 = some (0, qX9_week, 1) := rfl
theorem bn_10_55 : zbt 10 55 = none := rfl
theorem mt_10_55 : zmt 10 55 = some (0, qX8_undo, 1) := rfl
theorem bn_10_58 : zbt 10 58 = none := rfl
theorem mt_10_58 : zmt 10 58 = some (0, qX9_undo, 1) := rfl
theorem bn_10_59 : zbt 10 59 = none := rfl
theorem mt_10_59 : zmt 10 59 = some (0, qX8_dies, 2) := rfl
theorem bn_10_63 : zbt 10 63 = none := rfl
theorem mt_10_63 : zmt 10 63 = some (0, qX9_dies, 2) := rfl
theorem bn_10_64 : zbt 10 64 = none := rfl
theorem mt_10_64 : zmt 10 64 = some (0, qX8_run, 4) := rfl
theorem bn_10_68 : zbt 10 68 = none := rfl
theorem mt_10_68 : zmt 10 68 = some (0, qX9_run, 4) := rfl
theorem bn_10_69 : zbt 10 69 = none := rfl
theorem mt_10_69 : zmt 10 69 = some (0, qX8_tell, 5) := rfl
theorem bn_10_73 : zbt 10 73 = none := rfl
theorem mt_10_73 : zmt 10 73 = some (0, qX9_tell, 5) := rfl
theorem bn_10_74 : zbt 10 74 = none := rfl
theorem mt_10_74 : zmt 10 74 = some (0, qX8_forget, 1) := rfl
theorem bn_10_77 : zbt 10 77 = none := rfl
theorem mt_10_77 : zmt 10 77 = some (0, qX9_forget, 1) := rfl
theorem bn_10_78 : zbt 10 78 = none := rfl
theorem mt_10_78 : zmt 10 78 = some (0, qX8_span, 3) := rfl
theorem bn_10_81 : zbt 10 81 = none := rfl
theorem mt_10_81 : zmt 10 81 = some (0, qX9_span, 3) := rfl
theorem bn_10_82 : zbt 10 82 = none := rfl
theorem mt_10_82 : zmt 10 82 = some (0, qX8_ask, 3) := rfl
theorem bn_10_85 : zbt 10 85 = none := rfl
theorem mt_10_85 : zmt 10 85 = some (0, qX9_ask, 3) := rfl
theorem bn_10_86 : zbt 10 86 = none := rfl
theorem mt_10_86 : zmt 10 86 = some (0, qX8_bribed, 1) := rfl
theorem bn_10_89 : zbt 10 89 = none := rfl
theorem mt_10_89 : zmt 10 89 = some (0, qX9_bribed, 1) := rfl
theorem bn_10_90 : zbt 10 90 = none := rfl
theorem mt_10_90 : zmt 10 90 = some (0, qX8_cleared, 3) := rfl
theorem bn_10_93 : zbt 10 93 = none := rfl
theorem mt_10_93 : zmt 10 93 = some (0, qX9_cleared, 3) := rfl
theorem bn_10_94 : zbt 10 94 = none := rfl
theorem mt_10_94 : zmt 10 94 = some (0, qX8_child, 3) := rfl
theorem bn_10_97 : zbt 10 97 = none := rfl
theorem mt_10_97 : zmt 10 97 = some (0, qX9_child, 3) := rfl
theorem bn_10_98 : zbt 10 98 = none := rfl
theorem mt_10_98 : zmt 10 98 = some (0, qX8_falls, 3) := rfl
theorem bn_10_101 : zbt 10 101 = none := rfl
theorem mt_10_101 : zmt 10 101 = some (0, qX9_falls, 3) := rfl
theorem bn_10_102 : zbt 10 102 = none := rfl
theorem mt_10_102 : zmt 10 102 = some (0, qX8_burned, 5) := rfl
theorem bn_10_105 : zbt 10 105 = none := rfl
theorem mt_10_105 : zmt 10 105 = some (0, qX9_burned, 5) := rfl
theorem bn_10_106 : zbt 10 106 = none := rfl
theorem mt_10_106 : zmt 10 106 = some (0, qX8_drawn, 4) := rfl
theorem bn_10_109 : zbt 10 109 = none := rfl
theorem mt_10_109 : zmt 10 109 = some (0, qX9_drawn, 4) := rfl
theorem bn_10_110 : zbt 10 110 = none := rfl
theorem mt_10_110 : zmt 10 110 = some (0, qX8_keep, 1) := rfl
theorem bn_10_113 : zbt 10 113 = none := rfl
theorem mt_10_113 : zmt 10 113 = some (0, qX9_keep, 1) := rfl
theorem bn_10_114 : zbt 10 114 = none := rfl
theorem mt_10_114 : zmt 10 114 = some (0, qX8_back, 1) := rfl
theorem bn_10_117 : zbt 10 117 = none := rfl
theorem mt_10_117 : zmt 10 117 = some (0, qX9_back, 1) := rfl
theorem bn_10_118 : zbt 10 118 = none := rfl
theorem mt_10_118 : zmt 10 118 = some (0, qX8_count, 2) := rfl
theorem bn_10_121 : zbt 10 121 = none := rfl
theorem mt_10_121 : zmt 10 121 = some (0, qX9_count, 2) := rfl
theorem bn_0_61 : zbt 0 61 = none := rfl
theorem mt_0_61 : zmt 0 61 = some (2, qX8_within, 3) := rfl
theorem bn_0_65 : zbt 0 65 = none := rfl
theorem mt_0_65 : zmt 0 65 = some (0, qX0_isAlive, 2) := rfl
theorem bn_0_69 : zbt 0 69 = none := rfl
theorem mt_0_69 : zmt 0 69 = some (2, qX8_isLoanOf, 2) := rfl
theorem bn_0_76 : zbt 0 76 = none := rfl
theorem mt_0_76 : zmt 0 76 = some (0, qX0_dueFrom, 3) := rfl
theorem bn_0_80 : zbt 0 80 = none := rfl
theorem mt_0_80 : zmt 0 80 = some (0, qX0_dueOn, 2) := rfl
theorem bn_0_84 : zbt 0 84 = none := rfl
theorem mt_0_84 : zmt 0 84 = some (0, qX0_isFit, 5) := rfl
theorem bn_0_88 : zbt 0 88 = none := rfl
theorem mt_0_88 : zmt 0 88 = some (0, qX0_isGranted, 5) := rfl
theorem bn_0_91 : zbt 0 91 = none := rfl
theorem mt_0_91 : zmt 0 91 = some (0, qX4_interestOn, 2) := rfl
theorem bn_0_102 : zbt 0 102 = none := rfl
theorem mt_0_102 : zmt 0 102 = some (0, qX0_payThoseDue, 1) := rfl
theorem bn_0_105 : zbt 0 105 = none := rfl
theorem mt_0_105 : zmt 0 105 = some (0, qX0_dropThoseDue, 1) := rfl
theorem bn_0_111 : zbt 0 111 = none := rfl
theorem mt_0_111 : zmt 0 111 = some (0, qX0_greatestDue, 1) := rfl
theorem bn_0_115 : zbt 0 115 = none := rfl
theorem mt_0_115 : zmt 0 115 = some (0, qX0_pay, 2) := rfl
theorem bn_0_119 : zbt 0 119 = none := rfl
theorem mt_0_119 : zmt 0 119 = some (0, qX0_isDue, 2) := rfl
theorem bn_0_122 : zbt 0 122 = none := rfl
theorem mt_0_122 : zmt 0 122 = some (0, qX0_give, 4) := rfl
theorem bn_0_126 : zbt 0 126 = none := rfl
theorem mt_0_126 : zmt 0 126 = some (0, qX0_lowestOther, 3) := rfl
theorem bn_2_45 : zbt 2 45 = none := rfl
theorem mt_2_45 : zmt 2 45 = some (0, qX2_findShortest, 1) := rfl
theorem bn_2_49 : zbt 2 49 = none := rfl
theorem mt_2_49 : zmt 2 49 = some (0, qX2_clear, 2) := rfl
theorem bn_2_53 : zbt 2 53 = none := rfl
theorem mt_2_53 : zmt 2 53 = some (0, qX2_closes, 3) := rfl
theorem bn_2_57 : zbt 2 57 = none := rfl
theorem mt_2_57 : zmt 2 57 = some (2, qX8_within, 3) := rfl
theorem bn_2_61 : zbt 2 61 = none := rfl
theorem mt_2_61 : zmt 2 61 = some (0, qX2_isPlaced, 3) := rfl
theorem bn_4_34 : zbt 4 34 = none := rfl
theorem mt_4_34 : zmt 4 34 = some (0, qX4_clear, 1) := rfl
theorem bn_4_42 : zbt 4 42 = none := rfl
theorem mt_4_42 : zmt 4 42 = some (0, qX5_readItem, 2) := rfl
theorem bn_4_52 : zbt 4 52 = none := rfl
theorem mt_4_52 : zmt 4 52 = some (0, qX4_accept, 3) := rfl
theorem bn_4_65 : zbt 4 65 = none := rfl
theorem mt_4_65 : zmt 4 65 = some (0, qX4_addPerson, 2) := rfl
theorem bn_4_68 : zbt 4 68 = none := rfl
theorem mt_4_68 : zmt 4 68 = some (2, qX8_within, 3) := rfl
theorem bn_1_18 : zbt 1 18 = none := rfl
theorem mt_1_18 : zmt 1 18 = some (0, qX0_isAlive, 2) := rfl
theorem bn_1_27 : zbt 1 27 = none := rfl
theorem mt_1_27 : zmt 1 27 = some (0, qX1_addToGreatestRest, 1) := rfl
theorem bn_7_17 : zbt 7 17 = none := rfl
theorem mt_7_17 : zmt 7 17 = some (3, qX0_init, 2) := rfl
theorem bn_7_24 : zbt 7 24 = none := rfl
theorem mt_7_24 : zmt 7 24 = some (0, qX0_copyFrom, 2) := rfl
theorem bn_7_28 : zbt 7 28 = none := rfl
theorem mt_7_28 : zmt 7 28 = some (0, qX0_markLoans, 1) := rfl
theorem bn_7_35 : zbt 7 35 = none := rfl
theorem mt_7_35 : zmt 7 35 = some (0, qX0_isAlive, 2) := rfl
theorem bn_7_40 : zbt 7 40 = none := rfl
theorem mt_7_40 : zmt 7 40 = some (0, qX7_start, 2) := rfl
theorem bn_7_46 : zbt 7 46 = none := rfl
theorem mt_7_46 : zmt 7 46 = some (0, qX0_weeksToNextDue, 2) := rfl
theorem bn_7_56 : zbt 7 56 = none := rfl
theorem mt_7_56 : zmt 7 56 = some (0, qX7_noteDeaths, 2) := rfl
theorem bn_7_60 : zbt 7 60 = none := rfl
theorem mt_7_60 : zmt 7 60 = some (0, qX0_pass, 2) := rfl
theorem bn_3_23 : zbt 3 23 = none := rfl
theorem mt_3_23 : zmt 3 23 = some (3, qX0_init, 2) := rfl
theorem bn_3_30 : zbt 3 30 = none := rfl
theorem mt_3_30 : zmt 3 30 = some (0, qX3_moveLowestUp, 1) := rfl
theorem bn_3_33 : zbt 3 33 = none := rfl
theorem mt_3_33 : zmt 3 33 = some (0, qX0_copyFrom, 2) := rfl
theorem bn_3_37 : zbt 3 37 = none := rfl
theorem mt_3_37 : zmt 3 37 = some (2, qX8_within, 3) := rfl
theorem bn_6_35 : zbt 6 35 = none := rfl
theorem mt_6_35 : zmt 6 35 = some (0, qX6_least, 2) := rfl
theorem bn_6_39 : zbt 6 39 = none := rfl
theorem mt_6_39 : zmt 6 39 = some (0, qX6_greatest, 2) := rfl
theorem bn_5_19 : zbt 5 19 = none := rfl
theorem mt_5_19 : zmt 5 19 = some (2, qX8_within, 3) := rfl
