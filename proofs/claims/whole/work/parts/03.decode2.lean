theorem dX9_person_6 : decode cX9_person 6 = .ok (.iload_n 1, 1) := by decide +kernel
theorem dX9_person_7 : decode cX9_person 7 = .ok (.invokevirtual 107, 3) := by decide +kernel
theorem dX9_person_10 : decode cX9_person 10 = .ok (.ifCond .eq 12, 3) := by decide +kernel
theorem dX9_person_13 : decode cX9_person 13 = .ok (.iload_n 2, 1) := by decide +kernel
theorem dX9_person_14 : decode cX9_person 14 = .ok (.iconst 0, 1) := by decide +kernel
theorem dX9_person_15 : decode cX9_person 15 = .ok (.iconst 2, 1) := by decide +kernel
theorem dX9_person_16 : decode cX9_person 16 = .ok (.invokestatic 71, 3) := by decide +kernel
theorem dX9_person_19 : decode cX9_person 19 = .ok (.ifCond .ne 5, 3) := by decide +kernel
theorem dX9_person_22 : decode cX9_person 22 = .ok (.iconst (-1), 1) := by decide +kernel
theorem dX9_person_23 : decode cX9_person 23 = .ok (.ireturn, 1) := by decide +kernel
theorem dX9_person_24 : decode cX9_person 24 = .ok (.iload_n 2, 1) := by decide +kernel
theorem dX9_person_25 : decode cX9_person 25 = .ok (.ifCond .ne 12, 3) := by decide +kernel
theorem dX9_person_28 : decode cX9_person 28 = .ok (.aload_n 0, 1) := by decide +kernel
theorem dX9_person_29 : decode cX9_person 29 = .ok (.getfield 19, 3) := by decide +kernel
theorem dX9_person_32 : decode cX9_person 32 = .ok (.iload_n 1, 1) := by decide +kernel
theorem dX9_person_33 : decode cX9_person 33 = .ok (.iaload, 1) := by decide +kernel
theorem dX9_person_34 : decode cX9_person 34 = .ok (.goto 25, 3) := by decide +kernel
theorem dX9_person_37 : decode cX9_person 37 = .ok (.iload_n 2, 1) := by decide +kernel
theorem dX9_person_38 : decode cX9_person 38 = .ok (.iconst 1, 1) := by decide +kernel
theorem dX9_person_39 : decode cX9_person 39 = .ok (.if_icmp .ne 15, 3) := by decide +kernel
theorem dX9_person_42 : decode cX9_person 42 = .ok (.aload_n 0, 1) := by decide +kernel
theorem dX9_person_43 : decode cX9_person 43 = .ok (.getfield 19, 3) := by decide +kernel
theorem dX9_person_46 : decode cX9_person 46 = .ok (.bipush 6, 2) := by decide +kernel
theorem dX9_person_48 : decode cX9_person 48 = .ok (.iload_n 1, 1) := by decide +kernel
theorem dX9_person_49 : decode cX9_person 49 = .ok (.iadd, 1) := by decide +kernel
theorem dX9_person_50 : decode cX9_person 50 = .ok (.iaload, 1) := by decide +kernel
theorem dX9_person_51 : decode cX9_person 51 = .ok (.goto 8, 3) := by decide +kernel
theorem dX9_person_54 : decode cX9_person 54 = .ok (.aload_n 0, 1) := by decide +kernel
theorem dX9_person_55 : decode cX9_person 55 = .ok (.iload_n 1, 1) := by decide +kernel
theorem dX9_person_56 : decode cX9_person 56 = .ok (.invokevirtual 111, 3) := by decide +kernel
theorem dX9_person_59 : decode cX9_person 59 = .ok (.ireturn, 1) := by decide +kernel
theorem dX9_loan_0 : decode cX9_loan 0 = .ok (.aload_n 0, 1) := by decide +kernel
theorem dX9_loan_1 : decode cX9_loan 1 = .ok (.iconst 0, 1) := by decide +kernel
theorem dX9_loan_2 : decode cX9_loan 2 = .ok (.putfield 68, 3) := by decide +kernel
theorem dX9_loan_5 : decode cX9_loan 5 = .ok (.iload_n 1, 1) := by decide +kernel
theorem dX9_loan_6 : decode cX9_loan 6 = .ok (.iconst 0, 1) := by decide +kernel
theorem dX9_loan_7 : decode cX9_loan 7 = .ok (.aload_n 0, 1) := by decide +kernel
theorem dX9_loan_8 : decode cX9_loan 8 = .ok (.getfield 19, 3) := by decide +kernel
theorem dX9_loan_11 : decode cX9_loan 11 = .ok (.bipush 12, 2) := by decide +kernel
theorem dX9_loan_13 : decode cX9_loan 13 = .ok (.iaload, 1) := by decide +kernel
theorem dX9_loan_14 : decode cX9_loan 14 = .ok (.iconst 1, 1) := by decide +kernel
theorem dX9_loan_15 : decode cX9_loan 15 = .ok (.isub, 1) := by decide +kernel
theorem dX9_loan_16 : decode cX9_loan 16 = .ok (.invokestatic 71, 3) := by decide +kernel
theorem dX9_loan_19 : decode cX9_loan 19 = .ok (.ifCond .eq 28, 3) := by decide +kernel
theorem dX9_loan_22 : decode cX9_loan 22 = .ok (.iload_n 2, 1) := by decide +kernel
theorem dX9_loan_23 : decode cX9_loan 23 = .ok (.iconst 0, 1) := by decide +kernel
theorem dX9_loan_24 : decode cX9_loan 24 = .ok (.iconst 3, 1) := by decide +kernel
theorem dX9_loan_25 : decode cX9_loan 25 = .ok (.invokestatic 71, 3) := by decide +kernel
theorem dX9_loan_28 : decode cX9_loan 28 = .ok (.ifCond .eq 19, 3) := by decide +kernel
theorem dX9_loan_31 : decode cX9_loan 31 = .ok (.aload_n 0, 1) := by decide +kernel
theorem dX9_loan_32 : decode cX9_loan 32 = .ok (.getfield 19, 3) := by decide +kernel
theorem dX9_loan_35 : decode cX9_loan 35 = .ok (.bipush 13, 2) := by decide +kernel
theorem dX9_loan_37 : decode cX9_loan 37 = .ok (.iconst 4, 1) := by decide +kernel
theorem dX9_loan_38 : decode cX9_loan 38 = .ok (.iload_n 1, 1) := by decide +kernel
theorem dX9_loan_39 : decode cX9_loan 39 = .ok (.imul, 1) := by decide +kernel
theorem dX9_loan_40 : decode cX9_loan 40 = .ok (.iadd, 1) := by decide +kernel
theorem dX9_loan_41 : decode cX9_loan 41 = .ok (.iload_n 2, 1) := by decide +kernel
theorem dX9_loan_42 : decode cX9_loan 42 = .ok (.iadd, 1) := by decide +kernel
theorem dX9_loan_43 : decode cX9_loan 43 = .ok (.iaload, 1) := by decide +kernel
theorem dX9_loan_44 : decode cX9_loan 44 = .ok (.goto 4, 3) := by decide +kernel
theorem dX9_loan_47 : decode cX9_loan 47 = .ok (.iconst (-1), 1) := by decide +kernel
theorem dX9_loan_48 : decode cX9_loan 48 = .ok (.ireturn, 1) := by decide +kernel
theorem dX9_dueOf_0 : decode cX9_dueOf 0 = .ok (.iload_n 1, 1) := by decide +kernel
theorem dX9_dueOf_1 : decode cX9_dueOf 1 = .ok (.iload_n 1, 1) := by decide +kernel
theorem dX9_dueOf_2 : decode cX9_dueOf 2 = .ok (.aload_n 0, 1) := by decide +kernel
theorem dX9_dueOf_3 : decode cX9_dueOf 3 = .ok (.getfield 62, 3) := by decide +kernel
theorem dX9_dueOf_6 : decode cX9_dueOf 6 = .ok (.imul, 1) := by decide +kernel
theorem dX9_dueOf_7 : decode cX9_dueOf 7 = .ok (.bipush 100, 2) := by decide +kernel
theorem dX9_dueOf_9 : decode cX9_dueOf 9 = .ok (.idiv, 1) := by decide +kernel
theorem dX9_dueOf_10 : decode cX9_dueOf 10 = .ok (.iadd, 1) := by decide +kernel
theorem dX9_dueOf_11 : decode cX9_dueOf 11 = .ok (.ireturn, 1) := by decide +kernel
theorem dX9_isSpan_0 : decode cX9_isSpan 0 = .ok (.iload_n 0, 1) := by decide +kernel
theorem dX9_isSpan_1 : decode cX9_isSpan 1 = .ok (.iconst 1, 1) := by decide +kernel
theorem dX9_isSpan_2 : decode cX9_isSpan 2 = .ok (.sipush 200, 3) := by decide +kernel
theorem dX9_isSpan_5 : decode cX9_isSpan 5 = .ok (.invokestatic 71, 3) := by decide +kernel
theorem dX9_isSpan_8 : decode cX9_isSpan 8 = .ok (.ireturn, 1) := by decide +kernel
theorem dX9_mayAsk_0 : decode cX9_mayAsk 0 = .ok (.aload_n 0, 1) := by decide +kernel
theorem dX9_mayAsk_1 : decode cX9_mayAsk 1 = .ok (.iload_n 1, 1) := by decide +kernel
theorem dX9_mayAsk_2 : decode cX9_mayAsk 2 = .ok (.invokevirtual 107, 3) := by decide +kernel
theorem dX9_mayAsk_5 : decode cX9_mayAsk 5 = .ok (.ifCond .eq 53, 3) := by decide +kernel
theorem dX9_mayAsk_8 : decode cX9_mayAsk 8 = .ok (.aload_n 0, 1) := by decide +kernel
theorem dX9_mayAsk_9 : decode cX9_mayAsk 9 = .ok (.iload_n 2, 1) := by decide +kernel
theorem dX9_mayAsk_10 : decode cX9_mayAsk 10 = .ok (.invokevirtual 107, 3) := by decide +kernel
theorem dX9_mayAsk_13 : decode cX9_mayAsk 13 = .ok (.ifCond .eq 45, 3) := by decide +kernel
theorem dX9_mayAsk_16 : decode cX9_mayAsk 16 = .ok (.iload_n 1, 1) := by decide +kernel
theorem dX9_mayAsk_17 : decode cX9_mayAsk 17 = .ok (.iload_n 2, 1) := by decide +kernel
theorem dX9_mayAsk_18 : decode cX9_mayAsk 18 = .ok (.if_icmp .eq 40, 3) := by decide +kernel
theorem dX9_mayAsk_21 : decode cX9_mayAsk 21 = .ok (.iload_n 3, 1) := by decide +kernel
theorem dX9_mayAsk_22 : decode cX9_mayAsk 22 = .ok (.invokestatic 114, 3) := by decide +kernel
theorem dX9_mayAsk_25 : decode cX9_mayAsk 25 = .ok (.ifCond .eq 33, 3) := by decide +kernel
theorem dX9_mayAsk_28 : decode cX9_mayAsk 28 = .ok (.iload 4, 2) := by decide +kernel
theorem dX9_mayAsk_30 : decode cX9_mayAsk 30 = .ok (.invokestatic 114, 3) := by decide +kernel
theorem dX9_mayAsk_33 : decode cX9_mayAsk 33 = .ok (.ifCond .eq 25, 3) := by decide +kernel
theorem dX9_mayAsk_36 : decode cX9_mayAsk 36 = .ok (.aload_n 0, 1) := by decide +kernel
theorem dX9_mayAsk_37 : decode cX9_mayAsk 37 = .ok (.getfield 19, 3) := by decide +kernel
theorem dX9_mayAsk_40 : decode cX9_mayAsk 40 = .ok (.iload_n 1, 1) := by decide +kernel
theorem dX9_mayAsk_41 : decode cX9_mayAsk 41 = .ok (.iaload, 1) := by decide +kernel
theorem dX9_mayAsk_42 : decode cX9_mayAsk 42 = .ok (.ifCond .le 16, 3) := by decide +kernel
theorem dX9_mayAsk_45 : decode cX9_mayAsk 45 = .ok (.aload_n 0, 1) := by decide +kernel
theorem dX9_mayAsk_46 : decode cX9_mayAsk 46 = .ok (.getfield 19, 3) := by decide +kernel
theorem dX9_mayAsk_49 : decode cX9_mayAsk 49 = .ok (.iload_n 2, 1) := by decide +kernel
theorem dX9_mayAsk_50 : decode cX9_mayAsk 50 = .ok (.iaload, 1) := by decide +kernel
theorem dX9_mayAsk_51 : decode cX9_mayAsk 51 = .ok (.ifCond .le 7, 3) := by decide +kernel
theorem dX9_mayAsk_54 : decode cX9_mayAsk 54 = .ok (.iconst 1, 1) := by decide +kernel
theorem dX9_mayAsk_55 : decode cX9_mayAsk 55 = .ok (.goto 4, 3) := by decide +kernel
theorem dX9_mayAsk_58 : decode cX9_mayAsk 58 = .ok (.iconst 0, 1) := by decide +kernel
theorem dX9_mayAsk_59 : decode cX9_mayAsk 59 = .ok (.ireturn, 1) := by decide +kernel
theorem dX9_says_0 : decode cX9_says 0 = .ok (.aload_n 0, 1) := by decide +kernel
theorem dX9_says_1 : decode cX9_says 1 = .ok (.getfield 104, 3) := by decide +kernel
theorem dX9_says_4 : decode cX9_says 4 = .ok (.iconst 2, 1) := by decide +kernel
theorem dX9_says_5 : decode cX9_says 5 = .ok (.if_icmp .eq 13, 3) := by decide +kernel
theorem dX9_says_8 : decode cX9_says 8 = .ok (.aload_n 0, 1) := by decide +kernel
theorem dX9_says_9 : decode cX9_says 9 = .ok (.getfield 19, 3) := by decide +kernel
theorem dX9_says_12 : decode cX9_says 12 = .ok (.iload_n 1, 1) := by decide +kernel
theorem dX9_says_13 : decode cX9_says 13 = .ok (.iaload, 1) := by decide +kernel
theorem dX9_says_14 : decode cX9_says 14 = .ok (.iload_n 3, 1) := by decide +kernel
theorem dX9_says_15 : decode cX9_says 15 = .ok (.if_icmp .gt 5, 3) := by decide +kernel
theorem dX9_says_18 : decode cX9_says 18 = .ok (.iconst 0, 1) := by decide +kernel
theorem dX9_says_19 : decode cX9_says 19 = .ok (.ireturn, 1) := by decide +kernel
theorem dX9_says_20 : decode cX9_says 20 = .ok (.aload_n 0, 1) := by decide +kernel
theorem dX9_says_21 : decode cX9_says 21 = .ok (.getfield 104, 3) := by decide +kernel
theorem dX9_says_24 : decode cX9_says 24 = .ok (.iconst 1, 1) := by decide +kernel
theorem dX9_says_25 : decode cX9_says 25 = .ok (.if_icmp .ne 5, 3) := by decide +kernel
theorem dX9_says_28 : decode cX9_says 28 = .ok (.iconst 1, 1) := by decide +kernel
theorem dX9_says_29 : decode cX9_says 29 = .ok (.ireturn, 1) := by decide +kernel
theorem dX9_says_30 : decode cX9_says 30 = .ok (.aload_n 0, 1) := by decide +kernel
theorem dX9_says_31 : decode cX9_says 31 = .ok (.getfield 19, 3) := by decide +kernel
theorem dX9_says_34 : decode cX9_says 34 = .ok (.iload_n 2, 1) := by decide +kernel
theorem dX9_says_35 : decode cX9_says 35 = .ok (.iaload, 1) := by decide +kernel
theorem dX9_says_36 : decode cX9_says 36 = .ok (.iload_n 3, 1) := by decide +kernel
theorem dX9_says_37 : decode cX9_says 37 = .ok (.iadd, 1) := by decide +kernel
theorem dX9_says_38 : decode cX9_says 38 = .ok (.iload 4, 2) := by decide +kernel
theorem dX9_says_40 : decode cX9_says 40 = .ok (.isub, 1) := by decide +kernel
theorem dX9_says_41 : decode cX9_says 41 = .ok (.istore 5, 2) := by decide +kernel
theorem dX9_says_43 : decode cX9_says 43 = .ok (.iconst 0, 1) := by decide +kernel
theorem dX9_says_44 : decode cX9_says 44 = .ok (.istore 6, 2) := by decide +kernel
theorem dX9_says_46 : decode cX9_says 46 = .ok (.iload 6, 2) := by decide +kernel
theorem dX9_says_48 : decode cX9_says 48 = .ok (.aload_n 0, 1) := by decide +kernel
theorem dX9_says_49 : decode cX9_says 49 = .ok (.getfield 19, 3) := by decide +kernel
theorem dX9_says_52 : decode cX9_says 52 = .ok (.bipush 12, 2) := by decide +kernel
theorem dX9_says_54 : decode cX9_says 54 = .ok (.iaload, 1) := by decide +kernel
theorem dX9_says_55 : decode cX9_says 55 = .ok (.if_icmp .ge 73, 3) := by decide +kernel
theorem dX9_says_58 : decode cX9_says 58 = .ok (.iload 5, 2) := by decide +kernel
theorem dX9_says_60 : decode cX9_says 60 = .ok (.aload_n 0, 1) := by decide +kernel
theorem dX9_says_61 : decode cX9_says 61 = .ok (.getfield 19, 3) := by decide +kernel
theorem dX9_says_64 : decode cX9_says 64 = .ok (.bipush 13, 2) := by decide +kernel
theorem dX9_says_66 : decode cX9_says 66 = .ok (.iconst 4, 1) := by decide +kernel
theorem dX9_says_67 : decode cX9_says 67 = .ok (.iload 6, 2) := by decide +kernel
theorem dX9_says_69 : decode cX9_says 69 = .ok (.imul, 1) := by decide +kernel
theorem dX9_says_70 : decode cX9_says 70 = .ok (.iadd, 1) := by decide +kernel
theorem dX9_says_71 : decode cX9_says 71 = .ok (.iconst 1, 1) := by decide +kernel
theorem dX9_says_72 : decode cX9_says 72 = .ok (.iadd, 1) := by decide +kernel
theorem dX9_says_73 : decode cX9_says 73 = .ok (.iaload, 1) := by decide +kernel
theorem dX9_says_74 : decode cX9_says 74 = .ok (.iload_n 2, 1) := by decide +kernel
theorem dX9_says_75 : decode cX9_says 75 = .ok (.if_icmp .ne 43, 3) := by decide +kernel
theorem dX9_says_78 : decode cX9_says 78 = .ok (.aload_n 0, 1) := by decide +kernel
theorem dX9_says_79 : decode cX9_says 79 = .ok (.getfield 19, 3) := by decide +kernel
theorem dX9_says_82 : decode cX9_says 82 = .ok (.bipush 13, 2) := by decide +kernel
theorem dX9_says_84 : decode cX9_says 84 = .ok (.iconst 4, 1) := by decide +kernel
theorem dX9_says_85 : decode cX9_says 85 = .ok (.iload 6, 2) := by decide +kernel
theorem dX9_says_87 : decode cX9_says 87 = .ok (.imul, 1) := by decide +kernel
theorem dX9_says_88 : decode cX9_says 88 = .ok (.iadd, 1) := by decide +kernel
theorem dX9_says_89 : decode cX9_says 89 = .ok (.iconst 3, 1) := by decide +kernel
theorem dX9_says_90 : decode cX9_says 90 = .ok (.iadd, 1) := by decide +kernel
theorem dX9_says_91 : decode cX9_says 91 = .ok (.iaload, 1) := by decide +kernel
theorem dX9_says_92 : decode cX9_says 92 = .ok (.iload 4, 2) := by decide +kernel
theorem dX9_says_94 : decode cX9_says 94 = .ok (.if_icmp .gt 24, 3) := by decide +kernel
theorem dX9_says_97 : decode cX9_says 97 = .ok (.aload_n 0, 1) := by decide +kernel
theorem dX9_says_98 : decode cX9_says 98 = .ok (.aload_n 0, 1) := by decide +kernel
theorem dX9_says_99 : decode cX9_says 99 = .ok (.getfield 19, 3) := by decide +kernel
theorem dX9_says_102 : decode cX9_says 102 = .ok (.bipush 13, 2) := by decide +kernel
theorem dX9_says_104 : decode cX9_says 104 = .ok (.iconst 4, 1) := by decide +kernel
theorem dX9_says_105 : decode cX9_says 105 = .ok (.iload 6, 2) := by decide +kernel
theorem dX9_says_107 : decode cX9_says 107 = .ok (.imul, 1) := by decide +kernel
theorem dX9_says_108 : decode cX9_says 108 = .ok (.iadd, 1) := by decide +kernel
theorem dX9_says_109 : decode cX9_says 109 = .ok (.iconst 2, 1) := by decide +kernel
theorem dX9_says_110 : decode cX9_says 110 = .ok (.iadd, 1) := by decide +kernel
theorem dX9_says_111 : decode cX9_says 111 = .ok (.iaload, 1) := by decide +kernel
theorem dX9_says_112 : decode cX9_says 112 = .ok (.invokevirtual 117, 3) := by decide +kernel
theorem dX9_says_115 : decode cX9_says 115 = .ok (.goto 4, 3) := by decide +kernel
theorem dX9_says_118 : decode cX9_says 118 = .ok (.iconst 0, 1) := by decide +kernel
theorem dX9_says_119 : decode cX9_says 119 = .ok (.isub, 1) := by decide +kernel
theorem dX9_says_120 : decode cX9_says 120 = .ok (.istore 5, 2) := by decide +kernel
theorem dX9_says_122 : decode cX9_says 122 = .ok (.iinc 6 1, 3) := by decide +kernel
theorem dX9_says_125 : decode cX9_says 125 = .ok (.goto (-79), 3) := by decide +kernel
theorem dX9_says_128 : decode cX9_says 128 = .ok (.iload 5, 2) := by decide +kernel
theorem dX9_says_130 : decode cX9_says 130 = .ok (.aload_n 0, 1) := by decide +kernel
theorem dX9_says_131 : decode cX9_says 131 = .ok (.iload_n 3, 1) := by decide +kernel
theorem dX9_says_132 : decode cX9_says 132 = .ok (.invokevirtual 117, 3) := by decide +kernel
theorem dX9_says_135 : decode cX9_says 135 = .ok (.if_icmp .le 7, 3) := by decide +kernel
theorem dX9_says_138 : decode cX9_says 138 = .ok (.iconst 1, 1) := by decide +kernel
theorem dX9_says_139 : decode cX9_says 139 = .ok (.goto 4, 3) := by decide +kernel
theorem dX9_says_142 : decode cX9_says 142 = .ok (.iconst 0, 1) := by decide +kernel
theorem dX9_says_143 : decode cX9_says 143 = .ok (.ireturn, 1) := by decide +kernel
theorem dX9_notary_0 : decode cX9_notary 0 = .ok (.aload_n 0, 1) := by decide +kernel
theorem dX9_notary_1 : decode cX9_notary 1 = .ok (.iconst 0, 1) := by decide +kernel
theorem dX9_notary_2 : decode cX9_notary 2 = .ok (.putfield 68, 3) := by decide +kernel
theorem dX9_notary_5 : decode cX9_notary 5 = .ok (.aload_n 0, 1) := by decide +kernel
theorem dX9_notary_6 : decode cX9_notary 6 = .ok (.iload_n 1, 1) := by decide +kernel
theorem dX9_notary_7 : decode cX9_notary 7 = .ok (.iload_n 2, 1) := by decide +kernel
theorem dX9_notary_8 : decode cX9_notary 8 = .ok (.iload_n 3, 1) := by decide +kernel
theorem dX9_notary_9 : decode cX9_notary 9 = .ok (.iload 4, 2) := by decide +kernel
theorem dX9_notary_11 : decode cX9_notary 11 = .ok (.invokevirtual 120, 3) := by decide +kernel
theorem dX9_notary_14 : decode cX9_notary 14 = .ok (.ifCond .ne 7, 3) := by decide +kernel
theorem dX9_notary_17 : decode cX9_notary 17 = .ok (.iconst (-1), 1) := by decide +kernel
theorem dX9_notary_18 : decode cX9_notary 18 = .ok (.goto 20, 3) := by decide +kernel
theorem dX9_notary_21 : decode cX9_notary 21 = .ok (.aload_n 0, 1) := by decide +kernel
theorem dX9_notary_22 : decode cX9_notary 22 = .ok (.iload_n 1, 1) := by decide +kernel
theorem dX9_notary_23 : decode cX9_notary 23 = .ok (.iload_n 2, 1) := by decide +kernel
theorem dX9_notary_24 : decode cX9_notary 24 = .ok (.iload_n 3, 1) := by decide +kernel
theorem dX9_notary_25 : decode cX9_notary 25 = .ok (.iload 4, 2) := by decide +kernel
theorem dX9_notary_27 : decode cX9_notary 27 = .ok (.invokevirtual 124, 3) := by decide +kernel
theorem dX9_notary_30 : decode cX9_notary 30 = .ok (.ifCond .eq 7, 3) := by decide +kernel
theorem dX9_notary_33 : decode cX9_notary 33 = .ok (.iconst 1, 1) := by decide +kernel
theorem dX9_notary_34 : decode cX9_notary 34 = .ok (.goto 4, 3) := by decide +kernel
theorem dX9_notary_37 : decode cX9_notary 37 = .ok (.iconst 0, 1) := by decide +kernel
theorem dX9_notary_38 : decode cX9_notary 38 = .ok (.ireturn, 1) := by decide +kernel
theorem dX9_notes_0 : decode cX9_notes 0 = .ok (.aload_n 0, 1) := by decide +kernel
theorem dX9_notes_1 : decode cX9_notes 1 = .ok (.getfield 92, 3) := by decide +kernel
theorem dX9_notes_4 : decode cX9_notes 4 = .ok (.bipush 6, 2) := by decide +kernel
theorem dX9_notes_6 : decode cX9_notes 6 = .ok (.if_icmp .ne 38, 3) := by decide +kernel
theorem dX9_notes_9 : decode cX9_notes 9 = .ok (.iconst 0, 1) := by decide +kernel
theorem dX9_notes_10 : decode cX9_notes 10 = .ok (.istore_n 1, 1) := by decide +kernel
theorem dX9_notes_11 : decode cX9_notes 11 = .ok (.iload_n 1, 1) := by decide +kernel
theorem dX9_notes_12 : decode cX9_notes 12 = .ok (.sipush 230, 3) := by decide +kernel
theorem dX9_notes_15 : decode cX9_notes 15 = .ok (.if_icmp .ge 24, 3) := by decide +kernel
theorem dX9_notes_18 : decode cX9_notes 18 = .ok (.aload_n 0, 1) := by decide +kernel
theorem dX9_notes_19 : decode cX9_notes 19 = .ok (.getfield 25, 3) := by decide +kernel
theorem dX9_notes_22 : decode cX9_notes 22 = .ok (.iload_n 1, 1) := by decide +kernel
theorem dX9_notes_23 : decode cX9_notes 23 = .ok (.aload_n 0, 1) := by decide +kernel
theorem dX9_notes_24 : decode cX9_notes 24 = .ok (.getfield 25, 3) := by decide +kernel
theorem dX9_notes_27 : decode cX9_notes 27 = .ok (.iload_n 1, 1) := by decide +kernel
theorem dX9_notes_28 : decode cX9_notes 28 = .ok (.bipush 46, 2) := by decide +kernel
theorem dX9_notes_30 : decode cX9_notes 30 = .ok (.iadd, 1) := by decide +kernel
theorem dX9_notes_31 : decode cX9_notes 31 = .ok (.iaload, 1) := by decide +kernel
theorem dX9_notes_32 : decode cX9_notes 32 = .ok (.iastore, 1) := by decide +kernel
theorem dX9_notes_33 : decode cX9_notes 33 = .ok (.iinc 1 1, 3) := by decide +kernel
theorem dX9_notes_36 : decode cX9_notes 36 = .ok (.goto (-25), 3) := by decide +kernel
theorem dX9_notes_39 : decode cX9_notes 39 = .ok (.aload_n 0, 1) := by decide +kernel
theorem dX9_notes_40 : decode cX9_notes 40 = .ok (.iconst 5, 1) := by decide +kernel
theorem dX9_notes_41 : decode cX9_notes 41 = .ok (.putfield 92, 3) := by decide +kernel
theorem dX9_notes_44 : decode cX9_notes 44 = .ok (.iconst 0, 1) := by decide +kernel
theorem dX9_notes_45 : decode cX9_notes 45 = .ok (.istore_n 1, 1) := by decide +kernel
theorem dX9_notes_46 : decode cX9_notes 46 = .ok (.iload_n 1, 1) := by decide +kernel
theorem dX9_notes_47 : decode cX9_notes 47 = .ok (.bipush 46, 2) := by decide +kernel
theorem dX9_notes_49 : decode cX9_notes 49 = .ok (.if_icmp .ge 29, 3) := by decide +kernel
theorem dX9_notes_52 : decode cX9_notes 52 = .ok (.aload_n 0, 1) := by decide +kernel
theorem dX9_notes_53 : decode cX9_notes 53 = .ok (.getfield 25, 3) := by decide +kernel
theorem dX9_notes_56 : decode cX9_notes 56 = .ok (.bipush 46, 2) := by decide +kernel
theorem dX9_notes_58 : decode cX9_notes 58 = .ok (.aload_n 0, 1) := by decide +kernel
theorem dX9_notes_59 : decode cX9_notes 59 = .ok (.getfield 92, 3) := by decide +kernel
theorem dX9_notes_62 : decode cX9_notes 62 = .ok (.imul, 1) := by decide +kernel
theorem dX9_notes_63 : decode cX9_notes 63 = .ok (.iload_n 1, 1) := by decide +kernel
theorem dX9_notes_64 : decode cX9_notes 64 = .ok (.iadd, 1) := by decide +kernel
theorem dX9_notes_65 : decode cX9_notes 65 = .ok (.aload_n 0, 1) := by decide +kernel
theorem dX9_notes_66 : decode cX9_notes 66 = .ok (.getfield 19, 3) := by decide +kernel
theorem dX9_notes_69 : decode cX9_notes 69 = .ok (.iload_n 1, 1) := by decide +kernel
theorem dX9_notes_70 : decode cX9_notes 70 = .ok (.iaload, 1) := by decide +kernel
theorem dX9_notes_71 : decode cX9_notes 71 = .ok (.iastore, 1) := by decide +kernel
theorem dX9_notes_72 : decode cX9_notes 72 = .ok (.iinc 1 1, 3) := by decide +kernel
theorem dX9_notes_75 : decode cX9_notes 75 = .ok (.goto (-29), 3) := by decide +kernel
theorem dX9_notes_78 : decode cX9_notes 78 = .ok (.aload_n 0, 1) := by decide +kernel
theorem dX9_notes_79 : decode cX9_notes 79 = .ok (.dup, 1) := by decide +kernel
theorem dX9_notes_80 : decode cX9_notes 80 = .ok (.getfield 92, 3) := by decide +kernel
theorem dX9_notes_83 : decode cX9_notes 83 = .ok (.iconst 1, 1) := by decide +kernel
theorem dX9_notes_84 : decode cX9_notes 84 = .ok (.iadd, 1) := by decide +kernel
theorem dX9_notes_85 : decode cX9_notes 85 = .ok (.putfield 92, 3) := by decide +kernel
theorem dX9_notes_88 : decode cX9_notes 88 = .ok (.return_, 1) := by decide +kernel
theorem dX9_lends_0 : decode cX9_lends 0 = .ok (.bipush 13, 2) := by decide +kernel
theorem dX9_lends_2 : decode cX9_lends 2 = .ok (.iconst 4, 1) := by decide +kernel
theorem dX9_lends_3 : decode cX9_lends 3 = .ok (.aload_n 0, 1) := by decide +kernel
theorem dX9_lends_4 : decode cX9_lends 4 = .ok (.getfield 19, 3) := by decide +kernel
theorem dX9_lends_7 : decode cX9_lends 7 = .ok (.bipush 12, 2) := by decide +kernel
theorem dX9_lends_9 : decode cX9_lends 9 = .ok (.iaload, 1) := by decide +kernel
theorem dX9_lends_10 : decode cX9_lends 10 = .ok (.imul, 1) := by decide +kernel
theorem dX9_lends_11 : decode cX9_lends 11 = .ok (.iadd, 1) := by decide +kernel
theorem dX9_lends_12 : decode cX9_lends 12 = .ok (.istore 5, 2) := by decide +kernel
theorem dX9_lends_14 : decode cX9_lends 14 = .ok (.aload_n 0, 1) := by decide +kernel
theorem dX9_lends_15 : decode cX9_lends 15 = .ok (.getfield 19, 3) := by decide +kernel
theorem dX9_lends_18 : decode cX9_lends 18 = .ok (.iload 5, 2) := by decide +kernel
theorem dX9_lends_20 : decode cX9_lends 20 = .ok (.iload_n 1, 1) := by decide +kernel
theorem dX9_lends_21 : decode cX9_lends 21 = .ok (.iastore, 1) := by decide +kernel
theorem dX9_lends_22 : decode cX9_lends 22 = .ok (.aload_n 0, 1) := by decide +kernel
theorem dX9_lends_23 : decode cX9_lends 23 = .ok (.getfield 19, 3) := by decide +kernel
theorem dX9_lends_26 : decode cX9_lends 26 = .ok (.iload 5, 2) := by decide +kernel
theorem dX9_lends_28 : decode cX9_lends 28 = .ok (.iconst 1, 1) := by decide +kernel
theorem dX9_lends_29 : decode cX9_lends 29 = .ok (.iadd, 1) := by decide +kernel
theorem dX9_lends_30 : decode cX9_lends 30 = .ok (.iload_n 2, 1) := by decide +kernel
theorem dX9_lends_31 : decode cX9_lends 31 = .ok (.iastore, 1) := by decide +kernel
theorem dX9_lends_32 : decode cX9_lends 32 = .ok (.aload_n 0, 1) := by decide +kernel
theorem dX9_lends_33 : decode cX9_lends 33 = .ok (.getfield 19, 3) := by decide +kernel
theorem dX9_lends_36 : decode cX9_lends 36 = .ok (.iload 5, 2) := by decide +kernel
theorem dX9_lends_38 : decode cX9_lends 38 = .ok (.iconst 2, 1) := by decide +kernel
theorem dX9_lends_39 : decode cX9_lends 39 = .ok (.iadd, 1) := by decide +kernel
theorem dX9_lends_40 : decode cX9_lends 40 = .ok (.iload_n 3, 1) := by decide +kernel
theorem dX9_lends_41 : decode cX9_lends 41 = .ok (.iastore, 1) := by decide +kernel
theorem dX9_lends_42 : decode cX9_lends 42 = .ok (.aload_n 0, 1) := by decide +kernel
theorem dX9_lends_43 : decode cX9_lends 43 = .ok (.getfield 19, 3) := by decide +kernel
theorem dX9_lends_46 : decode cX9_lends 46 = .ok (.iload 5, 2) := by decide +kernel
theorem dX9_lends_48 : decode cX9_lends 48 = .ok (.iconst 3, 1) := by decide +kernel
theorem dX9_lends_49 : decode cX9_lends 49 = .ok (.iadd, 1) := by decide +kernel
theorem dX9_lends_50 : decode cX9_lends 50 = .ok (.iload 4, 2) := by decide +kernel
theorem dX9_lends_52 : decode cX9_lends 52 = .ok (.iastore, 1) := by decide +kernel
theorem dX9_lends_53 : decode cX9_lends 53 = .ok (.aload_n 0, 1) := by decide +kernel
theorem dX9_lends_54 : decode cX9_lends 54 = .ok (.getfield 34, 3) := by decide +kernel
theorem dX9_lends_57 : decode cX9_lends 57 = .ok (.aload_n 0, 1) := by decide +kernel
theorem dX9_lends_58 : decode cX9_lends 58 = .ok (.getfield 19, 3) := by decide +kernel
theorem dX9_lends_61 : decode cX9_lends 61 = .ok (.bipush 12, 2) := by decide +kernel
theorem dX9_lends_63 : decode cX9_lends 63 = .ok (.iaload, 1) := by decide +kernel
theorem dX9_lends_64 : decode cX9_lends 64 = .ok (.bipush 8, 2) := by decide +kernel
theorem dX9_lends_66 : decode cX9_lends 66 = .ok (.iastore, 1) := by decide +kernel
theorem dX9_lends_67 : decode cX9_lends 67 = .ok (.aload_n 0, 1) := by decide +kernel
theorem dX9_lends_68 : decode cX9_lends 68 = .ok (.getfield 19, 3) := by decide +kernel
theorem dX9_lends_71 : decode cX9_lends 71 = .ok (.bipush 12, 2) := by decide +kernel
theorem dX9_lends_73 : decode cX9_lends 73 = .ok (.dup2, 1) := by decide +kernel
theorem dX9_lends_74 : decode cX9_lends 74 = .ok (.iaload, 1) := by decide +kernel
theorem dX9_lends_75 : decode cX9_lends 75 = .ok (.iconst 1, 1) := by decide +kernel
theorem dX9_lends_76 : decode cX9_lends 76 = .ok (.iadd, 1) := by decide +kernel
theorem dX9_lends_77 : decode cX9_lends 77 = .ok (.iastore, 1) := by decide +kernel
theorem dX9_lends_78 : decode cX9_lends 78 = .ok (.aload_n 0, 1) := by decide +kernel
theorem dX9_lends_79 : decode cX9_lends 79 = .ok (.getfield 19, 3) := by decide +kernel
theorem dX9_lends_82 : decode cX9_lends 82 = .ok (.iload_n 1, 1) := by decide +kernel
theorem dX9_lends_83 : decode cX9_lends 83 = .ok (.dup2, 1) := by decide +kernel
theorem dX9_lends_84 : decode cX9_lends 84 = .ok (.iaload, 1) := by decide +kernel
theorem dX9_lends_85 : decode cX9_lends 85 = .ok (.iload_n 3, 1) := by decide +kernel
theorem dX9_lends_86 : decode cX9_lends 86 = .ok (.isub, 1) := by decide +kernel
theorem dX9_lends_87 : decode cX9_lends 87 = .ok (.iastore, 1) := by decide +kernel
theorem dX9_lends_88 : decode cX9_lends 88 = .ok (.aload_n 0, 1) := by decide +kernel
theorem dX9_lends_89 : decode cX9_lends 89 = .ok (.getfield 19, 3) := by decide +kernel
theorem dX9_lends_92 : decode cX9_lends 92 = .ok (.iload_n 2, 1) := by decide +kernel
theorem dX9_lends_93 : decode cX9_lends 93 = .ok (.dup2, 1) := by decide +kernel
theorem dX9_lends_94 : decode cX9_lends 94 = .ok (.iaload, 1) := by decide +kernel
theorem dX9_lends_95 : decode cX9_lends 95 = .ok (.iload_n 3, 1) := by decide +kernel
theorem dX9_lends_96 : decode cX9_lends 96 = .ok (.iadd, 1) := by decide +kernel
theorem dX9_lends_97 : decode cX9_lends 97 = .ok (.iastore, 1) := by decide +kernel
theorem dX9_lends_98 : decode cX9_lends 98 = .ok (.return_, 1) := by decide +kernel
theorem dX9_lend_0 : decode cX9_lend 0 = .ok (.aload_n 0, 1) := by decide +kernel
theorem dX9_lend_1 : decode cX9_lend 1 = .ok (.iconst 0, 1) := by decide +kernel
theorem dX9_lend_2 : decode cX9_lend 2 = .ok (.putfield 68, 3) := by decide +kernel
theorem dX9_lend_5 : decode cX9_lend 5 = .ok (.aload_n 0, 1) := by decide +kernel
theorem dX9_lend_6 : decode cX9_lend 6 = .ok (.iload_n 1, 1) := by decide +kernel
theorem dX9_lend_7 : decode cX9_lend 7 = .ok (.iload_n 2, 1) := by decide +kernel
theorem dX9_lend_8 : decode cX9_lend 8 = .ok (.iload_n 3, 1) := by decide +kernel
theorem dX9_lend_9 : decode cX9_lend 9 = .ok (.iload 4, 2) := by decide +kernel
theorem dX9_lend_11 : decode cX9_lend 11 = .ok (.invokevirtual 120, 3) := by decide +kernel
theorem dX9_lend_14 : decode cX9_lend 14 = .ok (.ifCond .ne 5, 3) := by decide +kernel
theorem dX9_lend_17 : decode cX9_lend 17 = .ok (.iconst (-1), 1) := by decide +kernel
theorem dX9_lend_18 : decode cX9_lend 18 = .ok (.ireturn, 1) := by decide +kernel
theorem dX9_lend_19 : decode cX9_lend 19 = .ok (.aload_n 0, 1) := by decide +kernel
theorem dX9_lend_20 : decode cX9_lend 20 = .ok (.iload_n 1, 1) := by decide +kernel
theorem dX9_lend_21 : decode cX9_lend 21 = .ok (.iload_n 2, 1) := by decide +kernel
theorem dX9_lend_22 : decode cX9_lend 22 = .ok (.iload_n 3, 1) := by decide +kernel
theorem dX9_lend_23 : decode cX9_lend 23 = .ok (.iload 4, 2) := by decide +kernel
theorem dX9_lend_25 : decode cX9_lend 25 = .ok (.invokevirtual 124, 3) := by decide +kernel
theorem dX9_lend_28 : decode cX9_lend 28 = .ok (.ifCond .ne 6, 3) := by decide +kernel
theorem dX9_lend_31 : decode cX9_lend 31 = .ok (.bipush (-2), 2) := by decide +kernel
theorem dX9_lend_33 : decode cX9_lend 33 = .ok (.ireturn, 1) := by decide +kernel
theorem dX9_lend_34 : decode cX9_lend 34 = .ok (.aload_n 0, 1) := by decide +kernel
theorem dX9_lend_35 : decode cX9_lend 35 = .ok (.getfield 19, 3) := by decide +kernel
theorem dX9_lend_38 : decode cX9_lend 38 = .ok (.bipush 12, 2) := by decide +kernel
theorem dX9_lend_40 : decode cX9_lend 40 = .ok (.iaload, 1) := by decide +kernel
theorem dX9_lend_41 : decode cX9_lend 41 = .ok (.bipush 8, 2) := by decide +kernel
theorem dX9_lend_43 : decode cX9_lend 43 = .ok (.if_icmp .ne 6, 3) := by decide +kernel
theorem dX9_lend_46 : decode cX9_lend 46 = .ok (.bipush (-3), 2) := by decide +kernel
theorem dX9_lend_48 : decode cX9_lend 48 = .ok (.ireturn, 1) := by decide +kernel
theorem dX9_lend_49 : decode cX9_lend 49 = .ok (.aload_n 0, 1) := by decide +kernel
theorem dX9_lend_50 : decode cX9_lend 50 = .ok (.invokevirtual 127, 3) := by decide +kernel
theorem dX9_lend_53 : decode cX9_lend 53 = .ok (.aload_n 0, 1) := by decide +kernel
theorem dX9_lend_54 : decode cX9_lend 54 = .ok (.iload_n 1, 1) := by decide +kernel
theorem dX9_lend_55 : decode cX9_lend 55 = .ok (.iload_n 2, 1) := by decide +kernel
theorem dX9_lend_56 : decode cX9_lend 56 = .ok (.iload_n 3, 1) := by decide +kernel
theorem dX9_lend_57 : decode cX9_lend 57 = .ok (.iload 4, 2) := by decide +kernel
theorem dX9_lend_59 : decode cX9_lend 59 = .ok (.invokevirtual 130, 3) := by decide +kernel
theorem dX9_lend_62 : decode cX9_lend 62 = .ok (.aload_n 0, 1) := by decide +kernel
theorem dX9_lend_63 : decode cX9_lend 63 = .ok (.getfield 19, 3) := by decide +kernel
theorem dX9_lend_66 : decode cX9_lend 66 = .ok (.bipush 12, 2) := by decide +kernel
theorem dX9_lend_68 : decode cX9_lend 68 = .ok (.iaload, 1) := by decide +kernel
theorem dX9_lend_69 : decode cX9_lend 69 = .ok (.ireturn, 1) := by decide +kernel
theorem dX9_gives_0 : decode cX9_gives 0 = .ok (.iload_n 3, 1) := by decide +kernel
theorem dX9_gives_1 : decode cX9_gives 1 = .ok (.aload_n 0, 1) := by decide +kernel
theorem dX9_gives_2 : decode cX9_gives 2 = .ok (.getfield 19, 3) := by decide +kernel
theorem dX9_gives_5 : decode cX9_gives 5 = .ok (.iload_n 1, 1) := by decide +kernel
theorem dX9_gives_6 : decode cX9_gives 6 = .ok (.iaload, 1) := by decide +kernel
theorem dX9_gives_7 : decode cX9_gives 7 = .ok (.iconst 1, 1) := by decide +kernel
theorem dX9_gives_8 : decode cX9_gives 8 = .ok (.isub, 1) := by decide +kernel
theorem dX9_gives_9 : decode cX9_gives 9 = .ok (.invokestatic 134, 3) := by decide +kernel
theorem dX9_gives_12 : decode cX9_gives 12 = .ok (.istore 4, 2) := by decide +kernel
theorem dX9_gives_14 : decode cX9_gives 14 = .ok (.iload 4, 2) := by decide +kernel
theorem dX9_gives_16 : decode cX9_gives 16 = .ok (.ifCond .ge 7, 3) := by decide +kernel
theorem dX9_gives_19 : decode cX9_gives 19 = .ok (.iconst 0, 1) := by decide +kernel
theorem dX9_gives_20 : decode cX9_gives 20 = .ok (.goto 5, 3) := by decide +kernel
theorem dX9_gives_23 : decode cX9_gives 23 = .ok (.iload 4, 2) := by decide +kernel
theorem dX9_gives_25 : decode cX9_gives 25 = .ok (.istore 4, 2) := by decide +kernel
theorem dX9_gives_27 : decode cX9_gives 27 = .ok (.aload_n 0, 1) := by decide +kernel
theorem dX9_gives_28 : decode cX9_gives 28 = .ok (.getfield 19, 3) := by decide +kernel
theorem dX9_gives_31 : decode cX9_gives 31 = .ok (.iload_n 1, 1) := by decide +kernel
theorem dX9_gives_32 : decode cX9_gives 32 = .ok (.dup2, 1) := by decide +kernel
theorem dX9_gives_33 : decode cX9_gives 33 = .ok (.iaload, 1) := by decide +kernel
theorem dX9_gives_34 : decode cX9_gives 34 = .ok (.iload 4, 2) := by decide +kernel
theorem dX9_gives_36 : decode cX9_gives 36 = .ok (.isub, 1) := by decide +kernel
theorem dX9_gives_37 : decode cX9_gives 37 = .ok (.iastore, 1) := by decide +kernel
theorem dX9_gives_38 : decode cX9_gives 38 = .ok (.aload_n 0, 1) := by decide +kernel
theorem dX9_gives_39 : decode cX9_gives 39 = .ok (.getfield 19, 3) := by decide +kernel
theorem dX9_gives_42 : decode cX9_gives 42 = .ok (.iload_n 2, 1) := by decide +kernel
theorem dX9_gives_43 : decode cX9_gives 43 = .ok (.dup2, 1) := by decide +kernel
theorem dX9_gives_44 : decode cX9_gives 44 = .ok (.iaload, 1) := by decide +kernel
theorem dX9_gives_45 : decode cX9_gives 45 = .ok (.iload 4, 2) := by decide +kernel
theorem dX9_gives_47 : decode cX9_gives 47 = .ok (.iadd, 1) := by decide +kernel
theorem dX9_gives_48 : decode cX9_gives 48 = .ok (.iastore, 1) := by decide +kernel
theorem dX9_gives_49 : decode cX9_gives 49 = .ok (.iload 4, 2) := by decide +kernel
theorem dX9_gives_51 : decode cX9_gives 51 = .ok (.ireturn, 1) := by decide +kernel
theorem dX9_pays_0 : decode cX9_pays 0 = .ok (.aload_n 0, 1) := by decide +kernel
theorem dX9_pays_1 : decode cX9_pays 1 = .ok (.getfield 19, 3) := by decide +kernel
theorem dX9_pays_4 : decode cX9_pays 4 = .ok (.bipush 13, 2) := by decide +kernel
theorem dX9_pays_6 : decode cX9_pays 6 = .ok (.iconst 4, 1) := by decide +kernel
theorem dX9_pays_7 : decode cX9_pays 7 = .ok (.iload_n 1, 1) := by decide +kernel
theorem dX9_pays_8 : decode cX9_pays 8 = .ok (.imul, 1) := by decide +kernel
theorem dX9_pays_9 : decode cX9_pays 9 = .ok (.iadd, 1) := by decide +kernel
theorem dX9_pays_10 : decode cX9_pays 10 = .ok (.iaload, 1) := by decide +kernel
theorem dX9_pays_11 : decode cX9_pays 11 = .ok (.istore_n 2, 1) := by decide +kernel
theorem dX9_pays_12 : decode cX9_pays 12 = .ok (.aload_n 0, 1) := by decide +kernel
theorem dX9_pays_13 : decode cX9_pays 13 = .ok (.getfield 19, 3) := by decide +kernel
theorem dX9_pays_16 : decode cX9_pays 16 = .ok (.bipush 13, 2) := by decide +kernel
theorem dX9_pays_18 : decode cX9_pays 18 = .ok (.iconst 4, 1) := by decide +kernel
theorem dX9_pays_19 : decode cX9_pays 19 = .ok (.iload_n 1, 1) := by decide +kernel
theorem dX9_pays_20 : decode cX9_pays 20 = .ok (.imul, 1) := by decide +kernel
theorem dX9_pays_21 : decode cX9_pays 21 = .ok (.iadd, 1) := by decide +kernel
theorem dX9_pays_22 : decode cX9_pays 22 = .ok (.iconst 1, 1) := by decide +kernel
theorem dX9_pays_23 : decode cX9_pays 23 = .ok (.iadd, 1) := by decide +kernel
theorem dX9_pays_24 : decode cX9_pays 24 = .ok (.iaload, 1) := by decide +kernel
theorem dX9_pays_25 : decode cX9_pays 25 = .ok (.istore_n 3, 1) := by decide +kernel
theorem dX9_pays_26 : decode cX9_pays 26 = .ok (.aload_n 0, 1) := by decide +kernel
theorem dX9_pays_27 : decode cX9_pays 27 = .ok (.aload_n 0, 1) := by decide +kernel
theorem dX9_pays_28 : decode cX9_pays 28 = .ok (.getfield 19, 3) := by decide +kernel
theorem dX9_pays_31 : decode cX9_pays 31 = .ok (.bipush 13, 2) := by decide +kernel
theorem dX9_pays_33 : decode cX9_pays 33 = .ok (.iconst 4, 1) := by decide +kernel
theorem dX9_pays_34 : decode cX9_pays 34 = .ok (.iload_n 1, 1) := by decide +kernel
theorem dX9_pays_35 : decode cX9_pays 35 = .ok (.imul, 1) := by decide +kernel
theorem dX9_pays_36 : decode cX9_pays 36 = .ok (.iadd, 1) := by decide +kernel
theorem dX9_pays_37 : decode cX9_pays 37 = .ok (.iconst 2, 1) := by decide +kernel
theorem dX9_pays_38 : decode cX9_pays 38 = .ok (.iadd, 1) := by decide +kernel
theorem dX9_pays_39 : decode cX9_pays 39 = .ok (.iaload, 1) := by decide +kernel
theorem dX9_pays_40 : decode cX9_pays 40 = .ok (.invokevirtual 117, 3) := by decide +kernel
theorem dX9_pays_43 : decode cX9_pays 43 = .ok (.istore 4, 2) := by decide +kernel
theorem dX9_pays_45 : decode cX9_pays 45 = .ok (.aload_n 0, 1) := by decide +kernel
theorem dX9_pays_46 : decode cX9_pays 46 = .ok (.getfield 19, 3) := by decide +kernel
theorem dX9_pays_49 : decode cX9_pays 49 = .ok (.iload_n 2, 1) := by decide +kernel
theorem dX9_pays_50 : decode cX9_pays 50 = .ok (.iaload, 1) := by decide +kernel
theorem dX9_pays_51 : decode cX9_pays 51 = .ok (.ifCond .ne 4, 3) := by decide +kernel
theorem dX9_pays_54 : decode cX9_pays 54 = .ok (.return_, 1) := by decide +kernel
theorem dX9_pays_55 : decode cX9_pays 55 = .ok (.aload_n 0, 1) := by decide +kernel
theorem dX9_pays_56 : decode cX9_pays 56 = .ok (.getfield 101, 3) := by decide +kernel
theorem dX9_pays_59 : decode cX9_pays 59 = .ok (.iconst 1, 1) := by decide +kernel
theorem dX9_pays_60 : decode cX9_pays 60 = .ok (.if_icmp .ne 14, 3) := by decide +kernel
theorem dX9_pays_63 : decode cX9_pays 63 = .ok (.aload_n 0, 1) := by decide +kernel
theorem dX9_pays_64 : decode cX9_pays 64 = .ok (.getfield 19, 3) := by decide +kernel
theorem dX9_pays_67 : decode cX9_pays 67 = .ok (.iload_n 3, 1) := by decide +kernel
theorem dX9_pays_68 : decode cX9_pays 68 = .ok (.iaload, 1) := by decide +kernel
theorem dX9_pays_69 : decode cX9_pays 69 = .ok (.iload 4, 2) := by decide +kernel
theorem dX9_pays_71 : decode cX9_pays 71 = .ok (.if_icmp .le 14, 3) := by decide +kernel
theorem dX9_pays_74 : decode cX9_pays 74 = .ok (.aload_n 0, 1) := by decide +kernel
theorem dX9_pays_75 : decode cX9_pays 75 = .ok (.iload_n 3, 1) := by decide +kernel
theorem dX9_pays_76 : decode cX9_pays 76 = .ok (.iload_n 2, 1) := by decide +kernel
theorem dX9_pays_77 : decode cX9_pays 77 = .ok (.iload 4, 2) := by decide +kernel
theorem dX9_pays_79 : decode cX9_pays 79 = .ok (.invokevirtual 138, 3) := by decide +kernel
theorem dX9_pays_82 : decode cX9_pays 82 = .ok (.goto 4, 3) := by decide +kernel
theorem dX9_pays_85 : decode cX9_pays 85 = .ok (.iconst 0, 1) := by decide +kernel
theorem dX9_pays_86 : decode cX9_pays 86 = .ok (.istore 5, 2) := by decide +kernel
theorem dX9_pays_88 : decode cX9_pays 88 = .ok (.aload_n 0, 1) := by decide +kernel
theorem dX9_pays_89 : decode cX9_pays 89 = .ok (.getfield 101, 3) := by decide +kernel
theorem dX9_pays_92 : decode cX9_pays 92 = .ok (.iconst 3, 1) := by decide +kernel
theorem dX9_pays_93 : decode cX9_pays 93 = .ok (.if_icmp .ne 92, 3) := by decide +kernel
theorem dX9_pays_96 : decode cX9_pays 96 = .ok (.iload 5, 2) := by decide +kernel
theorem dX9_pays_98 : decode cX9_pays 98 = .ok (.iload 4, 2) := by decide +kernel
theorem dX9_pays_100 : decode cX9_pays 100 = .ok (.if_icmp .ge 85, 3) := by decide +kernel
theorem dX9_pays_103 : decode cX9_pays 103 = .ok (.bipush (-4), 2) := by decide +kernel
theorem dX9_pays_105 : decode cX9_pays 105 = .ok (.istore 6, 2) := by decide +kernel
theorem dX9_pays_107 : decode cX9_pays 107 = .ok (.aload_n 0, 1) := by decide +kernel
theorem dX9_pays_108 : decode cX9_pays 108 = .ok (.getfield 58, 3) := by decide +kernel
theorem dX9_pays_111 : decode cX9_pays 111 = .ok (.iconst 1, 1) := by decide +kernel
theorem dX9_pays_112 : decode cX9_pays 112 = .ok (.isub, 1) := by decide +kernel
theorem dX9_pays_113 : decode cX9_pays 113 = .ok (.istore 7, 2) := by decide +kernel
theorem dX9_pays_115 : decode cX9_pays 115 = .ok (.iload 7, 2) := by decide +kernel
theorem dX9_pays_117 : decode cX9_pays 117 = .ok (.ifCond .lt 40, 3) := by decide +kernel
theorem dX9_pays_120 : decode cX9_pays 120 = .ok (.iload 7, 2) := by decide +kernel
theorem dX9_pays_122 : decode cX9_pays 122 = .ok (.iload_n 2, 1) := by decide +kernel
theorem dX9_pays_123 : decode cX9_pays 123 = .ok (.if_icmp .eq 24, 3) := by decide +kernel
theorem dX9_pays_126 : decode cX9_pays 126 = .ok (.iload 7, 2) := by decide +kernel
theorem dX9_pays_128 : decode cX9_pays 128 = .ok (.iload_n 3, 1) := by decide +kernel
theorem dX9_pays_129 : decode cX9_pays 129 = .ok (.if_icmp .eq 18, 3) := by decide +kernel
theorem dX9_pays_132 : decode cX9_pays 132 = .ok (.aload_n 0, 1) := by decide +kernel
theorem dX9_pays_133 : decode cX9_pays 133 = .ok (.getfield 19, 3) := by decide +kernel
theorem dX9_pays_136 : decode cX9_pays 136 = .ok (.iload 7, 2) := by decide +kernel
theorem dX9_pays_138 : decode cX9_pays 138 = .ok (.iaload, 1) := by decide +kernel
theorem dX9_pays_139 : decode cX9_pays 139 = .ok (.ifCond .le 8, 3) := by decide +kernel
theorem dX9_pays_142 : decode cX9_pays 142 = .ok (.iload 7, 2) := by decide +kernel
theorem dX9_pays_144 : decode cX9_pays 144 = .ok (.goto 5, 3) := by decide +kernel
theorem dX9_pays_147 : decode cX9_pays 147 = .ok (.iload 6, 2) := by decide +kernel
theorem dX9_pays_149 : decode cX9_pays 149 = .ok (.istore 6, 2) := by decide +kernel
theorem dX9_pays_151 : decode cX9_pays 151 = .ok (.iinc 7 (-1), 3) := by decide +kernel
theorem dX9_pays_154 : decode cX9_pays 154 = .ok (.goto (-39), 3) := by decide +kernel
theorem dX9_pays_157 : decode cX9_pays 157 = .ok (.iload 5, 2) := by decide +kernel
theorem dX9_pays_159 : decode cX9_pays 159 = .ok (.iload 6, 2) := by decide +kernel
theorem dX9_pays_161 : decode cX9_pays 161 = .ok (.bipush (-4), 2) := by decide +kernel
theorem dX9_pays_163 : decode cX9_pays 163 = .ok (.if_icmp .ne 7, 3) := by decide +kernel
theorem dX9_pays_166 : decode cX9_pays 166 = .ok (.iconst 0, 1) := by decide +kernel
theorem dX9_pays_167 : decode cX9_pays 167 = .ok (.goto 15, 3) := by decide +kernel
theorem dX9_pays_170 : decode cX9_pays 170 = .ok (.aload_n 0, 1) := by decide +kernel
theorem dX9_pays_171 : decode cX9_pays 171 = .ok (.iload 6, 2) := by decide +kernel
theorem dX9_pays_173 : decode cX9_pays 173 = .ok (.iload_n 2, 1) := by decide +kernel
theorem dX9_pays_174 : decode cX9_pays 174 = .ok (.iload 4, 2) := by decide +kernel
theorem dX9_pays_176 : decode cX9_pays 176 = .ok (.iload 5, 2) := by decide +kernel
theorem dX9_pays_178 : decode cX9_pays 178 = .ok (.isub, 1) := by decide +kernel
theorem dX9_pays_179 : decode cX9_pays 179 = .ok (.invokevirtual 138, 3) := by decide +kernel
theorem dX9_pays_182 : decode cX9_pays 182 = .ok (.iadd, 1) := by decide +kernel
theorem dX9_pays_183 : decode cX9_pays 183 = .ok (.istore 5, 2) := by decide +kernel
theorem dX9_pays_185 : decode cX9_pays 185 = .ok (.aload_n 0, 1) := by decide +kernel
theorem dX9_pays_186 : decode cX9_pays 186 = .ok (.getfield 37, 3) := by decide +kernel
theorem dX9_pays_189 : decode cX9_pays 189 = .ok (.aload_n 0, 1) := by decide +kernel
theorem dX9_pays_190 : decode cX9_pays 190 = .ok (.getfield 34, 3) := by decide +kernel
theorem dX9_pays_193 : decode cX9_pays 193 = .ok (.iload_n 1, 1) := by decide +kernel
theorem dX9_pays_194 : decode cX9_pays 194 = .ok (.iaload, 1) := by decide +kernel
theorem dX9_pays_195 : decode cX9_pays 195 = .ok (.dup2, 1) := by decide +kernel
theorem dX9_pays_196 : decode cX9_pays 196 = .ok (.iaload, 1) := by decide +kernel
theorem dX9_pays_197 : decode cX9_pays 197 = .ok (.iload 5, 2) := by decide +kernel
theorem dX9_pays_199 : decode cX9_pays 199 = .ok (.iadd, 1) := by decide +kernel
theorem dX9_pays_200 : decode cX9_pays 200 = .ok (.iastore, 1) := by decide +kernel
theorem dX9_pays_201 : decode cX9_pays 201 = .ok (.aload_n 0, 1) := by decide +kernel
theorem dX9_pays_202 : decode cX9_pays 202 = .ok (.getfield 19, 3) := by decide +kernel
theorem dX9_pays_205 : decode cX9_pays 205 = .ok (.bipush 6, 2) := by decide +kernel
theorem dX9_pays_207 : decode cX9_pays 207 = .ok (.iload_n 2, 1) := by decide +kernel
theorem dX9_pays_208 : decode cX9_pays 208 = .ok (.iadd, 1) := by decide +kernel
theorem dX9_pays_209 : decode cX9_pays 209 = .ok (.dup2, 1) := by decide +kernel
theorem dX9_pays_210 : decode cX9_pays 210 = .ok (.iaload, 1) := by decide +kernel
theorem dX9_pays_211 : decode cX9_pays 211 = .ok (.iload 4, 2) := by decide +kernel
theorem dX9_pays_213 : decode cX9_pays 213 = .ok (.iload 5, 2) := by decide +kernel
theorem dX9_pays_215 : decode cX9_pays 215 = .ok (.isub, 1) := by decide +kernel
theorem dX9_pays_216 : decode cX9_pays 216 = .ok (.iadd, 1) := by decide +kernel
theorem dX9_pays_217 : decode cX9_pays 217 = .ok (.iastore, 1) := by decide +kernel
theorem dX9_pays_218 : decode cX9_pays 218 = .ok (.return_, 1) := by decide +kernel
theorem dX9_drops_0 : decode cX9_drops 0 = .ok (.aload_n 0, 1) := by decide +kernel
theorem dX9_drops_1 : decode cX9_drops 1 = .ok (.getfield 19, 3) := by decide +kernel
theorem dX9_drops_4 : decode cX9_drops 4 = .ok (.bipush 12, 2) := by decide +kernel
theorem dX9_drops_6 : decode cX9_drops 6 = .ok (.dup2, 1) := by decide +kernel
theorem dX9_drops_7 : decode cX9_drops 7 = .ok (.iaload, 1) := by decide +kernel
theorem dX9_drops_8 : decode cX9_drops 8 = .ok (.iconst 1, 1) := by decide +kernel
theorem dX9_drops_9 : decode cX9_drops 9 = .ok (.isub, 1) := by decide +kernel
theorem dX9_drops_10 : decode cX9_drops 10 = .ok (.iastore, 1) := by decide +kernel
theorem dX9_drops_11 : decode cX9_drops 11 = .ok (.iload_n 1, 1) := by decide +kernel
theorem dX9_drops_12 : decode cX9_drops 12 = .ok (.istore_n 2, 1) := by decide +kernel
theorem dX9_drops_13 : decode cX9_drops 13 = .ok (.iload_n 2, 1) := by decide +kernel
theorem dX9_drops_14 : decode cX9_drops 14 = .ok (.aload_n 0, 1) := by decide +kernel
theorem dX9_drops_15 : decode cX9_drops 15 = .ok (.getfield 19, 3) := by decide +kernel
theorem dX9_drops_18 : decode cX9_drops 18 = .ok (.bipush 12, 2) := by decide +kernel
theorem dX9_drops_20 : decode cX9_drops 20 = .ok (.iaload, 1) := by decide +kernel
theorem dX9_drops_21 : decode cX9_drops 21 = .ok (.if_icmp .ge 64, 3) := by decide +kernel
theorem dX9_drops_24 : decode cX9_drops 24 = .ok (.aload_n 0, 1) := by decide +kernel
theorem dX9_drops_25 : decode cX9_drops 25 = .ok (.getfield 34, 3) := by decide +kernel
theorem dX9_drops_28 : decode cX9_drops 28 = .ok (.iload_n 2, 1) := by decide +kernel
theorem dX9_drops_29 : decode cX9_drops 29 = .ok (.aload_n 0, 1) := by decide +kernel
theorem dX9_drops_30 : decode cX9_drops 30 = .ok (.getfield 34, 3) := by decide +kernel
theorem dX9_drops_33 : decode cX9_drops 33 = .ok (.iload_n 2, 1) := by decide +kernel
theorem dX9_drops_34 : decode cX9_drops 34 = .ok (.iconst 1, 1) := by decide +kernel
theorem dX9_drops_35 : decode cX9_drops 35 = .ok (.iadd, 1) := by decide +kernel
theorem dX9_drops_36 : decode cX9_drops 36 = .ok (.iaload, 1) := by decide +kernel
theorem dX9_drops_37 : decode cX9_drops 37 = .ok (.iastore, 1) := by decide +kernel
theorem dX9_drops_38 : decode cX9_drops 38 = .ok (.iconst 0, 1) := by decide +kernel
theorem dX9_drops_39 : decode cX9_drops 39 = .ok (.istore_n 3, 1) := by decide +kernel
theorem dX9_drops_40 : decode cX9_drops 40 = .ok (.iload_n 3, 1) := by decide +kernel
theorem dX9_drops_41 : decode cX9_drops 41 = .ok (.iconst 4, 1) := by decide +kernel
theorem dX9_drops_42 : decode cX9_drops 42 = .ok (.if_icmp .ge 37, 3) := by decide +kernel
theorem dX9_drops_45 : decode cX9_drops 45 = .ok (.aload_n 0, 1) := by decide +kernel
theorem dX9_drops_46 : decode cX9_drops 46 = .ok (.getfield 19, 3) := by decide +kernel
theorem dX9_drops_49 : decode cX9_drops 49 = .ok (.bipush 13, 2) := by decide +kernel
theorem dX9_drops_51 : decode cX9_drops 51 = .ok (.iconst 4, 1) := by decide +kernel
theorem dX9_drops_52 : decode cX9_drops 52 = .ok (.iload_n 2, 1) := by decide +kernel
theorem dX9_drops_53 : decode cX9_drops 53 = .ok (.imul, 1) := by decide +kernel
theorem dX9_drops_54 : decode cX9_drops 54 = .ok (.iadd, 1) := by decide +kernel
theorem dX9_drops_55 : decode cX9_drops 55 = .ok (.iload_n 3, 1) := by decide +kernel
theorem dX9_drops_56 : decode cX9_drops 56 = .ok (.iadd, 1) := by decide +kernel
theorem dX9_drops_57 : decode cX9_drops 57 = .ok (.aload_n 0, 1) := by decide +kernel
theorem dX9_drops_58 : decode cX9_drops 58 = .ok (.getfield 19, 3) := by decide +kernel
theorem dX9_drops_61 : decode cX9_drops 61 = .ok (.bipush 13, 2) := by decide +kernel
theorem dX9_drops_63 : decode cX9_drops 63 = .ok (.iconst 4, 1) := by decide +kernel
theorem dX9_drops_64 : decode cX9_drops 64 = .ok (.iload_n 2, 1) := by decide +kernel
theorem dX9_drops_65 : decode cX9_drops 65 = .ok (.imul, 1) := by decide +kernel
theorem dX9_drops_66 : decode cX9_drops 66 = .ok (.iadd, 1) := by decide +kernel
theorem dX9_drops_67 : decode cX9_drops 67 = .ok (.iconst 4, 1) := by decide +kernel
theorem dX9_drops_68 : decode cX9_drops 68 = .ok (.iadd, 1) := by decide +kernel
theorem dX9_drops_69 : decode cX9_drops 69 = .ok (.iload_n 3, 1) := by decide +kernel
theorem dX9_drops_70 : decode cX9_drops 70 = .ok (.iadd, 1) := by decide +kernel
theorem dX9_drops_71 : decode cX9_drops 71 = .ok (.iaload, 1) := by decide +kernel
theorem dX9_drops_72 : decode cX9_drops 72 = .ok (.iastore, 1) := by decide +kernel
theorem dX9_drops_73 : decode cX9_drops 73 = .ok (.iinc 3 1, 3) := by decide +kernel
theorem dX9_drops_76 : decode cX9_drops 76 = .ok (.goto (-36), 3) := by decide +kernel
theorem dX9_drops_79 : decode cX9_drops 79 = .ok (.iinc 2 1, 3) := by decide +kernel
theorem dX9_drops_82 : decode cX9_drops 82 = .ok (.goto (-69), 3) := by decide +kernel
theorem dX9_drops_85 : decode cX9_drops 85 = .ok (.iconst 0, 1) := by decide +kernel
theorem dX9_drops_86 : decode cX9_drops 86 = .ok (.istore_n 2, 1) := by decide +kernel
theorem dX9_drops_87 : decode cX9_drops 87 = .ok (.iload_n 2, 1) := by decide +kernel
theorem dX9_drops_88 : decode cX9_drops 88 = .ok (.iconst 4, 1) := by decide +kernel
theorem dX9_drops_89 : decode cX9_drops 89 = .ok (.if_icmp .ge 29, 3) := by decide +kernel
theorem dX9_drops_92 : decode cX9_drops 92 = .ok (.aload_n 0, 1) := by decide +kernel
theorem dX9_drops_93 : decode cX9_drops 93 = .ok (.getfield 19, 3) := by decide +kernel
theorem dX9_drops_96 : decode cX9_drops 96 = .ok (.bipush 13, 2) := by decide +kernel
theorem dX9_drops_98 : decode cX9_drops 98 = .ok (.iconst 4, 1) := by decide +kernel
theorem dX9_drops_99 : decode cX9_drops 99 = .ok (.aload_n 0, 1) := by decide +kernel
theorem dX9_drops_100 : decode cX9_drops 100 = .ok (.getfield 19, 3) := by decide +kernel
theorem dX9_drops_103 : decode cX9_drops 103 = .ok (.bipush 12, 2) := by decide +kernel
theorem dX9_drops_105 : decode cX9_drops 105 = .ok (.iaload, 1) := by decide +kernel
theorem dX9_drops_106 : decode cX9_drops 106 = .ok (.imul, 1) := by decide +kernel
theorem dX9_drops_107 : decode cX9_drops 107 = .ok (.iadd, 1) := by decide +kernel
theorem dX9_drops_108 : decode cX9_drops 108 = .ok (.iload_n 2, 1) := by decide +kernel
theorem dX9_drops_109 : decode cX9_drops 109 = .ok (.iadd, 1) := by decide +kernel
theorem dX9_drops_110 : decode cX9_drops 110 = .ok (.iconst 0, 1) := by decide +kernel
theorem dX9_drops_111 : decode cX9_drops 111 = .ok (.iastore, 1) := by decide +kernel
theorem dX9_drops_112 : decode cX9_drops 112 = .ok (.iinc 2 1, 3) := by decide +kernel
theorem dX9_drops_115 : decode cX9_drops 115 = .ok (.goto (-28), 3) := by decide +kernel
theorem dX9_drops_118 : decode cX9_drops 118 = .ok (.return_, 1) := by decide +kernel
theorem dX9_dueNow_0 : decode cX9_dueNow 0 = .ok (.bipush (-4), 2) := by decide +kernel
theorem dX9_dueNow_2 : decode cX9_dueNow 2 = .ok (.istore_n 2, 1) := by decide +kernel
theorem dX9_dueNow_3 : decode cX9_dueNow 3 = .ok (.aload_n 0, 1) := by decide +kernel
theorem dX9_dueNow_4 : decode cX9_dueNow 4 = .ok (.getfield 19, 3) := by decide +kernel
theorem dX9_dueNow_7 : decode cX9_dueNow 7 = .ok (.bipush 12, 2) := by decide +kernel
theorem dX9_dueNow_9 : decode cX9_dueNow 9 = .ok (.iaload, 1) := by decide +kernel
theorem dX9_dueNow_10 : decode cX9_dueNow 10 = .ok (.iconst 1, 1) := by decide +kernel
theorem dX9_dueNow_11 : decode cX9_dueNow 11 = .ok (.isub, 1) := by decide +kernel
theorem dX9_dueNow_12 : decode cX9_dueNow 12 = .ok (.istore_n 3, 1) := by decide +kernel
theorem dX9_dueNow_13 : decode cX9_dueNow 13 = .ok (.iload_n 3, 1) := by decide +kernel
theorem dX9_dueNow_14 : decode cX9_dueNow 14 = .ok (.ifCond .lt 94, 3) := by decide +kernel
theorem dX9_dueNow_17 : decode cX9_dueNow 17 = .ok (.aload_n 0, 1) := by decide +kernel
theorem dX9_dueNow_18 : decode cX9_dueNow 18 = .ok (.getfield 19, 3) := by decide +kernel
theorem dX9_dueNow_21 : decode cX9_dueNow 21 = .ok (.bipush 13, 2) := by decide +kernel
theorem dX9_dueNow_23 : decode cX9_dueNow 23 = .ok (.iconst 4, 1) := by decide +kernel
theorem dX9_dueNow_24 : decode cX9_dueNow 24 = .ok (.iload_n 3, 1) := by decide +kernel
theorem dX9_dueNow_25 : decode cX9_dueNow 25 = .ok (.imul, 1) := by decide +kernel
theorem dX9_dueNow_26 : decode cX9_dueNow 26 = .ok (.iadd, 1) := by decide +kernel
theorem dX9_dueNow_27 : decode cX9_dueNow 27 = .ok (.iconst 3, 1) := by decide +kernel
theorem dX9_dueNow_28 : decode cX9_dueNow 28 = .ok (.iadd, 1) := by decide +kernel
theorem dX9_dueNow_29 : decode cX9_dueNow 29 = .ok (.iaload, 1) := by decide +kernel
theorem dX9_dueNow_30 : decode cX9_dueNow 30 = .ok (.ifCond .ne 7, 3) := by decide +kernel
theorem dX9_dueNow_33 : decode cX9_dueNow 33 = .ok (.iconst 1, 1) := by decide +kernel
theorem dX9_dueNow_34 : decode cX9_dueNow 34 = .ok (.goto 4, 3) := by decide +kernel
theorem dX9_dueNow_37 : decode cX9_dueNow 37 = .ok (.iconst 0, 1) := by decide +kernel
theorem dX9_dueNow_38 : decode cX9_dueNow 38 = .ok (.istore 4, 2) := by decide +kernel
theorem dX9_dueNow_40 : decode cX9_dueNow 40 = .ok (.iload_n 2, 1) := by decide +kernel
theorem dX9_dueNow_41 : decode cX9_dueNow 41 = .ok (.bipush (-4), 2) := by decide +kernel
theorem dX9_dueNow_43 : decode cX9_dueNow 43 = .ok (.if_icmp .eq 36, 3) := by decide +kernel
theorem dX9_dueNow_46 : decode cX9_dueNow 46 = .ok (.iload_n 1, 1) := by decide +kernel
theorem dX9_dueNow_47 : decode cX9_dueNow 47 = .ok (.ifCond .eq 32, 3) := by decide +kernel
theorem dX9_dueNow_50 : decode cX9_dueNow 50 = .ok (.aload_n 0, 1) := by decide +kernel
theorem dX9_dueNow_51 : decode cX9_dueNow 51 = .ok (.getfield 19, 3) := by decide +kernel
theorem dX9_dueNow_54 : decode cX9_dueNow 54 = .ok (.bipush 13, 2) := by decide +kernel
theorem dX9_dueNow_56 : decode cX9_dueNow 56 = .ok (.iconst 4, 1) := by decide +kernel
theorem dX9_dueNow_57 : decode cX9_dueNow 57 = .ok (.iload_n 3, 1) := by decide +kernel
theorem dX9_dueNow_58 : decode cX9_dueNow 58 = .ok (.imul, 1) := by decide +kernel
theorem dX9_dueNow_59 : decode cX9_dueNow 59 = .ok (.iadd, 1) := by decide +kernel
theorem dX9_dueNow_60 : decode cX9_dueNow 60 = .ok (.iconst 2, 1) := by decide +kernel
theorem dX9_dueNow_61 : decode cX9_dueNow 61 = .ok (.iadd, 1) := by decide +kernel
theorem dX9_dueNow_62 : decode cX9_dueNow 62 = .ok (.iaload, 1) := by decide +kernel
theorem dX9_dueNow_63 : decode cX9_dueNow 63 = .ok (.aload_n 0, 1) := by decide +kernel
theorem dX9_dueNow_64 : decode cX9_dueNow 64 = .ok (.getfield 19, 3) := by decide +kernel
theorem dX9_dueNow_67 : decode cX9_dueNow 67 = .ok (.bipush 13, 2) := by decide +kernel
theorem dX9_dueNow_69 : decode cX9_dueNow 69 = .ok (.iconst 4, 1) := by decide +kernel
theorem dX9_dueNow_70 : decode cX9_dueNow 70 = .ok (.iload_n 2, 1) := by decide +kernel
theorem dX9_dueNow_71 : decode cX9_dueNow 71 = .ok (.imul, 1) := by decide +kernel
theorem dX9_dueNow_72 : decode cX9_dueNow 72 = .ok (.iadd, 1) := by decide +kernel
theorem dX9_dueNow_73 : decode cX9_dueNow 73 = .ok (.iconst 2, 1) := by decide +kernel
theorem dX9_dueNow_74 : decode cX9_dueNow 74 = .ok (.iadd, 1) := by decide +kernel
theorem dX9_dueNow_75 : decode cX9_dueNow 75 = .ok (.iaload, 1) := by decide +kernel
theorem dX9_dueNow_76 : decode cX9_dueNow 76 = .ok (.if_icmp .lt 7, 3) := by decide +kernel
theorem dX9_dueNow_79 : decode cX9_dueNow 79 = .ok (.iconst 1, 1) := by decide +kernel
theorem dX9_dueNow_80 : decode cX9_dueNow 80 = .ok (.goto 4, 3) := by decide +kernel
theorem dX9_dueNow_83 : decode cX9_dueNow 83 = .ok (.iconst 0, 1) := by decide +kernel
theorem dX9_dueNow_84 : decode cX9_dueNow 84 = .ok (.istore 5, 2) := by decide +kernel
theorem dX9_dueNow_86 : decode cX9_dueNow 86 = .ok (.iload 4, 2) := by decide +kernel
theorem dX9_dueNow_88 : decode cX9_dueNow 88 = .ok (.ifCond .eq 12, 3) := by decide +kernel
theorem dX9_dueNow_91 : decode cX9_dueNow 91 = .ok (.iload 5, 2) := by decide +kernel
theorem dX9_dueNow_93 : decode cX9_dueNow 93 = .ok (.ifCond .eq 7, 3) := by decide +kernel
theorem dX9_dueNow_96 : decode cX9_dueNow 96 = .ok (.iload_n 3, 1) := by decide +kernel
theorem dX9_dueNow_97 : decode cX9_dueNow 97 = .ok (.goto 4, 3) := by decide +kernel
theorem dX9_dueNow_100 : decode cX9_dueNow 100 = .ok (.iload_n 2, 1) := by decide +kernel
theorem dX9_dueNow_101 : decode cX9_dueNow 101 = .ok (.istore_n 2, 1) := by decide +kernel
theorem dX9_dueNow_102 : decode cX9_dueNow 102 = .ok (.iinc 3 (-1), 3) := by decide +kernel
theorem dX9_dueNow_105 : decode cX9_dueNow 105 = .ok (.goto (-92), 3) := by decide +kernel
theorem dX9_dueNow_108 : decode cX9_dueNow 108 = .ok (.iload_n 2, 1) := by decide +kernel
theorem dX9_dueNow_109 : decode cX9_dueNow 109 = .ok (.ireturn, 1) := by decide +kernel
theorem dX9_goes_0 : decode cX9_goes 0 = .ok (.iconst 0, 1) := by decide +kernel
theorem dX9_goes_1 : decode cX9_goes 1 = .ok (.istore_n 1, 1) := by decide +kernel
theorem dX9_goes_2 : decode cX9_goes 2 = .ok (.iload_n 1, 1) := by decide +kernel
theorem dX9_goes_3 : decode cX9_goes 3 = .ok (.aload_n 0, 1) := by decide +kernel
theorem dX9_goes_4 : decode cX9_goes 4 = .ok (.getfield 58, 3) := by decide +kernel
theorem dX9_goes_7 : decode cX9_goes 7 = .ok (.if_icmp .ge 32, 3) := by decide +kernel
theorem dX9_goes_10 : decode cX9_goes 10 = .ok (.aload_n 0, 1) := by decide +kernel
theorem dX9_goes_11 : decode cX9_goes 11 = .ok (.getfield 19, 3) := by decide +kernel
theorem dX9_goes_14 : decode cX9_goes 14 = .ok (.iload_n 1, 1) := by decide +kernel
theorem dX9_goes_15 : decode cX9_goes 15 = .ok (.dup2, 1) := by decide +kernel
theorem dX9_goes_16 : decode cX9_goes 16 = .ok (.iaload, 1) := by decide +kernel
theorem dX9_goes_17 : decode cX9_goes 17 = .ok (.aload_n 0, 1) := by decide +kernel
theorem dX9_goes_18 : decode cX9_goes 18 = .ok (.getfield 19, 3) := by decide +kernel
theorem dX9_goes_21 : decode cX9_goes 21 = .ok (.iload_n 1, 1) := by decide +kernel
theorem dX9_goes_22 : decode cX9_goes 22 = .ok (.iaload, 1) := by decide +kernel
theorem dX9_goes_23 : decode cX9_goes 23 = .ok (.ifCond .le 7, 3) := by decide +kernel
theorem dX9_goes_26 : decode cX9_goes 26 = .ok (.iconst 1, 1) := by decide +kernel
theorem dX9_goes_27 : decode cX9_goes 27 = .ok (.goto 4, 3) := by decide +kernel
theorem dX9_goes_30 : decode cX9_goes 30 = .ok (.iconst 0, 1) := by decide +kernel
theorem dX9_goes_31 : decode cX9_goes 31 = .ok (.isub, 1) := by decide +kernel
theorem dX9_goes_32 : decode cX9_goes 32 = .ok (.iastore, 1) := by decide +kernel
theorem dX9_goes_33 : decode cX9_goes 33 = .ok (.iinc 1 1, 3) := by decide +kernel
theorem dX9_goes_36 : decode cX9_goes 36 = .ok (.goto (-34), 3) := by decide +kernel
theorem dX9_goes_39 : decode cX9_goes 39 = .ok (.iconst 0, 1) := by decide +kernel
theorem dX9_goes_40 : decode cX9_goes 40 = .ok (.istore_n 1, 1) := by decide +kernel
theorem dX9_goes_41 : decode cX9_goes 41 = .ok (.iload_n 1, 1) := by decide +kernel
theorem dX9_goes_42 : decode cX9_goes 42 = .ok (.aload_n 0, 1) := by decide +kernel
theorem dX9_goes_43 : decode cX9_goes 43 = .ok (.getfield 19, 3) := by decide +kernel
theorem dX9_goes_46 : decode cX9_goes 46 = .ok (.bipush 12, 2) := by decide +kernel
theorem dX9_goes_48 : decode cX9_goes 48 = .ok (.iaload, 1) := by decide +kernel
theorem dX9_goes_49 : decode cX9_goes 49 = .ok (.if_icmp .ge 26, 3) := by decide +kernel
theorem dX9_goes_52 : decode cX9_goes 52 = .ok (.aload_n 0, 1) := by decide +kernel
theorem dX9_goes_53 : decode cX9_goes 53 = .ok (.getfield 19, 3) := by decide +kernel
theorem dX9_goes_56 : decode cX9_goes 56 = .ok (.bipush 13, 2) := by decide +kernel
theorem dX9_goes_58 : decode cX9_goes 58 = .ok (.iconst 4, 1) := by decide +kernel
theorem dX9_goes_59 : decode cX9_goes 59 = .ok (.iload_n 1, 1) := by decide +kernel
theorem dX9_goes_60 : decode cX9_goes 60 = .ok (.imul, 1) := by decide +kernel
theorem dX9_goes_61 : decode cX9_goes 61 = .ok (.iadd, 1) := by decide +kernel
theorem dX9_goes_62 : decode cX9_goes 62 = .ok (.iconst 3, 1) := by decide +kernel
theorem dX9_goes_63 : decode cX9_goes 63 = .ok (.iadd, 1) := by decide +kernel
theorem dX9_goes_64 : decode cX9_goes 64 = .ok (.dup2, 1) := by decide +kernel
theorem dX9_goes_65 : decode cX9_goes 65 = .ok (.iaload, 1) := by decide +kernel
theorem dX9_goes_66 : decode cX9_goes 66 = .ok (.iconst 1, 1) := by decide +kernel
theorem dX9_goes_67 : decode cX9_goes 67 = .ok (.isub, 1) := by decide +kernel
theorem dX9_goes_68 : decode cX9_goes 68 = .ok (.iastore, 1) := by decide +kernel
theorem dX9_goes_69 : decode cX9_goes 69 = .ok (.iinc 1 1, 3) := by decide +kernel
theorem dX9_goes_72 : decode cX9_goes 72 = .ok (.goto (-31), 3) := by decide +kernel
theorem dX9_goes_75 : decode cX9_goes 75 = .ok (.aload_n 0, 1) := by decide +kernel
theorem dX9_goes_76 : decode cX9_goes 76 = .ok (.aload_n 0, 1) := by decide +kernel
theorem dX9_goes_77 : decode cX9_goes 77 = .ok (.getfield 101, 3) := by decide +kernel
theorem dX9_goes_80 : decode cX9_goes 80 = .ok (.iconst 2, 1) := by decide +kernel
theorem dX9_goes_81 : decode cX9_goes 81 = .ok (.if_icmp .ne 7, 3) := by decide +kernel
theorem dX9_goes_84 : decode cX9_goes 84 = .ok (.iconst 1, 1) := by decide +kernel
theorem dX9_goes_85 : decode cX9_goes 85 = .ok (.goto 4, 3) := by decide +kernel
theorem dX9_goes_88 : decode cX9_goes 88 = .ok (.iconst 0, 1) := by decide +kernel
theorem dX9_goes_89 : decode cX9_goes 89 = .ok (.invokevirtual 142, 3) := by decide +kernel
theorem dX9_goes_92 : decode cX9_goes 92 = .ok (.istore_n 1, 1) := by decide +kernel
theorem dX9_goes_93 : decode cX9_goes 93 = .ok (.iload_n 1, 1) := by decide +kernel
theorem dX9_goes_94 : decode cX9_goes 94 = .ok (.bipush (-4), 2) := by decide +kernel
theorem dX9_goes_96 : decode cX9_goes 96 = .ok (.if_icmp .eq 22, 3) := by decide +kernel
theorem dX9_goes_99 : decode cX9_goes 99 = .ok (.aload_n 0, 1) := by decide +kernel
theorem dX9_goes_100 : decode cX9_goes 100 = .ok (.iload_n 1, 1) := by decide +kernel
theorem dX9_goes_101 : decode cX9_goes 101 = .ok (.invokevirtual 146, 3) := by decide +kernel
theorem dX9_goes_104 : decode cX9_goes 104 = .ok (.aload_n 0, 1) := by decide +kernel
theorem dX9_goes_105 : decode cX9_goes 105 = .ok (.iload_n 1, 1) := by decide +kernel
theorem dX9_goes_106 : decode cX9_goes 106 = .ok (.invokevirtual 150, 3) := by decide +kernel
theorem dX9_goes_109 : decode cX9_goes 109 = .ok (.aload_n 0, 1) := by decide +kernel
theorem dX9_goes_110 : decode cX9_goes 110 = .ok (.iconst 0, 1) := by decide +kernel
theorem dX9_goes_111 : decode cX9_goes 111 = .ok (.invokevirtual 142, 3) := by decide +kernel
theorem dX9_goes_114 : decode cX9_goes 114 = .ok (.istore_n 1, 1) := by decide +kernel
theorem dX9_goes_115 : decode cX9_goes 115 = .ok (.goto (-22), 3) := by decide +kernel
theorem dX9_goes_118 : decode cX9_goes 118 = .ok (.aload_n 0, 1) := by decide +kernel
theorem dX9_goes_119 : decode cX9_goes 119 = .ok (.getfield 19, 3) := by decide +kernel
theorem dX9_goes_122 : decode cX9_goes 122 = .ok (.bipush 45, 2) := by decide +kernel
theorem dX9_goes_124 : decode cX9_goes 124 = .ok (.dup2, 1) := by decide +kernel
theorem dX9_goes_125 : decode cX9_goes 125 = .ok (.iaload, 1) := by decide +kernel
theorem dX9_goes_126 : decode cX9_goes 126 = .ok (.iconst 1, 1) := by decide +kernel
theorem dX9_goes_127 : decode cX9_goes 127 = .ok (.iadd, 1) := by decide +kernel
theorem dX9_goes_128 : decode cX9_goes 128 = .ok (.iastore, 1) := by decide +kernel
theorem dX9_goes_129 : decode cX9_goes 129 = .ok (.return_, 1) := by decide +kernel
theorem dX9_living_0 : decode cX9_living 0 = .ok (.iconst 0, 1) := by decide +kernel
theorem dX9_living_1 : decode cX9_living 1 = .ok (.istore_n 1, 1) := by decide +kernel
theorem dX9_living_2 : decode cX9_living 2 = .ok (.iconst 0, 1) := by decide +kernel
theorem dX9_living_3 : decode cX9_living 3 = .ok (.istore_n 2, 1) := by decide +kernel
theorem dX9_living_4 : decode cX9_living 4 = .ok (.iload_n 2, 1) := by decide +kernel
theorem dX9_living_5 : decode cX9_living 5 = .ok (.aload_n 0, 1) := by decide +kernel
theorem dX9_living_6 : decode cX9_living 6 = .ok (.getfield 58, 3) := by decide +kernel
theorem dX9_living_9 : decode cX9_living 9 = .ok (.if_icmp .ge 26, 3) := by decide +kernel
theorem dX9_living_12 : decode cX9_living 12 = .ok (.iload_n 1, 1) := by decide +kernel
theorem dX9_living_13 : decode cX9_living 13 = .ok (.aload_n 0, 1) := by decide +kernel
theorem dX9_living_14 : decode cX9_living 14 = .ok (.getfield 19, 3) := by decide +kernel
theorem dX9_living_17 : decode cX9_living 17 = .ok (.iload_n 2, 1) := by decide +kernel
theorem dX9_living_18 : decode cX9_living 18 = .ok (.iaload, 1) := by decide +kernel
theorem dX9_living_19 : decode cX9_living 19 = .ok (.ifCond .le 7, 3) := by decide +kernel
theorem dX9_living_22 : decode cX9_living 22 = .ok (.iconst 1, 1) := by decide +kernel
theorem dX9_living_23 : decode cX9_living 23 = .ok (.goto 4, 3) := by decide +kernel
theorem dX9_living_26 : decode cX9_living 26 = .ok (.iconst 0, 1) := by decide +kernel
theorem dX9_living_27 : decode cX9_living 27 = .ok (.iadd, 1) := by decide +kernel
theorem dX9_living_28 : decode cX9_living 28 = .ok (.istore_n 1, 1) := by decide +kernel
theorem dX9_living_29 : decode cX9_living 29 = .ok (.iinc 2 1, 3) := by decide +kernel
theorem dX9_living_32 : decode cX9_living 32 = .ok (.goto (-28), 3) := by decide +kernel
theorem dX9_living_35 : decode cX9_living 35 = .ok (.iload_n 1, 1) := by decide +kernel
theorem dX9_living_36 : decode cX9_living 36 = .ok (.ireturn, 1) := by decide +kernel
theorem dX9_week_0 : decode cX9_week 0 = .ok (.aload_n 0, 1) := by decide +kernel
theorem dX9_week_1 : decode cX9_week 1 = .ok (.iconst 0, 1) := by decide +kernel
theorem dX9_week_2 : decode cX9_week 2 = .ok (.putfield 68, 3) := by decide +kernel
theorem dX9_week_5 : decode cX9_week 5 = .ok (.aload_n 0, 1) := by decide +kernel
theorem dX9_week_6 : decode cX9_week 6 = .ok (.invokevirtual 127, 3) := by decide +kernel
theorem dX9_week_9 : decode cX9_week 9 = .ok (.aload_n 0, 1) := by decide +kernel
theorem dX9_week_10 : decode cX9_week 10 = .ok (.invokevirtual 153, 3) := by decide +kernel
theorem dX9_week_13 : decode cX9_week 13 = .ok (.aload_n 0, 1) := by decide +kernel
theorem dX9_week_14 : decode cX9_week 14 = .ok (.invokevirtual 156, 3) := by decide +kernel
theorem dX9_week_17 : decode cX9_week 17 = .ok (.ireturn, 1) := by decide +kernel
theorem dX9_undo_0 : decode cX9_undo 0 = .ok (.aload_n 0, 1) := by decide +kernel
theorem dX9_undo_1 : decode cX9_undo 1 = .ok (.iconst 0, 1) := by decide +kernel
theorem dX9_undo_2 : decode cX9_undo 2 = .ok (.putfield 68, 3) := by decide +kernel
theorem dX9_undo_5 : decode cX9_undo 5 = .ok (.aload_n 0, 1) := by decide +kernel
theorem dX9_undo_6 : decode cX9_undo 6 = .ok (.getfield 92, 3) := by decide +kernel
theorem dX9_undo_9 : decode cX9_undo 9 = .ok (.ifCond .ne 6, 3) := by decide +kernel
theorem dX9_undo_12 : decode cX9_undo 12 = .ok (.bipush (-2), 2) := by decide +kernel
theorem dX9_undo_14 : decode cX9_undo 14 = .ok (.ireturn, 1) := by decide +kernel
theorem dX9_undo_15 : decode cX9_undo 15 = .ok (.aload_n 0, 1) := by decide +kernel
theorem dX9_undo_16 : decode cX9_undo 16 = .ok (.dup, 1) := by decide +kernel
theorem dX9_undo_17 : decode cX9_undo 17 = .ok (.getfield 92, 3) := by decide +kernel
theorem dX9_undo_20 : decode cX9_undo 20 = .ok (.iconst 1, 1) := by decide +kernel
theorem dX9_undo_21 : decode cX9_undo 21 = .ok (.isub, 1) := by decide +kernel
theorem dX9_undo_22 : decode cX9_undo 22 = .ok (.putfield 92, 3) := by decide +kernel
theorem dX9_undo_25 : decode cX9_undo 25 = .ok (.iconst 0, 1) := by decide +kernel
theorem dX9_undo_26 : decode cX9_undo 26 = .ok (.istore_n 1, 1) := by decide +kernel
theorem dX9_undo_27 : decode cX9_undo 27 = .ok (.iload_n 1, 1) := by decide +kernel
theorem dX9_undo_28 : decode cX9_undo 28 = .ok (.bipush 46, 2) := by decide +kernel
theorem dX9_undo_30 : decode cX9_undo 30 = .ok (.if_icmp .ge 29, 3) := by decide +kernel
theorem dX9_undo_33 : decode cX9_undo 33 = .ok (.aload_n 0, 1) := by decide +kernel
theorem dX9_undo_34 : decode cX9_undo 34 = .ok (.getfield 19, 3) := by decide +kernel
theorem dX9_undo_37 : decode cX9_undo 37 = .ok (.iload_n 1, 1) := by decide +kernel
theorem dX9_undo_38 : decode cX9_undo 38 = .ok (.aload_n 0, 1) := by decide +kernel
theorem dX9_undo_39 : decode cX9_undo 39 = .ok (.getfield 25, 3) := by decide +kernel
theorem dX9_undo_42 : decode cX9_undo 42 = .ok (.bipush 46, 2) := by decide +kernel
theorem dX9_undo_44 : decode cX9_undo 44 = .ok (.aload_n 0, 1) := by decide +kernel
theorem dX9_undo_45 : decode cX9_undo 45 = .ok (.getfield 92, 3) := by decide +kernel
theorem dX9_undo_48 : decode cX9_undo 48 = .ok (.imul, 1) := by decide +kernel
theorem dX9_undo_49 : decode cX9_undo 49 = .ok (.iload_n 1, 1) := by decide +kernel
theorem dX9_undo_50 : decode cX9_undo 50 = .ok (.iadd, 1) := by decide +kernel
theorem dX9_undo_51 : decode cX9_undo 51 = .ok (.iaload, 1) := by decide +kernel
theorem dX9_undo_52 : decode cX9_undo 52 = .ok (.iastore, 1) := by decide +kernel
theorem dX9_undo_53 : decode cX9_undo 53 = .ok (.iinc 1 1, 3) := by decide +kernel
theorem dX9_undo_56 : decode cX9_undo 56 = .ok (.goto (-29), 3) := by decide +kernel
theorem dX9_undo_59 : decode cX9_undo 59 = .ok (.aload_n 0, 1) := by decide +kernel
theorem dX9_undo_60 : decode cX9_undo 60 = .ok (.getfield 92, 3) := by decide +kernel
theorem dX9_undo_63 : decode cX9_undo 63 = .ok (.ireturn, 1) := by decide +kernel
theorem dX9_aside_0 : decode cX9_aside 0 = .ok (.iconst 0, 1) := by decide +kernel
theorem dX9_aside_1 : decode cX9_aside 1 = .ok (.istore_n 2, 1) := by decide +kernel
theorem dX9_aside_2 : decode cX9_aside 2 = .ok (.iload_n 2, 1) := by decide +kernel
theorem dX9_aside_3 : decode cX9_aside 3 = .ok (.bipush 46, 2) := by decide +kernel
theorem dX9_aside_5 : decode cX9_aside 5 = .ok (.if_icmp .ge 40, 3) := by decide +kernel
theorem dX9_aside_8 : decode cX9_aside 8 = .ok (.iload_n 1, 1) := by decide +kernel
theorem dX9_aside_9 : decode cX9_aside 9 = .ok (.ifCond .eq 18, 3) := by decide +kernel
theorem dX9_aside_12 : decode cX9_aside 12 = .ok (.aload_n 0, 1) := by decide +kernel
theorem dX9_aside_13 : decode cX9_aside 13 = .ok (.getfield 22, 3) := by decide +kernel
theorem dX9_aside_16 : decode cX9_aside 16 = .ok (.iload_n 2, 1) := by decide +kernel
theorem dX9_aside_17 : decode cX9_aside 17 = .ok (.aload_n 0, 1) := by decide +kernel
theorem dX9_aside_18 : decode cX9_aside 18 = .ok (.getfield 19, 3) := by decide +kernel
theorem dX9_aside_21 : decode cX9_aside 21 = .ok (.iload_n 2, 1) := by decide +kernel
theorem dX9_aside_22 : decode cX9_aside 22 = .ok (.iaload, 1) := by decide +kernel
theorem dX9_aside_23 : decode cX9_aside 23 = .ok (.iastore, 1) := by decide +kernel
theorem dX9_aside_24 : decode cX9_aside 24 = .ok (.goto 15, 3) := by decide +kernel
theorem dX9_aside_27 : decode cX9_aside 27 = .ok (.aload_n 0, 1) := by decide +kernel
theorem dX9_aside_28 : decode cX9_aside 28 = .ok (.getfield 19, 3) := by decide +kernel
theorem dX9_aside_31 : decode cX9_aside 31 = .ok (.iload_n 2, 1) := by decide +kernel
theorem dX9_aside_32 : decode cX9_aside 32 = .ok (.aload_n 0, 1) := by decide +kernel
theorem dX9_aside_33 : decode cX9_aside 33 = .ok (.getfield 22, 3) := by decide +kernel
theorem dX9_aside_36 : decode cX9_aside 36 = .ok (.iload_n 2, 1) := by decide +kernel
theorem dX9_aside_37 : decode cX9_aside 37 = .ok (.iaload, 1) := by decide +kernel
theorem dX9_aside_38 : decode cX9_aside 38 = .ok (.iastore, 1) := by decide +kernel
theorem dX9_aside_39 : decode cX9_aside 39 = .ok (.iinc 2 1, 3) := by decide +kernel
theorem dX9_aside_42 : decode cX9_aside 42 = .ok (.goto (-40), 3) := by decide +kernel
theorem dX9_aside_45 : decode cX9_aside 45 = .ok (.return_, 1) := by decide +kernel
theorem dX9_dies_0 : decode cX9_dies 0 = .ok (.aload_n 0, 1) := by decide +kernel
theorem dX9_dies_1 : decode cX9_dies 1 = .ok (.iconst 0, 1) := by decide +kernel
theorem dX9_dies_2 : decode cX9_dies 2 = .ok (.putfield 68, 3) := by decide +kernel
theorem dX9_dies_5 : decode cX9_dies 5 = .ok (.aload_n 0, 1) := by decide +kernel
theorem dX9_dies_6 : decode cX9_dies 6 = .ok (.iload_n 1, 1) := by decide +kernel
theorem dX9_dies_7 : decode cX9_dies 7 = .ok (.invokevirtual 107, 3) := by decide +kernel
theorem dX9_dies_10 : decode cX9_dies 10 = .ok (.ifCond .ne 5, 3) := by decide +kernel
theorem dX9_dies_13 : decode cX9_dies 13 = .ok (.iconst (-1), 1) := by decide +kernel
theorem dX9_dies_14 : decode cX9_dies 14 = .ok (.ireturn, 1) := by decide +kernel
theorem dX9_dies_15 : decode cX9_dies 15 = .ok (.aload_n 0, 1) := by decide +kernel
theorem dX9_dies_16 : decode cX9_dies 16 = .ok (.iconst 1, 1) := by decide +kernel
theorem dX9_dies_17 : decode cX9_dies 17 = .ok (.invokevirtual 159, 3) := by decide +kernel
theorem dX9_dies_20 : decode cX9_dies 20 = .ok (.iconst 0, 1) := by decide +kernel
theorem dX9_dies_21 : decode cX9_dies 21 = .ok (.istore_n 2, 1) := by decide +kernel
theorem dX9_dies_22 : decode cX9_dies 22 = .ok (.iload_n 2, 1) := by decide +kernel
theorem dX9_dies_23 : decode cX9_dies 23 = .ok (.sipush 2000, 3) := by decide +kernel
theorem dX9_dies_26 : decode cX9_dies 26 = .ok (.if_icmp .ge 22, 3) := by decide +kernel
theorem dX9_dies_29 : decode cX9_dies 29 = .ok (.aload_n 0, 1) := by decide +kernel
theorem dX9_dies_30 : decode cX9_dies 30 = .ok (.getfield 19, 3) := by decide +kernel
theorem dX9_dies_33 : decode cX9_dies 33 = .ok (.iload_n 1, 1) := by decide +kernel
theorem dX9_dies_34 : decode cX9_dies 34 = .ok (.iaload, 1) := by decide +kernel
theorem dX9_dies_35 : decode cX9_dies 35 = .ok (.ifCond .le 13, 3) := by decide +kernel
theorem dX9_dies_38 : decode cX9_dies 38 = .ok (.aload_n 0, 1) := by decide +kernel
theorem dX9_dies_39 : decode cX9_dies 39 = .ok (.invokevirtual 153, 3) := by decide +kernel
theorem dX9_dies_42 : decode cX9_dies 42 = .ok (.iinc 2 1, 3) := by decide +kernel
theorem dX9_dies_45 : decode cX9_dies 45 = .ok (.goto (-23), 3) := by decide +kernel
theorem dX9_dies_48 : decode cX9_dies 48 = .ok (.aload_n 0, 1) := by decide +kernel
theorem dX9_dies_49 : decode cX9_dies 49 = .ok (.getfield 19, 3) := by decide +kernel
theorem dX9_dies_52 : decode cX9_dies 52 = .ok (.iload_n 1, 1) := by decide +kernel
theorem dX9_dies_53 : decode cX9_dies 53 = .ok (.iaload, 1) := by decide +kernel
theorem dX9_dies_54 : decode cX9_dies 54 = .ok (.ifCond .le 8, 3) := by decide +kernel
theorem dX9_dies_57 : decode cX9_dies 57 = .ok (.bipush (-4), 2) := by decide +kernel
theorem dX9_dies_59 : decode cX9_dies 59 = .ok (.goto 4, 3) := by decide +kernel
theorem dX9_dies_62 : decode cX9_dies 62 = .ok (.iload_n 2, 1) := by decide +kernel
theorem dX9_dies_63 : decode cX9_dies 63 = .ok (.istore_n 2, 1) := by decide +kernel
theorem dX9_dies_64 : decode cX9_dies 64 = .ok (.aload_n 0, 1) := by decide +kernel
theorem dX9_dies_65 : decode cX9_dies 65 = .ok (.iconst 0, 1) := by decide +kernel
theorem dX9_dies_66 : decode cX9_dies 66 = .ok (.invokevirtual 159, 3) := by decide +kernel
theorem dX9_dies_69 : decode cX9_dies 69 = .ok (.iload_n 2, 1) := by decide +kernel
theorem dX9_dies_70 : decode cX9_dies 70 = .ok (.ireturn, 1) := by decide +kernel
theorem dX9_run_0 : decode cX9_run 0 = .ok (.aload_n 0, 1) := by decide +kernel
theorem dX9_run_1 : decode cX9_run 1 = .ok (.iconst 0, 1) := by decide +kernel
theorem dX9_run_2 : decode cX9_run 2 = .ok (.putfield 68, 3) := by decide +kernel
theorem dX9_run_5 : decode cX9_run 5 = .ok (.iload_n 1, 1) := by decide +kernel
theorem dX9_run_6 : decode cX9_run 6 = .ok (.iconst 0, 1) := by decide +kernel
theorem dX9_run_7 : decode cX9_run 7 = .ok (.sipush 2000, 3) := by decide +kernel
theorem dX9_run_10 : decode cX9_run 10 = .ok (.invokestatic 71, 3) := by decide +kernel
theorem dX9_run_13 : decode cX9_run 13 = .ok (.ifCond .eq 20, 3) := by decide +kernel
theorem dX9_run_16 : decode cX9_run 16 = .ok (.aload_n 0, 1) := by decide +kernel
theorem dX9_run_17 : decode cX9_run 17 = .ok (.iload_n 2, 1) := by decide +kernel
theorem dX9_run_18 : decode cX9_run 18 = .ok (.invokevirtual 107, 3) := by decide +kernel
theorem dX9_run_21 : decode cX9_run 21 = .ok (.ifCond .eq 12, 3) := by decide +kernel
theorem dX9_run_24 : decode cX9_run 24 = .ok (.iload_n 3, 1) := by decide +kernel
theorem dX9_run_25 : decode cX9_run 25 = .ok (.iconst 0, 1) := by decide +kernel
theorem dX9_run_26 : decode cX9_run 26 = .ok (.iconst 2, 1) := by decide +kernel
theorem dX9_run_27 : decode cX9_run 27 = .ok (.invokestatic 71, 3) := by decide +kernel
theorem dX9_run_30 : decode cX9_run 30 = .ok (.ifCond .ne 5, 3) := by decide +kernel
theorem dX9_run_33 : decode cX9_run 33 = .ok (.iconst (-1), 1) := by decide +kernel
theorem dX9_run_34 : decode cX9_run 34 = .ok (.ireturn, 1) := by decide +kernel
theorem dX9_run_35 : decode cX9_run 35 = .ok (.aload_n 0, 1) := by decide +kernel
theorem dX9_run_36 : decode cX9_run 36 = .ok (.iconst 1, 1) := by decide +kernel
theorem dX9_run_37 : decode cX9_run 37 = .ok (.invokevirtual 159, 3) := by decide +kernel
theorem dX9_run_40 : decode cX9_run 40 = .ok (.iconst 0, 1) := by decide +kernel
theorem dX9_run_41 : decode cX9_run 41 = .ok (.istore 4, 2) := by decide +kernel
theorem dX9_run_43 : decode cX9_run 43 = .ok (.iload 4, 2) := by decide +kernel
theorem dX9_run_45 : decode cX9_run 45 = .ok (.iload_n 1, 1) := by decide +kernel
theorem dX9_run_46 : decode cX9_run 46 = .ok (.if_icmp .ge 13, 3) := by decide +kernel
theorem dX9_run_49 : decode cX9_run 49 = .ok (.aload_n 0, 1) := by decide +kernel
theorem dX9_run_50 : decode cX9_run 50 = .ok (.invokevirtual 153, 3) := by decide +kernel
theorem dX9_run_53 : decode cX9_run 53 = .ok (.iinc 4 1, 3) := by decide +kernel
theorem dX9_run_56 : decode cX9_run 56 = .ok (.goto (-13), 3) := by decide +kernel
theorem dX9_run_59 : decode cX9_run 59 = .ok (.iload_n 3, 1) := by decide +kernel
theorem dX9_run_60 : decode cX9_run 60 = .ok (.ifCond .ne 12, 3) := by decide +kernel
theorem dX9_run_63 : decode cX9_run 63 = .ok (.aload_n 0, 1) := by decide +kernel
theorem dX9_run_64 : decode cX9_run 64 = .ok (.getfield 19, 3) := by decide +kernel
theorem dX9_run_67 : decode cX9_run 67 = .ok (.iload_n 2, 1) := by decide +kernel
theorem dX9_run_68 : decode cX9_run 68 = .ok (.iaload, 1) := by decide +kernel
theorem dX9_run_69 : decode cX9_run 69 = .ok (.goto 24, 3) := by decide +kernel
theorem dX9_run_72 : decode cX9_run 72 = .ok (.iload_n 3, 1) := by decide +kernel
theorem dX9_run_73 : decode cX9_run 73 = .ok (.iconst 1, 1) := by decide +kernel
theorem dX9_run_74 : decode cX9_run 74 = .ok (.if_icmp .ne 15, 3) := by decide +kernel
theorem dX9_run_77 : decode cX9_run 77 = .ok (.aload_n 0, 1) := by decide +kernel
theorem dX9_run_78 : decode cX9_run 78 = .ok (.getfield 19, 3) := by decide +kernel
theorem dX9_run_81 : decode cX9_run 81 = .ok (.bipush 6, 2) := by decide +kernel
theorem dX9_run_83 : decode cX9_run 83 = .ok (.iload_n 2, 1) := by decide +kernel
theorem dX9_run_84 : decode cX9_run 84 = .ok (.iadd, 1) := by decide +kernel
theorem dX9_run_85 : decode cX9_run 85 = .ok (.iaload, 1) := by decide +kernel
theorem dX9_run_86 : decode cX9_run 86 = .ok (.goto 7, 3) := by decide +kernel
theorem dX9_run_89 : decode cX9_run 89 = .ok (.aload_n 0, 1) := by decide +kernel
theorem dX9_run_90 : decode cX9_run 90 = .ok (.invokevirtual 156, 3) := by decide +kernel
theorem dX9_run_93 : decode cX9_run 93 = .ok (.istore 4, 2) := by decide +kernel
theorem dX9_run_95 : decode cX9_run 95 = .ok (.aload_n 0, 1) := by decide +kernel
theorem dX9_run_96 : decode cX9_run 96 = .ok (.iconst 0, 1) := by decide +kernel
theorem dX9_run_97 : decode cX9_run 97 = .ok (.invokevirtual 159, 3) := by decide +kernel
theorem dX9_run_100 : decode cX9_run 100 = .ok (.iload 4, 2) := by decide +kernel
theorem dX9_run_102 : decode cX9_run 102 = .ok (.ireturn, 1) := by decide +kernel
theorem dX9_tell_0 : decode cX9_tell 0 = .ok (.aload_n 0, 1) := by decide +kernel
theorem dX9_tell_1 : decode cX9_tell 1 = .ok (.iconst 0, 1) := by decide +kernel
theorem dX9_tell_2 : decode cX9_tell 2 = .ok (.putfield 68, 3) := by decide +kernel
theorem dX9_tell_5 : decode cX9_tell 5 = .ok (.aload_n 0, 1) := by decide +kernel
theorem dX9_tell_6 : decode cX9_tell 6 = .ok (.iload_n 1, 1) := by decide +kernel
theorem dX9_tell_7 : decode cX9_tell 7 = .ok (.invokevirtual 107, 3) := by decide +kernel
theorem dX9_tell_10 : decode cX9_tell 10 = .ok (.ifCond .eq 17, 3) := by decide +kernel
theorem dX9_tell_13 : decode cX9_tell 13 = .ok (.iload_n 2, 1) := by decide +kernel
theorem dX9_tell_14 : decode cX9_tell 14 = .ok (.invokestatic 114, 3) := by decide +kernel
theorem dX9_tell_17 : decode cX9_tell 17 = .ok (.ifCond .eq 10, 3) := by decide +kernel
theorem dX9_tell_20 : decode cX9_tell 20 = .ok (.iload_n 3, 1) := by decide +kernel
theorem dX9_tell_21 : decode cX9_tell 21 = .ok (.invokestatic 114, 3) := by decide +kernel
theorem dX9_tell_24 : decode cX9_tell 24 = .ok (.ifCond .ne 5, 3) := by decide +kernel
theorem dX9_tell_27 : decode cX9_tell 27 = .ok (.iconst (-1), 1) := by decide +kernel
theorem dX9_tell_28 : decode cX9_tell 28 = .ok (.ireturn, 1) := by decide +kernel
theorem dX9_tell_29 : decode cX9_tell 29 = .ok (.aload_n 0, 1) := by decide +kernel
theorem dX9_tell_30 : decode cX9_tell 30 = .ok (.getfield 98, 3) := by decide +kernel
theorem dX9_tell_33 : decode cX9_tell 33 = .ok (.bipush 12, 2) := by decide +kernel
theorem dX9_tell_35 : decode cX9_tell 35 = .ok (.if_icmp .ne 6, 3) := by decide +kernel
theorem dX9_tell_38 : decode cX9_tell 38 = .ok (.bipush (-3), 2) := by decide +kernel
theorem dX9_tell_40 : decode cX9_tell 40 = .ok (.ireturn, 1) := by decide +kernel
theorem dX9_tell_41 : decode cX9_tell 41 = .ok (.aload_n 0, 1) := by decide +kernel
theorem dX9_tell_42 : decode cX9_tell 42 = .ok (.getfield 31, 3) := by decide +kernel
theorem dX9_tell_45 : decode cX9_tell 45 = .ok (.iconst 4, 1) := by decide +kernel
theorem dX9_tell_46 : decode cX9_tell 46 = .ok (.aload_n 0, 1) := by decide +kernel
theorem dX9_tell_47 : decode cX9_tell 47 = .ok (.getfield 98, 3) := by decide +kernel
theorem dX9_tell_50 : decode cX9_tell 50 = .ok (.imul, 1) := by decide +kernel
theorem dX9_tell_51 : decode cX9_tell 51 = .ok (.iload_n 1, 1) := by decide +kernel
theorem dX9_tell_52 : decode cX9_tell 52 = .ok (.iastore, 1) := by decide +kernel
theorem dX9_tell_53 : decode cX9_tell 53 = .ok (.aload_n 0, 1) := by decide +kernel
theorem dX9_tell_54 : decode cX9_tell 54 = .ok (.getfield 31, 3) := by decide +kernel
theorem dX9_tell_57 : decode cX9_tell 57 = .ok (.iconst 4, 1) := by decide +kernel
theorem dX9_tell_58 : decode cX9_tell 58 = .ok (.aload_n 0, 1) := by decide +kernel
theorem dX9_tell_59 : decode cX9_tell 59 = .ok (.getfield 98, 3) := by decide +kernel
theorem dX9_tell_62 : decode cX9_tell 62 = .ok (.imul, 1) := by decide +kernel
theorem dX9_tell_63 : decode cX9_tell 63 = .ok (.iconst 1, 1) := by decide +kernel
theorem dX9_tell_64 : decode cX9_tell 64 = .ok (.iadd, 1) := by decide +kernel
theorem dX9_tell_65 : decode cX9_tell 65 = .ok (.iload_n 2, 1) := by decide +kernel
theorem dX9_tell_66 : decode cX9_tell 66 = .ok (.iastore, 1) := by decide +kernel
theorem dX9_tell_67 : decode cX9_tell 67 = .ok (.aload_n 0, 1) := by decide +kernel
theorem dX9_tell_68 : decode cX9_tell 68 = .ok (.getfield 31, 3) := by decide +kernel
theorem dX9_tell_71 : decode cX9_tell 71 = .ok (.iconst 4, 1) := by decide +kernel
theorem dX9_tell_72 : decode cX9_tell 72 = .ok (.aload_n 0, 1) := by decide +kernel
theorem dX9_tell_73 : decode cX9_tell 73 = .ok (.getfield 98, 3) := by decide +kernel
theorem dX9_tell_76 : decode cX9_tell 76 = .ok (.imul, 1) := by decide +kernel
theorem dX9_tell_77 : decode cX9_tell 77 = .ok (.iconst 2, 1) := by decide +kernel
theorem dX9_tell_78 : decode cX9_tell 78 = .ok (.iadd, 1) := by decide +kernel
theorem dX9_tell_79 : decode cX9_tell 79 = .ok (.iload_n 3, 1) := by decide +kernel
theorem dX9_tell_80 : decode cX9_tell 80 = .ok (.iastore, 1) := by decide +kernel
theorem dX9_tell_81 : decode cX9_tell 81 = .ok (.aload_n 0, 1) := by decide +kernel
theorem dX9_tell_82 : decode cX9_tell 82 = .ok (.getfield 31, 3) := by decide +kernel
theorem dX9_tell_85 : decode cX9_tell 85 = .ok (.iconst 4, 1) := by decide +kernel
theorem dX9_tell_86 : decode cX9_tell 86 = .ok (.aload_n 0, 1) := by decide +kernel
theorem dX9_tell_87 : decode cX9_tell 87 = .ok (.getfield 98, 3) := by decide +kernel
theorem dX9_tell_90 : decode cX9_tell 90 = .ok (.imul, 1) := by decide +kernel
theorem dX9_tell_91 : decode cX9_tell 91 = .ok (.iconst 3, 1) := by decide +kernel
theorem dX9_tell_92 : decode cX9_tell 92 = .ok (.iadd, 1) := by decide +kernel
theorem dX9_tell_93 : decode cX9_tell 93 = .ok (.iload 4, 2) := by decide +kernel
theorem dX9_tell_95 : decode cX9_tell 95 = .ok (.ifCond .eq 7, 3) := by decide +kernel
theorem dX9_tell_98 : decode cX9_tell 98 = .ok (.iconst 1, 1) := by decide +kernel
theorem dX9_tell_99 : decode cX9_tell 99 = .ok (.goto 4, 3) := by decide +kernel
theorem dX9_tell_102 : decode cX9_tell 102 = .ok (.iconst 0, 1) := by decide +kernel
theorem dX9_tell_103 : decode cX9_tell 103 = .ok (.iastore, 1) := by decide +kernel
theorem dX9_tell_104 : decode cX9_tell 104 = .ok (.aload_n 0, 1) := by decide +kernel
theorem dX9_tell_105 : decode cX9_tell 105 = .ok (.dup, 1) := by decide +kernel
theorem dX9_tell_106 : decode cX9_tell 106 = .ok (.getfield 98, 3) := by decide +kernel
theorem dX9_tell_109 : decode cX9_tell 109 = .ok (.iconst 1, 1) := by decide +kernel
theorem dX9_tell_110 : decode cX9_tell 110 = .ok (.iadd, 1) := by decide +kernel
theorem dX9_tell_111 : decode cX9_tell 111 = .ok (.putfield 98, 3) := by decide +kernel
theorem dX9_tell_114 : decode cX9_tell 114 = .ok (.aload_n 0, 1) := by decide +kernel
theorem dX9_tell_115 : decode cX9_tell 115 = .ok (.getfield 98, 3) := by decide +kernel
theorem dX9_tell_118 : decode cX9_tell 118 = .ok (.ireturn, 1) := by decide +kernel
theorem dX9_forget_0 : decode cX9_forget 0 = .ok (.aload_n 0, 1) := by decide +kernel
theorem dX9_forget_1 : decode cX9_forget 1 = .ok (.iconst 0, 1) := by decide +kernel
theorem dX9_forget_2 : decode cX9_forget 2 = .ok (.putfield 68, 3) := by decide +kernel
theorem dX9_forget_5 : decode cX9_forget 5 = .ok (.aload_n 0, 1) := by decide +kernel
theorem dX9_forget_6 : decode cX9_forget 6 = .ok (.getfield 98, 3) := by decide +kernel
theorem dX9_forget_9 : decode cX9_forget 9 = .ok (.istore_n 1, 1) := by decide +kernel
theorem dX9_forget_10 : decode cX9_forget 10 = .ok (.aload_n 0, 1) := by decide +kernel
theorem dX9_forget_11 : decode cX9_forget 11 = .ok (.iconst 0, 1) := by decide +kernel
theorem dX9_forget_12 : decode cX9_forget 12 = .ok (.putfield 98, 3) := by decide +kernel
theorem dX9_forget_15 : decode cX9_forget 15 = .ok (.iload_n 1, 1) := by decide +kernel
theorem dX9_forget_16 : decode cX9_forget 16 = .ok (.ireturn, 1) := by decide +kernel
theorem dX9_isSo_0 : decode cX9_isSo 0 = .ok (.aload_n 0, 1) := by decide +kernel
theorem dX9_isSo_1 : decode cX9_isSo 1 = .ok (.getfield 31, 3) := by decide +kernel
theorem dX9_isSo_4 : decode cX9_isSo 4 = .ok (.iconst 4, 1) := by decide +kernel
theorem dX9_isSo_5 : decode cX9_isSo 5 = .ok (.iload_n 1, 1) := by decide +kernel
theorem dX9_isSo_6 : decode cX9_isSo 6 = .ok (.imul, 1) := by decide +kernel
theorem dX9_isSo_7 : decode cX9_isSo 7 = .ok (.iconst 2, 1) := by decide +kernel
theorem dX9_isSo_8 : decode cX9_isSo 8 = .ok (.iadd, 1) := by decide +kernel
theorem dX9_isSo_9 : decode cX9_isSo 9 = .ok (.iaload, 1) := by decide +kernel
theorem dX9_isSo_10 : decode cX9_isSo 10 = .ok (.aload_n 0, 1) := by decide +kernel
theorem dX9_isSo_11 : decode cX9_isSo 11 = .ok (.getfield 31, 3) := by decide +kernel
theorem dX9_isSo_14 : decode cX9_isSo 14 = .ok (.iconst 4, 1) := by decide +kernel
theorem dX9_isSo_15 : decode cX9_isSo 15 = .ok (.iload_n 1, 1) := by decide +kernel
theorem dX9_isSo_16 : decode cX9_isSo 16 = .ok (.imul, 1) := by decide +kernel
theorem dX9_isSo_17 : decode cX9_isSo 17 = .ok (.iconst 1, 1) := by decide +kernel
theorem dX9_isSo_18 : decode cX9_isSo 18 = .ok (.iadd, 1) := by decide +kernel
theorem dX9_isSo_19 : decode cX9_isSo 19 = .ok (.iaload, 1) := by decide +kernel
theorem dX9_isSo_20 : decode cX9_isSo 20 = .ok (.aload_n 0, 1) := by decide +kernel
theorem dX9_isSo_21 : decode cX9_isSo 21 = .ok (.getfield 62, 3) := by decide +kernel
theorem dX9_isSo_24 : decode cX9_isSo 24 = .ok (.imul, 1) := by decide +kernel
theorem dX9_isSo_25 : decode cX9_isSo 25 = .ok (.bipush 100, 2) := by decide +kernel
theorem dX9_isSo_27 : decode cX9_isSo 27 = .ok (.idiv, 1) := by decide +kernel
theorem dX9_isSo_28 : decode cX9_isSo 28 = .ok (.iadd, 1) := by decide +kernel
theorem dX9_isSo_29 : decode cX9_isSo 29 = .ok (.istore_n 3, 1) := by decide +kernel
theorem dX9_isSo_30 : decode cX9_isSo 30 = .ok (.iload_n 2, 1) := by decide +kernel
theorem dX9_isSo_31 : decode cX9_isSo 31 = .ok (.iload_n 3, 1) := by decide +kernel
theorem dX9_isSo_32 : decode cX9_isSo 32 = .ok (.if_icmp .le 7, 3) := by decide +kernel
theorem dX9_isSo_35 : decode cX9_isSo 35 = .ok (.iconst 1, 1) := by decide +kernel
theorem dX9_isSo_36 : decode cX9_isSo 36 = .ok (.goto 4, 3) := by decide +kernel
theorem dX9_isSo_39 : decode cX9_isSo 39 = .ok (.iconst 0, 1) := by decide +kernel
theorem dX9_isSo_40 : decode cX9_isSo 40 = .ok (.aload_n 0, 1) := by decide +kernel
theorem dX9_isSo_41 : decode cX9_isSo 41 = .ok (.getfield 31, 3) := by decide +kernel
theorem dX9_isSo_44 : decode cX9_isSo 44 = .ok (.iconst 4, 1) := by decide +kernel
theorem dX9_isSo_45 : decode cX9_isSo 45 = .ok (.iload_n 1, 1) := by decide +kernel
theorem dX9_isSo_46 : decode cX9_isSo 46 = .ok (.imul, 1) := by decide +kernel
theorem dX9_isSo_47 : decode cX9_isSo 47 = .ok (.iconst 3, 1) := by decide +kernel
theorem dX9_isSo_48 : decode cX9_isSo 48 = .ok (.iadd, 1) := by decide +kernel
theorem dX9_isSo_49 : decode cX9_isSo 49 = .ok (.iaload, 1) := by decide +kernel
theorem dX9_isSo_50 : decode cX9_isSo 50 = .ok (.iconst 1, 1) := by decide +kernel
theorem dX9_isSo_51 : decode cX9_isSo 51 = .ok (.if_icmp .ne 7, 3) := by decide +kernel
theorem dX9_isSo_54 : decode cX9_isSo 54 = .ok (.iconst 1, 1) := by decide +kernel
theorem dX9_isSo_55 : decode cX9_isSo 55 = .ok (.goto 4, 3) := by decide +kernel
theorem dX9_isSo_58 : decode cX9_isSo 58 = .ok (.iconst 0, 1) := by decide +kernel
theorem dX9_isSo_59 : decode cX9_isSo 59 = .ok (.if_icmp .ne 7, 3) := by decide +kernel
theorem dX9_isSo_62 : decode cX9_isSo 62 = .ok (.iconst 1, 1) := by decide +kernel
theorem dX9_isSo_63 : decode cX9_isSo 63 = .ok (.goto 4, 3) := by decide +kernel
theorem dX9_isSo_66 : decode cX9_isSo 66 = .ok (.iconst 0, 1) := by decide +kernel
theorem dX9_isSo_67 : decode cX9_isSo 67 = .ok (.ireturn, 1) := by decide +kernel
theorem dX9_spans_0 : decode cX9_spans 0 = .ok (.aload_n 0, 1) := by decide +kernel
theorem dX9_spans_1 : decode cX9_spans 1 = .ok (.bipush (-4), 2) := by decide +kernel
theorem dX9_spans_3 : decode cX9_spans 3 = .ok (.putfield 163, 3) := by decide +kernel
theorem dX9_spans_6 : decode cX9_spans 6 = .ok (.aload_n 0, 1) := by decide +kernel
theorem dX9_spans_7 : decode cX9_spans 7 = .ok (.bipush (-4), 2) := by decide +kernel
theorem dX9_spans_9 : decode cX9_spans 9 = .ok (.putfield 166, 3) := by decide +kernel
theorem dX9_spans_12 : decode cX9_spans 12 = .ok (.iconst 1, 1) := by decide +kernel
theorem dX9_spans_13 : decode cX9_spans 13 = .ok (.istore_n 2, 1) := by decide +kernel
theorem dX9_spans_14 : decode cX9_spans 14 = .ok (.iload_n 2, 1) := by decide +kernel
theorem dX9_spans_15 : decode cX9_spans 15 = .ok (.sipush 1000, 3) := by decide +kernel
theorem dX9_spans_18 : decode cX9_spans 18 = .ok (.if_icmp .ge 103, 3) := by decide +kernel
theorem dX9_spans_21 : decode cX9_spans 21 = .ok (.iconst 1, 1) := by decide +kernel
theorem dX9_spans_22 : decode cX9_spans 22 = .ok (.istore_n 3, 1) := by decide +kernel
theorem dX9_spans_23 : decode cX9_spans 23 = .ok (.iconst 0, 1) := by decide +kernel
theorem dX9_spans_24 : decode cX9_spans 24 = .ok (.istore 4, 2) := by decide +kernel
theorem dX9_spans_26 : decode cX9_spans 26 = .ok (.iload 4, 2) := by decide +kernel
theorem dX9_spans_28 : decode cX9_spans 28 = .ok (.aload_n 0, 1) := by decide +kernel
theorem dX9_spans_29 : decode cX9_spans 29 = .ok (.getfield 98, 3) := by decide +kernel
theorem dX9_spans_32 : decode cX9_spans 32 = .ok (.if_icmp .ge 42, 3) := by decide +kernel
theorem dX9_spans_35 : decode cX9_spans 35 = .ok (.iload_n 3, 1) := by decide +kernel
theorem dX9_spans_36 : decode cX9_spans 36 = .ok (.ifCond .eq 30, 3) := by decide +kernel
theorem dX9_spans_39 : decode cX9_spans 39 = .ok (.aload_n 0, 1) := by decide +kernel
theorem dX9_spans_40 : decode cX9_spans 40 = .ok (.getfield 31, 3) := by decide +kernel
theorem dX9_spans_43 : decode cX9_spans 43 = .ok (.iconst 4, 1) := by decide +kernel
theorem dX9_spans_44 : decode cX9_spans 44 = .ok (.iload 4, 2) := by decide +kernel
theorem dX9_spans_46 : decode cX9_spans 46 = .ok (.imul, 1) := by decide +kernel
theorem dX9_spans_47 : decode cX9_spans 47 = .ok (.iaload, 1) := by decide +kernel
theorem dX9_spans_48 : decode cX9_spans 48 = .ok (.iload_n 1, 1) := by decide +kernel
theorem dX9_spans_49 : decode cX9_spans 49 = .ok (.if_icmp .ne 13, 3) := by decide +kernel
theorem dX9_spans_52 : decode cX9_spans 52 = .ok (.aload_n 0, 1) := by decide +kernel
theorem dX9_spans_53 : decode cX9_spans 53 = .ok (.iload 4, 2) := by decide +kernel
theorem dX9_spans_55 : decode cX9_spans 55 = .ok (.iload_n 2, 1) := by decide +kernel
theorem dX9_spans_56 : decode cX9_spans 56 = .ok (.invokevirtual 169, 3) := by decide +kernel
theorem dX9_spans_59 : decode cX9_spans 59 = .ok (.ifCond .eq 7, 3) := by decide +kernel
theorem dX9_spans_62 : decode cX9_spans 62 = .ok (.iconst 1, 1) := by decide +kernel
theorem dX9_spans_63 : decode cX9_spans 63 = .ok (.goto 4, 3) := by decide +kernel
theorem dX9_spans_66 : decode cX9_spans 66 = .ok (.iconst 0, 1) := by decide +kernel
theorem dX9_spans_67 : decode cX9_spans 67 = .ok (.istore_n 3, 1) := by decide +kernel
theorem dX9_spans_68 : decode cX9_spans 68 = .ok (.iinc 4 1, 3) := by decide +kernel
theorem dX9_spans_71 : decode cX9_spans 71 = .ok (.goto (-45), 3) := by decide +kernel
theorem dX9_spans_74 : decode cX9_spans 74 = .ok (.aload_n 0, 1) := by decide +kernel
theorem dX9_spans_75 : decode cX9_spans 75 = .ok (.iload_n 3, 1) := by decide +kernel
theorem dX9_spans_76 : decode cX9_spans 76 = .ok (.ifCond .eq 16, 3) := by decide +kernel
theorem dX9_spans_79 : decode cX9_spans 79 = .ok (.aload_n 0, 1) := by decide +kernel
theorem dX9_spans_80 : decode cX9_spans 80 = .ok (.getfield 163, 3) := by decide +kernel
theorem dX9_spans_83 : decode cX9_spans 83 = .ok (.bipush (-4), 2) := by decide +kernel
theorem dX9_spans_85 : decode cX9_spans 85 = .ok (.if_icmp .ne 7, 3) := by decide +kernel
theorem dX9_spans_88 : decode cX9_spans 88 = .ok (.iload_n 2, 1) := by decide +kernel
theorem dX9_spans_89 : decode cX9_spans 89 = .ok (.goto 7, 3) := by decide +kernel
theorem dX9_spans_92 : decode cX9_spans 92 = .ok (.aload_n 0, 1) := by decide +kernel
theorem dX9_spans_93 : decode cX9_spans 93 = .ok (.getfield 163, 3) := by decide +kernel
theorem dX9_spans_96 : decode cX9_spans 96 = .ok (.putfield 163, 3) := by decide +kernel
theorem dX9_spans_99 : decode cX9_spans 99 = .ok (.aload_n 0, 1) := by decide +kernel
theorem dX9_spans_100 : decode cX9_spans 100 = .ok (.iload_n 3, 1) := by decide +kernel
theorem dX9_spans_101 : decode cX9_spans 101 = .ok (.ifCond .eq 7, 3) := by decide +kernel
theorem dX9_spans_104 : decode cX9_spans 104 = .ok (.iload_n 2, 1) := by decide +kernel
theorem dX9_spans_105 : decode cX9_spans 105 = .ok (.goto 7, 3) := by decide +kernel
theorem dX9_spans_108 : decode cX9_spans 108 = .ok (.aload_n 0, 1) := by decide +kernel
theorem dX9_spans_109 : decode cX9_spans 109 = .ok (.getfield 166, 3) := by decide +kernel
theorem dX9_spans_112 : decode cX9_spans 112 = .ok (.putfield 166, 3) := by decide +kernel
theorem dX9_spans_115 : decode cX9_spans 115 = .ok (.iinc 2 1, 3) := by decide +kernel
theorem dX9_spans_118 : decode cX9_spans 118 = .ok (.goto (-104), 3) := by decide +kernel
theorem dX9_spans_121 : decode cX9_spans 121 = .ok (.return_, 1) := by decide +kernel
theorem dX9_span_0 : decode cX9_span 0 = .ok (.aload_n 0, 1) := by decide +kernel
theorem dX9_span_1 : decode cX9_span 1 = .ok (.iconst 0, 1) := by decide +kernel
theorem dX9_span_2 : decode cX9_span 2 = .ok (.putfield 68, 3) := by decide +kernel
theorem dX9_span_5 : decode cX9_span 5 = .ok (.aload_n 0, 1) := by decide +kernel
theorem dX9_span_6 : decode cX9_span 6 = .ok (.iload_n 1, 1) := by decide +kernel
theorem dX9_span_7 : decode cX9_span 7 = .ok (.invokevirtual 107, 3) := by decide +kernel
theorem dX9_span_10 : decode cX9_span 10 = .ok (.ifCond .eq 12, 3) := by decide +kernel
theorem dX9_span_13 : decode cX9_span 13 = .ok (.iload_n 2, 1) := by decide +kernel
theorem dX9_span_14 : decode cX9_span 14 = .ok (.iconst 0, 1) := by decide +kernel
theorem dX9_span_15 : decode cX9_span 15 = .ok (.iconst 1, 1) := by decide +kernel
theorem dX9_span_16 : decode cX9_span 16 = .ok (.invokestatic 71, 3) := by decide +kernel
theorem dX9_span_19 : decode cX9_span 19 = .ok (.ifCond .ne 5, 3) := by decide +kernel
theorem dX9_span_22 : decode cX9_span 22 = .ok (.iconst (-1), 1) := by decide +kernel
theorem dX9_span_23 : decode cX9_span 23 = .ok (.ireturn, 1) := by decide +kernel
theorem dX9_span_24 : decode cX9_span 24 = .ok (.aload_n 0, 1) := by decide +kernel
theorem dX9_span_25 : decode cX9_span 25 = .ok (.iload_n 1, 1) := by decide +kernel
theorem dX9_span_26 : decode cX9_span 26 = .ok (.invokevirtual 172, 3) := by decide +kernel
theorem dX9_span_29 : decode cX9_span 29 = .ok (.iload_n 2, 1) := by decide +kernel
theorem dX9_span_30 : decode cX9_span 30 = .ok (.ifCond .ne 10, 3) := by decide +kernel
theorem dX9_span_33 : decode cX9_span 33 = .ok (.aload_n 0, 1) := by decide +kernel
theorem dX9_span_34 : decode cX9_span 34 = .ok (.getfield 163, 3) := by decide +kernel
theorem dX9_span_37 : decode cX9_span 37 = .ok (.goto 7, 3) := by decide +kernel
theorem dX9_span_40 : decode cX9_span 40 = .ok (.aload_n 0, 1) := by decide +kernel
theorem dX9_span_41 : decode cX9_span 41 = .ok (.getfield 166, 3) := by decide +kernel
theorem dX9_span_44 : decode cX9_span 44 = .ok (.ireturn, 1) := by decide +kernel
theorem dX9_ask_0 : decode cX9_ask 0 = .ok (.aload_n 0, 1) := by decide +kernel
theorem dX9_ask_1 : decode cX9_ask 1 = .ok (.iconst 0, 1) := by decide +kernel
theorem dX9_ask_2 : decode cX9_ask 2 = .ok (.putfield 68, 3) := by decide +kernel
theorem dX9_ask_5 : decode cX9_ask 5 = .ok (.aload_n 0, 1) := by decide +kernel
theorem dX9_ask_6 : decode cX9_ask 6 = .ok (.iload_n 1, 1) := by decide +kernel
theorem dX9_ask_7 : decode cX9_ask 7 = .ok (.invokevirtual 107, 3) := by decide +kernel
theorem dX9_ask_10 : decode cX9_ask 10 = .ok (.ifCond .eq 10, 3) := by decide +kernel
theorem dX9_ask_13 : decode cX9_ask 13 = .ok (.iload_n 2, 1) := by decide +kernel
theorem dX9_ask_14 : decode cX9_ask 14 = .ok (.invokestatic 114, 3) := by decide +kernel
theorem dX9_ask_17 : decode cX9_ask 17 = .ok (.ifCond .ne 5, 3) := by decide +kernel
theorem dX9_ask_20 : decode cX9_ask 20 = .ok (.iconst (-1), 1) := by decide +kernel
theorem dX9_ask_21 : decode cX9_ask 21 = .ok (.ireturn, 1) := by decide +kernel
theorem dX9_ask_22 : decode cX9_ask 22 = .ok (.aload_n 0, 1) := by decide +kernel
theorem dX9_ask_23 : decode cX9_ask 23 = .ok (.iload_n 1, 1) := by decide +kernel
theorem dX9_ask_24 : decode cX9_ask 24 = .ok (.invokevirtual 172, 3) := by decide +kernel
theorem dX9_ask_27 : decode cX9_ask 27 = .ok (.bipush (-4), 2) := by decide +kernel
theorem dX9_ask_29 : decode cX9_ask 29 = .ok (.istore_n 3, 1) := by decide +kernel
theorem dX9_ask_30 : decode cX9_ask 30 = .ok (.iconst 0, 1) := by decide +kernel
theorem dX9_ask_31 : decode cX9_ask 31 = .ok (.istore 4, 2) := by decide +kernel
theorem dX9_ask_33 : decode cX9_ask 33 = .ok (.iconst 1, 1) := by decide +kernel
theorem dX9_ask_34 : decode cX9_ask 34 = .ok (.istore 5, 2) := by decide +kernel
theorem dX9_ask_36 : decode cX9_ask 36 = .ok (.iload 5, 2) := by decide +kernel
theorem dX9_ask_38 : decode cX9_ask 38 = .ok (.sipush 201, 3) := by decide +kernel
theorem dX9_ask_41 : decode cX9_ask 41 = .ok (.if_icmp .ge 138, 3) := by decide +kernel
theorem dX9_ask_44 : decode cX9_ask 44 = .ok (.aload_n 0, 1) := by decide +kernel
theorem dX9_ask_45 : decode cX9_ask 45 = .ok (.getfield 163, 3) := by decide +kernel
theorem dX9_ask_48 : decode cX9_ask 48 = .ok (.bipush (-4), 2) := by decide +kernel
theorem dX9_ask_50 : decode cX9_ask 50 = .ok (.if_icmp .eq 129, 3) := by decide +kernel
theorem dX9_ask_53 : decode cX9_ask 53 = .ok (.iload 5, 2) := by decide +kernel
theorem dX9_ask_55 : decode cX9_ask 55 = .ok (.iload_n 2, 1) := by decide +kernel
theorem dX9_ask_56 : decode cX9_ask 56 = .ok (.aload_n 0, 1) := by decide +kernel
theorem dX9_ask_57 : decode cX9_ask 57 = .ok (.getfield 62, 3) := by decide +kernel
theorem dX9_ask_60 : decode cX9_ask 60 = .ok (.imul, 1) := by decide +kernel
theorem dX9_ask_61 : decode cX9_ask 61 = .ok (.bipush 100, 2) := by decide +kernel
theorem dX9_ask_63 : decode cX9_ask 63 = .ok (.idiv, 1) := by decide +kernel
theorem dX9_ask_64 : decode cX9_ask 64 = .ok (.iadd, 1) := by decide +kernel
theorem dX9_ask_65 : decode cX9_ask 65 = .ok (.istore 6, 2) := by decide +kernel
theorem dX9_ask_67 : decode cX9_ask 67 = .ok (.iload 6, 2) := by decide +kernel
theorem dX9_ask_69 : decode cX9_ask 69 = .ok (.aload_n 0, 1) := by decide +kernel
theorem dX9_ask_70 : decode cX9_ask 70 = .ok (.getfield 166, 3) := by decide +kernel
theorem dX9_ask_73 : decode cX9_ask 73 = .ok (.invokestatic 134, 3) := by decide +kernel
theorem dX9_ask_76 : decode cX9_ask 76 = .ok (.aload_n 0, 1) := by decide +kernel
theorem dX9_ask_77 : decode cX9_ask 77 = .ok (.getfield 163, 3) := by decide +kernel
theorem dX9_ask_80 : decode cX9_ask 80 = .ok (.isub, 1) := by decide +kernel
theorem dX9_ask_81 : decode cX9_ask 81 = .ok (.iconst 1, 1) := by decide +kernel
theorem dX9_ask_82 : decode cX9_ask 82 = .ok (.iadd, 1) := by decide +kernel
theorem dX9_ask_83 : decode cX9_ask 83 = .ok (.istore 7, 2) := by decide +kernel
theorem dX9_ask_85 : decode cX9_ask 85 = .ok (.aload_n 0, 1) := by decide +kernel
theorem dX9_ask_86 : decode cX9_ask 86 = .ok (.getfield 166, 3) := by decide +kernel
theorem dX9_ask_89 : decode cX9_ask 89 = .ok (.iload 6, 2) := by decide +kernel
theorem dX9_ask_91 : decode cX9_ask 91 = .ok (.aload_n 0, 1) := by decide +kernel
theorem dX9_ask_92 : decode cX9_ask 92 = .ok (.getfield 163, 3) := by decide +kernel
theorem dX9_ask_95 : decode cX9_ask 95 = .ok (.if_icmp .ge 12, 3) := by decide +kernel
theorem dX9_ask_98 : decode cX9_ask 98 = .ok (.aload_n 0, 1) := by decide +kernel
theorem dX9_ask_99 : decode cX9_ask 99 = .ok (.getfield 163, 3) := by decide +kernel
theorem dX9_ask_102 : decode cX9_ask 102 = .ok (.iconst 1, 1) := by decide +kernel
theorem dX9_ask_103 : decode cX9_ask 103 = .ok (.isub, 1) := by decide +kernel
theorem dX9_ask_104 : decode cX9_ask 104 = .ok (.goto 5, 3) := by decide +kernel
theorem dX9_ask_107 : decode cX9_ask 107 = .ok (.iload 6, 2) := by decide +kernel
theorem dX9_ask_109 : decode cX9_ask 109 = .ok (.isub, 1) := by decide +kernel
theorem dX9_ask_110 : decode cX9_ask 110 = .ok (.istore 8, 2) := by decide +kernel
theorem dX9_ask_112 : decode cX9_ask 112 = .ok (.iload 7, 2) := by decide +kernel
theorem dX9_ask_114 : decode cX9_ask 114 = .ok (.ifCond .le 59, 3) := by decide +kernel
theorem dX9_ask_117 : decode cX9_ask 117 = .ok (.iload 8, 2) := by decide +kernel
theorem dX9_ask_119 : decode cX9_ask 119 = .ok (.ifCond .le 54, 3) := by decide +kernel
theorem dX9_ask_122 : decode cX9_ask 122 = .ok (.iload 7, 2) := by decide +kernel
theorem dX9_ask_124 : decode cX9_ask 124 = .ok (.iload 8, 2) := by decide +kernel
theorem dX9_ask_126 : decode cX9_ask 126 = .ok (.if_icmp .le 8, 3) := by decide +kernel
theorem dX9_ask_129 : decode cX9_ask 129 = .ok (.iload 7, 2) := by decide +kernel
theorem dX9_ask_131 : decode cX9_ask 131 = .ok (.goto 5, 3) := by decide +kernel
theorem dX9_ask_134 : decode cX9_ask 134 = .ok (.iload 8, 2) := by decide +kernel
theorem dX9_ask_136 : decode cX9_ask 136 = .ok (.istore 9, 2) := by decide +kernel
theorem dX9_ask_138 : decode cX9_ask 138 = .ok (.iload_n 3, 1) := by decide +kernel
theorem dX9_ask_139 : decode cX9_ask 139 = .ok (.bipush (-4), 2) := by decide +kernel
theorem dX9_ask_141 : decode cX9_ask 141 = .ok (.if_icmp .eq 10, 3) := by decide +kernel
theorem dX9_ask_144 : decode cX9_ask 144 = .ok (.iload 9, 2) := by decide +kernel
theorem dX9_ask_146 : decode cX9_ask 146 = .ok (.iload 4, 2) := by decide +kernel
theorem dX9_ask_148 : decode cX9_ask 148 = .ok (.if_icmp .ge 8, 3) := by decide +kernel
theorem dX9_ask_151 : decode cX9_ask 151 = .ok (.iload 5, 2) := by decide +kernel
theorem dX9_ask_153 : decode cX9_ask 153 = .ok (.goto 4, 3) := by decide +kernel
theorem dX9_ask_156 : decode cX9_ask 156 = .ok (.iload_n 3, 1) := by decide +kernel
theorem dX9_ask_157 : decode cX9_ask 157 = .ok (.istore_n 3, 1) := by decide +kernel
theorem dX9_ask_158 : decode cX9_ask 158 = .ok (.iload_n 3, 1) := by decide +kernel
theorem dX9_ask_159 : decode cX9_ask 159 = .ok (.iload 5, 2) := by decide +kernel
theorem dX9_ask_161 : decode cX9_ask 161 = .ok (.if_icmp .ne 8, 3) := by decide +kernel
theorem dX9_ask_164 : decode cX9_ask 164 = .ok (.iload 9, 2) := by decide +kernel
theorem dX9_ask_166 : decode cX9_ask 166 = .ok (.goto 5, 3) := by decide +kernel
theorem dX9_ask_169 : decode cX9_ask 169 = .ok (.iload 4, 2) := by decide +kernel
theorem dX9_ask_171 : decode cX9_ask 171 = .ok (.istore 4, 2) := by decide +kernel
theorem dX9_ask_173 : decode cX9_ask 173 = .ok (.iinc 5 1, 3) := by decide +kernel
theorem dX9_ask_176 : decode cX9_ask 176 = .ok (.goto (-140), 3) := by decide +kernel
theorem dX9_ask_179 : decode cX9_ask 179 = .ok (.iload_n 3, 1) := by decide +kernel
theorem dX9_ask_180 : decode cX9_ask 180 = .ok (.ireturn, 1) := by decide +kernel
theorem dX9_bribed_0 : decode cX9_bribed 0 = .ok (.aload_n 0, 1) := by decide +kernel
theorem dX9_bribed_1 : decode cX9_bribed 1 = .ok (.iconst 0, 1) := by decide +kernel
theorem dX9_bribed_2 : decode cX9_bribed 2 = .ok (.putfield 68, 3) := by decide +kernel
theorem dX9_bribed_5 : decode cX9_bribed 5 = .ok (.iconst 0, 1) := by decide +kernel
theorem dX9_bribed_6 : decode cX9_bribed 6 = .ok (.istore_n 1, 1) := by decide +kernel
theorem dX9_bribed_7 : decode cX9_bribed 7 = .ok (.iconst 0, 1) := by decide +kernel
theorem dX9_bribed_8 : decode cX9_bribed 8 = .ok (.istore_n 2, 1) := by decide +kernel
theorem dX9_bribed_9 : decode cX9_bribed 9 = .ok (.iload_n 2, 1) := by decide +kernel
theorem dX9_bribed_10 : decode cX9_bribed 10 = .ok (.aload_n 0, 1) := by decide +kernel
theorem dX9_bribed_11 : decode cX9_bribed 11 = .ok (.getfield 98, 3) := by decide +kernel
theorem dX9_bribed_14 : decode cX9_bribed 14 = .ok (.if_icmp .ge 40, 3) := by decide +kernel
theorem dX9_bribed_17 : decode cX9_bribed 17 = .ok (.iload_n 1, 1) := by decide +kernel
theorem dX9_bribed_18 : decode cX9_bribed 18 = .ok (.aload_n 0, 1) := by decide +kernel
theorem dX9_bribed_19 : decode cX9_bribed 19 = .ok (.iload_n 2, 1) := by decide +kernel
theorem dX9_bribed_20 : decode cX9_bribed 20 = .ok (.aload_n 0, 1) := by decide +kernel
theorem dX9_bribed_21 : decode cX9_bribed 21 = .ok (.getfield 16, 3) := by decide +kernel
theorem dX9_bribed_24 : decode cX9_bribed 24 = .ok (.aload_n 0, 1) := by decide +kernel
theorem dX9_bribed_25 : decode cX9_bribed 25 = .ok (.getfield 31, 3) := by decide +kernel
theorem dX9_bribed_28 : decode cX9_bribed 28 = .ok (.iconst 4, 1) := by decide +kernel
theorem dX9_bribed_29 : decode cX9_bribed 29 = .ok (.iload_n 2, 1) := by decide +kernel
theorem dX9_bribed_30 : decode cX9_bribed 30 = .ok (.imul, 1) := by decide +kernel
theorem dX9_bribed_31 : decode cX9_bribed 31 = .ok (.iaload, 1) := by decide +kernel
theorem dX9_bribed_32 : decode cX9_bribed 32 = .ok (.iaload, 1) := by decide +kernel
theorem dX9_bribed_33 : decode cX9_bribed 33 = .ok (.invokevirtual 169, 3) := by decide +kernel
theorem dX9_bribed_36 : decode cX9_bribed 36 = .ok (.ifCond .eq 7, 3) := by decide +kernel
theorem dX9_bribed_39 : decode cX9_bribed 39 = .ok (.iconst 0, 1) := by decide +kernel
theorem dX9_bribed_40 : decode cX9_bribed 40 = .ok (.goto 6, 3) := by decide +kernel
theorem dX9_bribed_43 : decode cX9_bribed 43 = .ok (.iconst 1, 1) := by decide +kernel
theorem dX9_bribed_44 : decode cX9_bribed 44 = .ok (.iload_n 2, 1) := by decide +kernel
theorem dX9_bribed_45 : decode cX9_bribed 45 = .ok (.ishl, 1) := by decide +kernel
theorem dX9_bribed_46 : decode cX9_bribed 46 = .ok (.ior, 1) := by decide +kernel
theorem dX9_bribed_47 : decode cX9_bribed 47 = .ok (.istore_n 1, 1) := by decide +kernel
theorem dX9_bribed_48 : decode cX9_bribed 48 = .ok (.iinc 2 1, 3) := by decide +kernel
theorem dX9_bribed_51 : decode cX9_bribed 51 = .ok (.goto (-42), 3) := by decide +kernel
theorem dX9_bribed_54 : decode cX9_bribed 54 = .ok (.iload_n 1, 1) := by decide +kernel
theorem dX9_bribed_55 : decode cX9_bribed 55 = .ok (.ireturn, 1) := by decide +kernel
theorem dX9_findsRing_0 : decode cX9_findsRing 0 = .ok (.iconst 1, 1) := by decide +kernel
theorem dX9_findsRing_1 : decode cX9_findsRing 1 = .ok (.istore_n 2, 1) := by decide +kernel
theorem dX9_findsRing_2 : decode cX9_findsRing 2 = .ok (.iconst 0, 1) := by decide +kernel
theorem dX9_findsRing_3 : decode cX9_findsRing 3 = .ok (.istore_n 3, 1) := by decide +kernel
theorem dX9_findsRing_4 : decode cX9_findsRing 4 = .ok (.iload_n 3, 1) := by decide +kernel
theorem dX9_findsRing_5 : decode cX9_findsRing 5 = .ok (.iload_n 1, 1) := by decide +kernel
theorem dX9_findsRing_6 : decode cX9_findsRing 6 = .ok (.if_icmp .ge 16, 3) := by decide +kernel
theorem dX9_findsRing_9 : decode cX9_findsRing 9 = .ok (.iload_n 2, 1) := by decide +kernel
theorem dX9_findsRing_10 : decode cX9_findsRing 10 = .ok (.aload_n 0, 1) := by decide +kernel
theorem dX9_findsRing_11 : decode cX9_findsRing 11 = .ok (.getfield 58, 3) := by decide +kernel
theorem dX9_findsRing_14 : decode cX9_findsRing 14 = .ok (.imul, 1) := by decide +kernel
theorem dX9_findsRing_15 : decode cX9_findsRing 15 = .ok (.istore_n 2, 1) := by decide +kernel
theorem dX9_findsRing_16 : decode cX9_findsRing 16 = .ok (.iinc 3 1, 3) := by decide +kernel
theorem dX9_findsRing_19 : decode cX9_findsRing 19 = .ok (.goto (-15), 3) := by decide +kernel
theorem dX9_findsRing_22 : decode cX9_findsRing 22 = .ok (.iconst 0, 1) := by decide +kernel
theorem dX9_findsRing_23 : decode cX9_findsRing 23 = .ok (.istore_n 3, 1) := by decide +kernel
theorem dX9_findsRing_24 : decode cX9_findsRing 24 = .ok (.iload_n 3, 1) := by decide +kernel
theorem dX9_findsRing_25 : decode cX9_findsRing 25 = .ok (.iload_n 2, 1) := by decide +kernel
theorem dX9_findsRing_26 : decode cX9_findsRing 26 = .ok (.if_icmp .ge 188, 3) := by decide +kernel
theorem dX9_findsRing_29 : decode cX9_findsRing 29 = .ok (.iload_n 3, 1) := by decide +kernel
theorem dX9_findsRing_30 : decode cX9_findsRing 30 = .ok (.istore 4, 2) := by decide +kernel
theorem dX9_findsRing_32 : decode cX9_findsRing 32 = .ok (.iconst 0, 1) := by decide +kernel
theorem dX9_findsRing_33 : decode cX9_findsRing 33 = .ok (.istore 5, 2) := by decide +kernel
theorem dX9_findsRing_35 : decode cX9_findsRing 35 = .ok (.iconst 1, 1) := by decide +kernel
theorem dX9_findsRing_36 : decode cX9_findsRing 36 = .ok (.istore 6, 2) := by decide +kernel
theorem dX9_findsRing_38 : decode cX9_findsRing 38 = .ok (.iload_n 1, 1) := by decide +kernel
theorem dX9_findsRing_39 : decode cX9_findsRing 39 = .ok (.iconst 1, 1) := by decide +kernel
theorem dX9_findsRing_40 : decode cX9_findsRing 40 = .ok (.isub, 1) := by decide +kernel
theorem dX9_findsRing_41 : decode cX9_findsRing 41 = .ok (.istore 7, 2) := by decide +kernel
theorem dX9_findsRing_43 : decode cX9_findsRing 43 = .ok (.iload 7, 2) := by decide +kernel
theorem dX9_findsRing_45 : decode cX9_findsRing 45 = .ok (.ifCond .lt 73, 3) := by decide +kernel
theorem dX9_findsRing_48 : decode cX9_findsRing 48 = .ok (.aload_n 0, 1) := by decide +kernel
theorem dX9_findsRing_49 : decode cX9_findsRing 49 = .ok (.getfield 52, 3) := by decide +kernel
theorem dX9_findsRing_52 : decode cX9_findsRing 52 = .ok (.iload 7, 2) := by decide +kernel
theorem dX9_findsRing_54 : decode cX9_findsRing 54 = .ok (.iload 4, 2) := by decide +kernel
theorem dX9_findsRing_56 : decode cX9_findsRing 56 = .ok (.aload_n 0, 1) := by decide +kernel
theorem dX9_findsRing_57 : decode cX9_findsRing 57 = .ok (.getfield 58, 3) := by decide +kernel
theorem dX9_findsRing_60 : decode cX9_findsRing 60 = .ok (.irem, 1) := by decide +kernel
theorem dX9_findsRing_61 : decode cX9_findsRing 61 = .ok (.iastore, 1) := by decide +kernel
theorem dX9_findsRing_62 : decode cX9_findsRing 62 = .ok (.iload 4, 2) := by decide +kernel
theorem dX9_findsRing_64 : decode cX9_findsRing 64 = .ok (.aload_n 0, 1) := by decide +kernel
theorem dX9_findsRing_65 : decode cX9_findsRing 65 = .ok (.getfield 58, 3) := by decide +kernel
theorem dX9_findsRing_68 : decode cX9_findsRing 68 = .ok (.idiv, 1) := by decide +kernel
theorem dX9_findsRing_69 : decode cX9_findsRing 69 = .ok (.istore 4, 2) := by decide +kernel
theorem dX9_findsRing_71 : decode cX9_findsRing 71 = .ok (.iload 6, 2) := by decide +kernel
theorem dX9_findsRing_73 : decode cX9_findsRing 73 = .ok (.ifCond .eq 22, 3) := by decide +kernel
theorem dX9_findsRing_76 : decode cX9_findsRing 76 = .ok (.iload 5, 2) := by decide +kernel
theorem dX9_findsRing_78 : decode cX9_findsRing 78 = .ok (.aload_n 0, 1) := by decide +kernel
theorem dX9_findsRing_79 : decode cX9_findsRing 79 = .ok (.getfield 52, 3) := by decide +kernel
theorem dX9_findsRing_82 : decode cX9_findsRing 82 = .ok (.iload 7, 2) := by decide +kernel
theorem dX9_findsRing_84 : decode cX9_findsRing 84 = .ok (.iaload, 1) := by decide +kernel
theorem dX9_findsRing_85 : decode cX9_findsRing 85 = .ok (.ishr, 1) := by decide +kernel
theorem dX9_findsRing_86 : decode cX9_findsRing 86 = .ok (.iconst 1, 1) := by decide +kernel
theorem dX9_findsRing_87 : decode cX9_findsRing 87 = .ok (.iand, 1) := by decide +kernel
theorem dX9_findsRing_88 : decode cX9_findsRing 88 = .ok (.ifCond .ne 7, 3) := by decide +kernel
theorem dX9_findsRing_91 : decode cX9_findsRing 91 = .ok (.iconst 1, 1) := by decide +kernel
theorem dX9_findsRing_92 : decode cX9_findsRing 92 = .ok (.goto 4, 3) := by decide +kernel
theorem dX9_findsRing_95 : decode cX9_findsRing 95 = .ok (.iconst 0, 1) := by decide +kernel
theorem dX9_findsRing_96 : decode cX9_findsRing 96 = .ok (.istore 6, 2) := by decide +kernel
theorem dX9_findsRing_98 : decode cX9_findsRing 98 = .ok (.iload 5, 2) := by decide +kernel
theorem dX9_findsRing_100 : decode cX9_findsRing 100 = .ok (.iconst 1, 1) := by decide +kernel
theorem dX9_findsRing_101 : decode cX9_findsRing 101 = .ok (.aload_n 0, 1) := by decide +kernel
theorem dX9_findsRing_102 : decode cX9_findsRing 102 = .ok (.getfield 52, 3) := by decide +kernel
theorem dX9_findsRing_105 : decode cX9_findsRing 105 = .ok (.iload 7, 2) := by decide +kernel
theorem dX9_findsRing_107 : decode cX9_findsRing 107 = .ok (.iaload, 1) := by decide +kernel
theorem dX9_findsRing_108 : decode cX9_findsRing 108 = .ok (.ishl, 1) := by decide +kernel
theorem dX9_findsRing_109 : decode cX9_findsRing 109 = .ok (.ior, 1) := by decide +kernel
theorem dX9_findsRing_110 : decode cX9_findsRing 110 = .ok (.istore 5, 2) := by decide +kernel
theorem dX9_findsRing_112 : decode cX9_findsRing 112 = .ok (.iinc 7 (-1), 3) := by decide +kernel
theorem dX9_findsRing_115 : decode cX9_findsRing 115 = .ok (.goto (-72), 3) := by decide +kernel
theorem dX9_findsRing_118 : decode cX9_findsRing 118 = .ok (.iconst 0, 1) := by decide +kernel
theorem dX9_findsRing_119 : decode cX9_findsRing 119 = .ok (.istore 7, 2) := by decide +kernel
theorem dX9_findsRing_121 : decode cX9_findsRing 121 = .ok (.iload 7, 2) := by decide +kernel
theorem dX9_findsRing_123 : decode cX9_findsRing 123 = .ok (.iload_n 1, 1) := by decide +kernel
theorem dX9_findsRing_124 : decode cX9_findsRing 124 = .ok (.if_icmp .ge 77, 3) := by decide +kernel
theorem dX9_findsRing_127 : decode cX9_findsRing 127 = .ok (.iload 6, 2) := by decide +kernel
theorem dX9_findsRing_129 : decode cX9_findsRing 129 = .ok (.ifCond .eq 72, 3) := by decide +kernel
theorem dX9_findsRing_132 : decode cX9_findsRing 132 = .ok (.aload_n 0, 1) := by decide +kernel
theorem dX9_findsRing_133 : decode cX9_findsRing 133 = .ok (.getfield 49, 3) := by decide +kernel
theorem dX9_findsRing_136 : decode cX9_findsRing 136 = .ok (.bipush 6, 2) := by decide +kernel
theorem dX9_findsRing_138 : decode cX9_findsRing 138 = .ok (.aload_n 0, 1) := by decide +kernel
theorem dX9_findsRing_139 : decode cX9_findsRing 139 = .ok (.getfield 52, 3) := by decide +kernel
theorem dX9_findsRing_142 : decode cX9_findsRing 142 = .ok (.iload 7, 2) := by decide +kernel
theorem dX9_findsRing_144 : decode cX9_findsRing 144 = .ok (.iaload, 1) := by decide +kernel
theorem dX9_findsRing_145 : decode cX9_findsRing 145 = .ok (.imul, 1) := by decide +kernel
theorem dX9_findsRing_146 : decode cX9_findsRing 146 = .ok (.aload_n 0, 1) := by decide +kernel
theorem dX9_findsRing_147 : decode cX9_findsRing 147 = .ok (.getfield 52, 3) := by decide +kernel
theorem dX9_findsRing_150 : decode cX9_findsRing 150 = .ok (.iload 7, 2) := by decide +kernel
theorem dX9_findsRing_152 : decode cX9_findsRing 152 = .ok (.iconst 1, 1) := by decide +kernel
theorem dX9_findsRing_153 : decode cX9_findsRing 153 = .ok (.iadd, 1) := by decide +kernel
theorem dX9_findsRing_154 : decode cX9_findsRing 154 = .ok (.iload_n 1, 1) := by decide +kernel
theorem dX9_findsRing_155 : decode cX9_findsRing 155 = .ok (.if_icmp .ne 7, 3) := by decide +kernel
theorem dX9_findsRing_158 : decode cX9_findsRing 158 = .ok (.iconst 0, 1) := by decide +kernel
theorem dX9_findsRing_159 : decode cX9_findsRing 159 = .ok (.goto 7, 3) := by decide +kernel
theorem dX9_findsRing_162 : decode cX9_findsRing 162 = .ok (.iload 7, 2) := by decide +kernel
theorem dX9_findsRing_164 : decode cX9_findsRing 164 = .ok (.iconst 1, 1) := by decide +kernel
theorem dX9_findsRing_165 : decode cX9_findsRing 165 = .ok (.iadd, 1) := by decide +kernel
theorem dX9_findsRing_166 : decode cX9_findsRing 166 = .ok (.iaload, 1) := by decide +kernel
theorem dX9_findsRing_167 : decode cX9_findsRing 167 = .ok (.iadd, 1) := by decide +kernel
theorem dX9_findsRing_168 : decode cX9_findsRing 168 = .ok (.iaload, 1) := by decide +kernel
theorem dX9_findsRing_169 : decode cX9_findsRing 169 = .ok (.ifCond .le 23, 3) := by decide +kernel
theorem dX9_findsRing_172 : decode cX9_findsRing 172 = .ok (.aload_n 0, 1) := by decide +kernel
theorem dX9_findsRing_173 : decode cX9_findsRing 173 = .ok (.getfield 52, 3) := by decide +kernel
theorem dX9_findsRing_176 : decode cX9_findsRing 176 = .ok (.iload 7, 2) := by decide +kernel
theorem dX9_findsRing_178 : decode cX9_findsRing 178 = .ok (.iaload, 1) := by decide +kernel
theorem dX9_findsRing_179 : decode cX9_findsRing 179 = .ok (.aload_n 0, 1) := by decide +kernel
theorem dX9_findsRing_180 : decode cX9_findsRing 180 = .ok (.getfield 52, 3) := by decide +kernel
theorem dX9_findsRing_183 : decode cX9_findsRing 183 = .ok (.iconst 0, 1) := by decide +kernel
theorem dX9_findsRing_184 : decode cX9_findsRing 184 = .ok (.iaload, 1) := by decide +kernel
theorem dX9_findsRing_185 : decode cX9_findsRing 185 = .ok (.if_icmp .lt 7, 3) := by decide +kernel
theorem dX9_findsRing_188 : decode cX9_findsRing 188 = .ok (.iconst 1, 1) := by decide +kernel
theorem dX9_findsRing_189 : decode cX9_findsRing 189 = .ok (.goto 4, 3) := by decide +kernel
theorem dX9_findsRing_192 : decode cX9_findsRing 192 = .ok (.iconst 0, 1) := by decide +kernel
theorem dX9_findsRing_193 : decode cX9_findsRing 193 = .ok (.istore 6, 2) := by decide +kernel
theorem dX9_findsRing_195 : decode cX9_findsRing 195 = .ok (.iinc 7 1, 3) := by decide +kernel
theorem dX9_findsRing_198 : decode cX9_findsRing 198 = .ok (.goto (-77), 3) := by decide +kernel
theorem dX9_findsRing_201 : decode cX9_findsRing 201 = .ok (.iload 6, 2) := by decide +kernel
theorem dX9_findsRing_203 : decode cX9_findsRing 203 = .ok (.ifCond .eq 5, 3) := by decide +kernel
theorem dX9_findsRing_206 : decode cX9_findsRing 206 = .ok (.iconst 1, 1) := by decide +kernel
theorem dX9_findsRing_207 : decode cX9_findsRing 207 = .ok (.ireturn, 1) := by decide +kernel
theorem dX9_findsRing_208 : decode cX9_findsRing 208 = .ok (.iinc 3 1, 3) := by decide +kernel
theorem dX9_findsRing_211 : decode cX9_findsRing 211 = .ok (.goto (-187), 3) := by decide +kernel
theorem dX9_findsRing_214 : decode cX9_findsRing 214 = .ok (.iconst 0, 1) := by decide +kernel
theorem dX9_findsRing_215 : decode cX9_findsRing 215 = .ok (.ireturn, 1) := by decide +kernel
theorem dX9_clears_0 : decode cX9_clears 0 = .ok (.iconst 0, 1) := by decide +kernel
theorem dX9_clears_1 : decode cX9_clears 1 = .ok (.istore_n 1, 1) := by decide +kernel
theorem dX9_clears_2 : decode cX9_clears 2 = .ok (.iload_n 1, 1) := by decide +kernel
theorem dX9_clears_3 : decode cX9_clears 3 = .ok (.bipush 36, 2) := by decide +kernel
theorem dX9_clears_5 : decode cX9_clears 5 = .ok (.if_icmp .ge 16, 3) := by decide +kernel
theorem dX9_clears_8 : decode cX9_clears 8 = .ok (.aload_n 0, 1) := by decide +kernel
theorem dX9_clears_9 : decode cX9_clears 9 = .ok (.getfield 49, 3) := by decide +kernel
theorem dX9_clears_12 : decode cX9_clears 12 = .ok (.iload_n 1, 1) := by decide +kernel
theorem dX9_clears_13 : decode cX9_clears 13 = .ok (.iconst 0, 1) := by decide +kernel
theorem dX9_clears_14 : decode cX9_clears 14 = .ok (.iastore, 1) := by decide +kernel
theorem dX9_clears_15 : decode cX9_clears 15 = .ok (.iinc 1 1, 3) := by decide +kernel
theorem dX9_clears_18 : decode cX9_clears 18 = .ok (.goto (-16), 3) := by decide +kernel
theorem dX9_clears_21 : decode cX9_clears 21 = .ok (.iconst 0, 1) := by decide +kernel
theorem dX9_clears_22 : decode cX9_clears 22 = .ok (.istore_n 1, 1) := by decide +kernel
theorem dX9_clears_23 : decode cX9_clears 23 = .ok (.iload_n 1, 1) := by decide +kernel
theorem dX9_clears_24 : decode cX9_clears 24 = .ok (.aload_n 0, 1) := by decide +kernel
theorem dX9_clears_25 : decode cX9_clears 25 = .ok (.getfield 19, 3) := by decide +kernel
theorem dX9_clears_28 : decode cX9_clears 28 = .ok (.bipush 12, 2) := by decide +kernel
theorem dX9_clears_30 : decode cX9_clears 30 = .ok (.iaload, 1) := by decide +kernel
theorem dX9_clears_31 : decode cX9_clears 31 = .ok (.if_icmp .ge 58, 3) := by decide +kernel
theorem dX9_clears_34 : decode cX9_clears 34 = .ok (.aload_n 0, 1) := by decide +kernel
theorem dX9_clears_35 : decode cX9_clears 35 = .ok (.getfield 49, 3) := by decide +kernel
theorem dX9_clears_38 : decode cX9_clears 38 = .ok (.bipush 6, 2) := by decide +kernel
theorem dX9_clears_40 : decode cX9_clears 40 = .ok (.aload_n 0, 1) := by decide +kernel
theorem dX9_clears_41 : decode cX9_clears 41 = .ok (.getfield 19, 3) := by decide +kernel
theorem dX9_clears_44 : decode cX9_clears 44 = .ok (.bipush 13, 2) := by decide +kernel
theorem dX9_clears_46 : decode cX9_clears 46 = .ok (.iconst 4, 1) := by decide +kernel
theorem dX9_clears_47 : decode cX9_clears 47 = .ok (.iload_n 1, 1) := by decide +kernel
theorem dX9_clears_48 : decode cX9_clears 48 = .ok (.imul, 1) := by decide +kernel
theorem dX9_clears_49 : decode cX9_clears 49 = .ok (.iadd, 1) := by decide +kernel
theorem dX9_clears_50 : decode cX9_clears 50 = .ok (.iconst 1, 1) := by decide +kernel
theorem dX9_clears_51 : decode cX9_clears 51 = .ok (.iadd, 1) := by decide +kernel
theorem dX9_clears_52 : decode cX9_clears 52 = .ok (.iaload, 1) := by decide +kernel
theorem dX9_clears_53 : decode cX9_clears 53 = .ok (.imul, 1) := by decide +kernel
theorem dX9_clears_54 : decode cX9_clears 54 = .ok (.aload_n 0, 1) := by decide +kernel
theorem dX9_clears_55 : decode cX9_clears 55 = .ok (.getfield 19, 3) := by decide +kernel
theorem dX9_clears_58 : decode cX9_clears 58 = .ok (.bipush 13, 2) := by decide +kernel
theorem dX9_clears_60 : decode cX9_clears 60 = .ok (.iconst 4, 1) := by decide +kernel
theorem dX9_clears_61 : decode cX9_clears 61 = .ok (.iload_n 1, 1) := by decide +kernel
theorem dX9_clears_62 : decode cX9_clears 62 = .ok (.imul, 1) := by decide +kernel
theorem dX9_clears_63 : decode cX9_clears 63 = .ok (.iadd, 1) := by decide +kernel
theorem dX9_clears_64 : decode cX9_clears 64 = .ok (.iaload, 1) := by decide +kernel
theorem dX9_clears_65 : decode cX9_clears 65 = .ok (.iadd, 1) := by decide +kernel
theorem dX9_clears_66 : decode cX9_clears 66 = .ok (.dup2, 1) := by decide +kernel
theorem dX9_clears_67 : decode cX9_clears 67 = .ok (.iaload, 1) := by decide +kernel
theorem dX9_clears_68 : decode cX9_clears 68 = .ok (.aload_n 0, 1) := by decide +kernel
theorem dX9_clears_69 : decode cX9_clears 69 = .ok (.getfield 19, 3) := by decide +kernel
theorem dX9_clears_72 : decode cX9_clears 72 = .ok (.bipush 13, 2) := by decide +kernel
theorem dX9_clears_74 : decode cX9_clears 74 = .ok (.iconst 4, 1) := by decide +kernel
theorem dX9_clears_75 : decode cX9_clears 75 = .ok (.iload_n 1, 1) := by decide +kernel
theorem dX9_clears_76 : decode cX9_clears 76 = .ok (.imul, 1) := by decide +kernel
theorem dX9_clears_77 : decode cX9_clears 77 = .ok (.iadd, 1) := by decide +kernel
theorem dX9_clears_78 : decode cX9_clears 78 = .ok (.iconst 2, 1) := by decide +kernel
theorem dX9_clears_79 : decode cX9_clears 79 = .ok (.iadd, 1) := by decide +kernel
theorem dX9_clears_80 : decode cX9_clears 80 = .ok (.iaload, 1) := by decide +kernel
theorem dX9_clears_81 : decode cX9_clears 81 = .ok (.iadd, 1) := by decide +kernel
theorem dX9_clears_82 : decode cX9_clears 82 = .ok (.iastore, 1) := by decide +kernel
theorem dX9_clears_83 : decode cX9_clears 83 = .ok (.iinc 1 1, 3) := by decide +kernel
theorem dX9_clears_86 : decode cX9_clears 86 = .ok (.goto (-63), 3) := by decide +kernel
theorem dX9_clears_89 : decode cX9_clears 89 = .ok (.iconst 0, 1) := by decide +kernel
theorem dX9_clears_90 : decode cX9_clears 90 = .ok (.istore_n 1, 1) := by decide +kernel
theorem dX9_clears_91 : decode cX9_clears 91 = .ok (.iconst 2, 1) := by decide +kernel
theorem dX9_clears_92 : decode cX9_clears 92 = .ok (.istore_n 2, 1) := by decide +kernel
theorem dX9_clears_93 : decode cX9_clears 93 = .ok (.iload_n 2, 1) := by decide +kernel
theorem dX9_clears_94 : decode cX9_clears 94 = .ok (.aload_n 0, 1) := by decide +kernel
theorem dX9_clears_95 : decode cX9_clears 95 = .ok (.getfield 58, 3) := by decide +kernel
theorem dX9_clears_98 : decode cX9_clears 98 = .ok (.if_icmp .gt 156, 3) := by decide +kernel
theorem dX9_clears_101 : decode cX9_clears 101 = .ok (.aload_n 0, 1) := by decide +kernel
theorem dX9_clears_102 : decode cX9_clears 102 = .ok (.iload_n 2, 1) := by decide +kernel
theorem dX9_clears_103 : decode cX9_clears 103 = .ok (.invokevirtual 175, 3) := by decide +kernel
theorem dX9_clears_106 : decode cX9_clears 106 = .ok (.ifCond .eq 142, 3) := by decide +kernel
theorem dX9_clears_109 : decode cX9_clears 109 = .ok (.iconst 0, 1) := by decide +kernel
theorem dX9_clears_110 : decode cX9_clears 110 = .ok (.istore_n 3, 1) := by decide +kernel
theorem dX9_clears_111 : decode cX9_clears 111 = .ok (.iconst 0, 1) := by decide +kernel
theorem dX9_clears_112 : decode cX9_clears 112 = .ok (.istore 4, 2) := by decide +kernel
theorem dX9_clears_114 : decode cX9_clears 114 = .ok (.iload 4, 2) := by decide +kernel
theorem dX9_clears_116 : decode cX9_clears 116 = .ok (.iload_n 2, 1) := by decide +kernel
theorem dX9_clears_117 : decode cX9_clears 117 = .ok (.if_icmp .ge 66, 3) := by decide +kernel
theorem dX9_clears_120 : decode cX9_clears 120 = .ok (.aload_n 0, 1) := by decide +kernel
theorem dX9_clears_121 : decode cX9_clears 121 = .ok (.getfield 49, 3) := by decide +kernel
theorem dX9_clears_124 : decode cX9_clears 124 = .ok (.bipush 6, 2) := by decide +kernel
theorem dX9_clears_126 : decode cX9_clears 126 = .ok (.aload_n 0, 1) := by decide +kernel
theorem dX9_clears_127 : decode cX9_clears 127 = .ok (.getfield 52, 3) := by decide +kernel
theorem dX9_clears_130 : decode cX9_clears 130 = .ok (.iload 4, 2) := by decide +kernel
theorem dX9_clears_132 : decode cX9_clears 132 = .ok (.iaload, 1) := by decide +kernel
theorem dX9_clears_133 : decode cX9_clears 133 = .ok (.imul, 1) := by decide +kernel
theorem dX9_clears_134 : decode cX9_clears 134 = .ok (.aload_n 0, 1) := by decide +kernel
theorem dX9_clears_135 : decode cX9_clears 135 = .ok (.getfield 52, 3) := by decide +kernel
theorem dX9_clears_138 : decode cX9_clears 138 = .ok (.iload 4, 2) := by decide +kernel
theorem dX9_clears_140 : decode cX9_clears 140 = .ok (.iconst 1, 1) := by decide +kernel
theorem dX9_clears_141 : decode cX9_clears 141 = .ok (.iadd, 1) := by decide +kernel
theorem dX9_clears_142 : decode cX9_clears 142 = .ok (.iload_n 2, 1) := by decide +kernel
theorem dX9_clears_143 : decode cX9_clears 143 = .ok (.if_icmp .ne 7, 3) := by decide +kernel
theorem dX9_clears_146 : decode cX9_clears 146 = .ok (.iconst 0, 1) := by decide +kernel
theorem dX9_clears_147 : decode cX9_clears 147 = .ok (.goto 7, 3) := by decide +kernel
theorem dX9_clears_150 : decode cX9_clears 150 = .ok (.iload 4, 2) := by decide +kernel
theorem dX9_clears_152 : decode cX9_clears 152 = .ok (.iconst 1, 1) := by decide +kernel
theorem dX9_clears_153 : decode cX9_clears 153 = .ok (.iadd, 1) := by decide +kernel
theorem dX9_clears_154 : decode cX9_clears 154 = .ok (.iaload, 1) := by decide +kernel
theorem dX9_clears_155 : decode cX9_clears 155 = .ok (.iadd, 1) := by decide +kernel
theorem dX9_clears_156 : decode cX9_clears 156 = .ok (.iaload, 1) := by decide +kernel
theorem dX9_clears_157 : decode cX9_clears 157 = .ok (.istore 5, 2) := by decide +kernel
theorem dX9_clears_159 : decode cX9_clears 159 = .ok (.iload 4, 2) := by decide +kernel
theorem dX9_clears_161 : decode cX9_clears 161 = .ok (.ifCond .eq 9, 3) := by decide +kernel
theorem dX9_clears_164 : decode cX9_clears 164 = .ok (.iload 5, 2) := by decide +kernel
theorem dX9_clears_166 : decode cX9_clears 166 = .ok (.iload_n 3, 1) := by decide +kernel
theorem dX9_clears_167 : decode cX9_clears 167 = .ok (.if_icmp .ge 8, 3) := by decide +kernel
theorem dX9_clears_170 : decode cX9_clears 170 = .ok (.iload 5, 2) := by decide +kernel
theorem dX9_clears_172 : decode cX9_clears 172 = .ok (.goto 4, 3) := by decide +kernel
theorem dX9_clears_175 : decode cX9_clears 175 = .ok (.iload_n 3, 1) := by decide +kernel
theorem dX9_clears_176 : decode cX9_clears 176 = .ok (.istore_n 3, 1) := by decide +kernel
theorem dX9_clears_177 : decode cX9_clears 177 = .ok (.iinc 4 1, 3) := by decide +kernel
theorem dX9_clears_180 : decode cX9_clears 180 = .ok (.goto (-66), 3) := by decide +kernel
theorem dX9_clears_183 : decode cX9_clears 183 = .ok (.iconst 0, 1) := by decide +kernel
theorem dX9_clears_184 : decode cX9_clears 184 = .ok (.istore 4, 2) := by decide +kernel
theorem dX9_clears_186 : decode cX9_clears 186 = .ok (.iload 4, 2) := by decide +kernel
theorem dX9_clears_188 : decode cX9_clears 188 = .ok (.iload_n 2, 1) := by decide +kernel
theorem dX9_clears_189 : decode cX9_clears 189 = .ok (.if_icmp .ge 50, 3) := by decide +kernel
theorem dX9_clears_192 : decode cX9_clears 192 = .ok (.aload_n 0, 1) := by decide +kernel
theorem dX9_clears_193 : decode cX9_clears 193 = .ok (.getfield 49, 3) := by decide +kernel
theorem dX9_clears_196 : decode cX9_clears 196 = .ok (.bipush 6, 2) := by decide +kernel
theorem dX9_clears_198 : decode cX9_clears 198 = .ok (.aload_n 0, 1) := by decide +kernel
theorem dX9_clears_199 : decode cX9_clears 199 = .ok (.getfield 52, 3) := by decide +kernel
theorem dX9_clears_202 : decode cX9_clears 202 = .ok (.iload 4, 2) := by decide +kernel
theorem dX9_clears_204 : decode cX9_clears 204 = .ok (.iaload, 1) := by decide +kernel
theorem dX9_clears_205 : decode cX9_clears 205 = .ok (.imul, 1) := by decide +kernel
theorem dX9_clears_206 : decode cX9_clears 206 = .ok (.aload_n 0, 1) := by decide +kernel
theorem dX9_clears_207 : decode cX9_clears 207 = .ok (.getfield 52, 3) := by decide +kernel
theorem dX9_clears_210 : decode cX9_clears 210 = .ok (.iload 4, 2) := by decide +kernel
theorem dX9_clears_212 : decode cX9_clears 212 = .ok (.iconst 1, 1) := by decide +kernel
theorem dX9_clears_213 : decode cX9_clears 213 = .ok (.iadd, 1) := by decide +kernel
theorem dX9_clears_214 : decode cX9_clears 214 = .ok (.iload_n 2, 1) := by decide +kernel
theorem dX9_clears_215 : decode cX9_clears 215 = .ok (.if_icmp .ne 7, 3) := by decide +kernel
theorem dX9_clears_218 : decode cX9_clears 218 = .ok (.iconst 0, 1) := by decide +kernel
theorem dX9_clears_219 : decode cX9_clears 219 = .ok (.goto 7, 3) := by decide +kernel
theorem dX9_clears_222 : decode cX9_clears 222 = .ok (.iload 4, 2) := by decide +kernel
theorem dX9_clears_224 : decode cX9_clears 224 = .ok (.iconst 1, 1) := by decide +kernel
theorem dX9_clears_225 : decode cX9_clears 225 = .ok (.iadd, 1) := by decide +kernel
theorem dX9_clears_226 : decode cX9_clears 226 = .ok (.iaload, 1) := by decide +kernel
theorem dX9_clears_227 : decode cX9_clears 227 = .ok (.iadd, 1) := by decide +kernel
theorem dX9_clears_228 : decode cX9_clears 228 = .ok (.dup2, 1) := by decide +kernel
theorem dX9_clears_229 : decode cX9_clears 229 = .ok (.iaload, 1) := by decide +kernel
theorem dX9_clears_230 : decode cX9_clears 230 = .ok (.iload_n 3, 1) := by decide +kernel
theorem dX9_clears_231 : decode cX9_clears 231 = .ok (.isub, 1) := by decide +kernel
theorem dX9_clears_232 : decode cX9_clears 232 = .ok (.iastore, 1) := by decide +kernel
theorem dX9_clears_233 : decode cX9_clears 233 = .ok (.iinc 4 1, 3) := by decide +kernel
theorem dX9_clears_236 : decode cX9_clears 236 = .ok (.goto (-50), 3) := by decide +kernel
theorem dX9_clears_239 : decode cX9_clears 239 = .ok (.iload_n 1, 1) := by decide +kernel
theorem dX9_clears_240 : decode cX9_clears 240 = .ok (.iload_n 3, 1) := by decide +kernel
theorem dX9_clears_241 : decode cX9_clears 241 = .ok (.iload_n 2, 1) := by decide +kernel
theorem dX9_clears_242 : decode cX9_clears 242 = .ok (.imul, 1) := by decide +kernel
theorem dX9_clears_243 : decode cX9_clears 243 = .ok (.iadd, 1) := by decide +kernel
theorem dX9_clears_244 : decode cX9_clears 244 = .ok (.istore_n 1, 1) := by decide +kernel
theorem dX9_clears_245 : decode cX9_clears 245 = .ok (.goto (-152), 3) := by decide +kernel
theorem dX9_clears_248 : decode cX9_clears 248 = .ok (.iinc 2 1, 3) := by decide +kernel
theorem dX9_clears_251 : decode cX9_clears 251 = .ok (.goto (-158), 3) := by decide +kernel
theorem dX9_clears_254 : decode cX9_clears 254 = .ok (.iload_n 1, 1) := by decide +kernel
theorem dX9_clears_255 : decode cX9_clears 255 = .ok (.ireturn, 1) := by decide +kernel
theorem dX9_cleared_0 : decode cX9_cleared 0 = .ok (.aload_n 0, 1) := by decide +kernel
theorem dX9_cleared_1 : decode cX9_cleared 1 = .ok (.iconst 0, 1) := by decide +kernel
theorem dX9_cleared_2 : decode cX9_cleared 2 = .ok (.putfield 68, 3) := by decide +kernel
theorem dX9_cleared_5 : decode cX9_cleared 5 = .ok (.iload_n 1, 1) := by decide +kernel
theorem dX9_cleared_6 : decode cX9_cleared 6 = .ok (.iconst (-1), 1) := by decide +kernel
theorem dX9_cleared_7 : decode cX9_cleared 7 = .ok (.if_icmp .ne 12, 3) := by decide +kernel
theorem dX9_cleared_10 : decode cX9_cleared 10 = .ok (.iload_n 2, 1) := by decide +kernel
theorem dX9_cleared_11 : decode cX9_cleared 11 = .ok (.iconst (-1), 1) := by decide +kernel
theorem dX9_cleared_12 : decode cX9_cleared 12 = .ok (.if_icmp .ne 7, 3) := by decide +kernel
theorem dX9_cleared_15 : decode cX9_cleared 15 = .ok (.iconst 1, 1) := by decide +kernel
theorem dX9_cleared_16 : decode cX9_cleared 16 = .ok (.goto 4, 3) := by decide +kernel
theorem dX9_cleared_19 : decode cX9_cleared 19 = .ok (.iconst 0, 1) := by decide +kernel
theorem dX9_cleared_20 : decode cX9_cleared 20 = .ok (.istore_n 3, 1) := by decide +kernel
theorem dX9_cleared_21 : decode cX9_cleared 21 = .ok (.iload_n 3, 1) := by decide +kernel
theorem dX9_cleared_22 : decode cX9_cleared 22 = .ok (.ifCond .ne 21, 3) := by decide +kernel
theorem dX9_cleared_25 : decode cX9_cleared 25 = .ok (.aload_n 0, 1) := by decide +kernel
theorem dX9_cleared_26 : decode cX9_cleared 26 = .ok (.iload_n 1, 1) := by decide +kernel
theorem dX9_cleared_27 : decode cX9_cleared 27 = .ok (.invokevirtual 107, 3) := by decide +kernel
theorem dX9_cleared_30 : decode cX9_cleared 30 = .ok (.ifCond .eq 11, 3) := by decide +kernel
theorem dX9_cleared_33 : decode cX9_cleared 33 = .ok (.aload_n 0, 1) := by decide +kernel
theorem dX9_cleared_34 : decode cX9_cleared 34 = .ok (.iload_n 2, 1) := by decide +kernel
theorem dX9_cleared_35 : decode cX9_cleared 35 = .ok (.invokevirtual 107, 3) := by decide +kernel
theorem dX9_cleared_38 : decode cX9_cleared 38 = .ok (.ifCond .ne 5, 3) := by decide +kernel
theorem dX9_cleared_41 : decode cX9_cleared 41 = .ok (.iconst (-1), 1) := by decide +kernel
theorem dX9_cleared_42 : decode cX9_cleared 42 = .ok (.ireturn, 1) := by decide +kernel
theorem dX9_cleared_43 : decode cX9_cleared 43 = .ok (.aload_n 0, 1) := by decide +kernel
theorem dX9_cleared_44 : decode cX9_cleared 44 = .ok (.invokevirtual 178, 3) := by decide +kernel
theorem dX9_cleared_47 : decode cX9_cleared 47 = .ok (.istore 4, 2) := by decide +kernel
theorem dX9_cleared_49 : decode cX9_cleared 49 = .ok (.iload_n 3, 1) := by decide +kernel
theorem dX9_cleared_50 : decode cX9_cleared 50 = .ok (.ifCond .eq 8, 3) := by decide +kernel
theorem dX9_cleared_53 : decode cX9_cleared 53 = .ok (.iload 4, 2) := by decide +kernel
theorem dX9_cleared_55 : decode cX9_cleared 55 = .ok (.goto 23, 3) := by decide +kernel
theorem dX9_cleared_58 : decode cX9_cleared 58 = .ok (.iload_n 1, 1) := by decide +kernel
theorem dX9_cleared_59 : decode cX9_cleared 59 = .ok (.iload_n 2, 1) := by decide +kernel
theorem dX9_cleared_60 : decode cX9_cleared 60 = .ok (.if_icmp .ne 7, 3) := by decide +kernel
theorem dX9_cleared_63 : decode cX9_cleared 63 = .ok (.iconst 0, 1) := by decide +kernel
theorem dX9_cleared_64 : decode cX9_cleared 64 = .ok (.goto 14, 3) := by decide +kernel
theorem dX9_cleared_67 : decode cX9_cleared 67 = .ok (.aload_n 0, 1) := by decide +kernel
theorem dX9_cleared_68 : decode cX9_cleared 68 = .ok (.getfield 49, 3) := by decide +kernel
theorem dX9_cleared_71 : decode cX9_cleared 71 = .ok (.bipush 6, 2) := by decide +kernel
theorem dX9_cleared_73 : decode cX9_cleared 73 = .ok (.iload_n 1, 1) := by decide +kernel
theorem dX9_cleared_74 : decode cX9_cleared 74 = .ok (.imul, 1) := by decide +kernel
theorem dX9_cleared_75 : decode cX9_cleared 75 = .ok (.iload_n 2, 1) := by decide +kernel
theorem dX9_cleared_76 : decode cX9_cleared 76 = .ok (.iadd, 1) := by decide +kernel
theorem dX9_cleared_77 : decode cX9_cleared 77 = .ok (.iaload, 1) := by decide +kernel
theorem dX9_cleared_78 : decode cX9_cleared 78 = .ok (.ireturn, 1) := by decide +kernel
theorem dX9_shares_0 : decode cX9_shares 0 = .ok (.iconst 0, 1) := by decide +kernel
theorem dX9_shares_1 : decode cX9_shares 1 = .ok (.istore_n 2, 1) := by decide +kernel
theorem dX9_shares_2 : decode cX9_shares 2 = .ok (.iconst 0, 1) := by decide +kernel
theorem dX9_shares_3 : decode cX9_shares 3 = .ok (.istore_n 3, 1) := by decide +kernel
theorem dX9_shares_4 : decode cX9_shares 4 = .ok (.iload_n 3, 1) := by decide +kernel
theorem dX9_shares_5 : decode cX9_shares 5 = .ok (.aload_n 0, 1) := by decide +kernel
theorem dX9_shares_6 : decode cX9_shares 6 = .ok (.getfield 58, 3) := by decide +kernel
theorem dX9_shares_9 : decode cX9_shares 9 = .ok (.if_icmp .ge 18, 3) := by decide +kernel
theorem dX9_shares_12 : decode cX9_shares 12 = .ok (.iload_n 2, 1) := by decide +kernel
theorem dX9_shares_13 : decode cX9_shares 13 = .ok (.aload_n 0, 1) := by decide +kernel
theorem dX9_shares_14 : decode cX9_shares 14 = .ok (.getfield 19, 3) := by decide +kernel
theorem dX9_shares_17 : decode cX9_shares 17 = .ok (.iload_n 3, 1) := by decide +kernel
theorem dX9_shares_18 : decode cX9_shares 18 = .ok (.iaload, 1) := by decide +kernel
theorem dX9_shares_19 : decode cX9_shares 19 = .ok (.iadd, 1) := by decide +kernel
theorem dX9_shares_20 : decode cX9_shares 20 = .ok (.istore_n 2, 1) := by decide +kernel
theorem dX9_shares_21 : decode cX9_shares 21 = .ok (.iinc 3 1, 3) := by decide +kernel
theorem dX9_shares_24 : decode cX9_shares 24 = .ok (.goto (-20), 3) := by decide +kernel
theorem dX9_shares_27 : decode cX9_shares 27 = .ok (.iload_n 1, 1) := by decide +kernel
theorem dX9_shares_28 : decode cX9_shares 28 = .ok (.istore_n 3, 1) := by decide +kernel
theorem dX9_shares_29 : decode cX9_shares 29 = .ok (.iconst 0, 1) := by decide +kernel
theorem dX9_shares_30 : decode cX9_shares 30 = .ok (.istore 4, 2) := by decide +kernel
theorem dX9_shares_32 : decode cX9_shares 32 = .ok (.iload 4, 2) := by decide +kernel
theorem dX9_shares_34 : decode cX9_shares 34 = .ok (.aload_n 0, 1) := by decide +kernel
theorem dX9_shares_35 : decode cX9_shares 35 = .ok (.getfield 58, 3) := by decide +kernel
theorem dX9_shares_38 : decode cX9_shares 38 = .ok (.if_icmp .ge 69, 3) := by decide +kernel
theorem dX9_shares_41 : decode cX9_shares 41 = .ok (.aload_n 0, 1) := by decide +kernel
theorem dX9_shares_42 : decode cX9_shares 42 = .ok (.getfield 43, 3) := by decide +kernel
theorem dX9_shares_45 : decode cX9_shares 45 = .ok (.iload 4, 2) := by decide +kernel
theorem dX9_shares_47 : decode cX9_shares 47 = .ok (.iload_n 1, 1) := by decide +kernel
theorem dX9_shares_48 : decode cX9_shares 48 = .ok (.aload_n 0, 1) := by decide +kernel
theorem dX9_shares_49 : decode cX9_shares 49 = .ok (.getfield 19, 3) := by decide +kernel
theorem dX9_shares_52 : decode cX9_shares 52 = .ok (.iload 4, 2) := by decide +kernel
theorem dX9_shares_54 : decode cX9_shares 54 = .ok (.iaload, 1) := by decide +kernel
theorem dX9_shares_55 : decode cX9_shares 55 = .ok (.imul, 1) := by decide +kernel
theorem dX9_shares_56 : decode cX9_shares 56 = .ok (.iload_n 2, 1) := by decide +kernel
theorem dX9_shares_57 : decode cX9_shares 57 = .ok (.idiv, 1) := by decide +kernel
theorem dX9_shares_58 : decode cX9_shares 58 = .ok (.iastore, 1) := by decide +kernel
theorem dX9_shares_59 : decode cX9_shares 59 = .ok (.aload_n 0, 1) := by decide +kernel
theorem dX9_shares_60 : decode cX9_shares 60 = .ok (.getfield 46, 3) := by decide +kernel
theorem dX9_shares_63 : decode cX9_shares 63 = .ok (.iload 4, 2) := by decide +kernel
theorem dX9_shares_65 : decode cX9_shares 65 = .ok (.aload_n 0, 1) := by decide +kernel
theorem dX9_shares_66 : decode cX9_shares 66 = .ok (.getfield 19, 3) := by decide +kernel
theorem dX9_shares_69 : decode cX9_shares 69 = .ok (.iload 4, 2) := by decide +kernel
theorem dX9_shares_71 : decode cX9_shares 71 = .ok (.iaload, 1) := by decide +kernel
theorem dX9_shares_72 : decode cX9_shares 72 = .ok (.ifCond .le 17, 3) := by decide +kernel
theorem dX9_shares_75 : decode cX9_shares 75 = .ok (.iload_n 1, 1) := by decide +kernel
theorem dX9_shares_76 : decode cX9_shares 76 = .ok (.aload_n 0, 1) := by decide +kernel
theorem dX9_shares_77 : decode cX9_shares 77 = .ok (.getfield 19, 3) := by decide +kernel
theorem dX9_shares_80 : decode cX9_shares 80 = .ok (.iload 4, 2) := by decide +kernel
theorem dX9_shares_82 : decode cX9_shares 82 = .ok (.iaload, 1) := by decide +kernel
theorem dX9_shares_83 : decode cX9_shares 83 = .ok (.imul, 1) := by decide +kernel
theorem dX9_shares_84 : decode cX9_shares 84 = .ok (.iload_n 2, 1) := by decide +kernel
theorem dX9_shares_85 : decode cX9_shares 85 = .ok (.irem, 1) := by decide +kernel
theorem dX9_shares_86 : decode cX9_shares 86 = .ok (.goto 4, 3) := by decide +kernel
theorem dX9_shares_89 : decode cX9_shares 89 = .ok (.iconst (-1), 1) := by decide +kernel
theorem dX9_shares_90 : decode cX9_shares 90 = .ok (.iastore, 1) := by decide +kernel
theorem dX9_shares_91 : decode cX9_shares 91 = .ok (.iload_n 3, 1) := by decide +kernel
theorem dX9_shares_92 : decode cX9_shares 92 = .ok (.aload_n 0, 1) := by decide +kernel
theorem dX9_shares_93 : decode cX9_shares 93 = .ok (.getfield 43, 3) := by decide +kernel
theorem dX9_shares_96 : decode cX9_shares 96 = .ok (.iload 4, 2) := by decide +kernel
theorem dX9_shares_98 : decode cX9_shares 98 = .ok (.iaload, 1) := by decide +kernel
theorem dX9_shares_99 : decode cX9_shares 99 = .ok (.isub, 1) := by decide +kernel
theorem dX9_shares_100 : decode cX9_shares 100 = .ok (.istore_n 3, 1) := by decide +kernel
theorem dX9_shares_101 : decode cX9_shares 101 = .ok (.iinc 4 1, 3) := by decide +kernel
theorem dX9_shares_104 : decode cX9_shares 104 = .ok (.goto (-72), 3) := by decide +kernel
