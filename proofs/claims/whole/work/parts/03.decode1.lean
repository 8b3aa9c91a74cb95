theorem dX6_bestDue_51 : decode cX6_bestDue 51 = .ok (.iload 8, 2) := by decide +kernel
theorem dX6_bestDue_53 : decode cX6_bestDue 53 = .ok (.iload 9, 2) := by decide +kernel
theorem dX6_bestDue_55 : decode cX6_bestDue 55 = .ok (.invokestatic 26, 3) := by decide +kernel
theorem dX6_bestDue_58 : decode cX6_bestDue 58 = .ok (.istore 10, 2) := by decide +kernel
theorem dX6_bestDue_60 : decode cX6_bestDue 60 = .ok (.iload 8, 2) := by decide +kernel
theorem dX6_bestDue_62 : decode cX6_bestDue 62 = .ok (.ifCond .le 23, 3) := by decide +kernel
theorem dX6_bestDue_65 : decode cX6_bestDue 65 = .ok (.iload 9, 2) := by decide +kernel
theorem dX6_bestDue_67 : decode cX6_bestDue 67 = .ok (.ifCond .le 18, 3) := by decide +kernel
theorem dX6_bestDue_70 : decode cX6_bestDue 70 = .ok (.iload 10, 2) := by decide +kernel
theorem dX6_bestDue_72 : decode cX6_bestDue 72 = .ok (.iload 6, 2) := by decide +kernel
theorem dX6_bestDue_74 : decode cX6_bestDue 74 = .ok (.if_icmp .ge 11, 3) := by decide +kernel
theorem dX6_bestDue_77 : decode cX6_bestDue 77 = .ok (.iload 7, 2) := by decide +kernel
theorem dX6_bestDue_79 : decode cX6_bestDue 79 = .ok (.istore 5, 2) := by decide +kernel
theorem dX6_bestDue_81 : decode cX6_bestDue 81 = .ok (.iload 10, 2) := by decide +kernel
theorem dX6_bestDue_83 : decode cX6_bestDue 83 = .ok (.istore 6, 2) := by decide +kernel
theorem dX6_bestDue_85 : decode cX6_bestDue 85 = .ok (.iinc 7 1, 3) := by decide +kernel
theorem dX6_bestDue_88 : decode cX6_bestDue 88 = .ok (.goto (-64), 3) := by decide +kernel
theorem dX6_bestDue_91 : decode cX6_bestDue 91 = .ok (.iload 5, 2) := by decide +kernel
theorem dX6_bestDue_93 : decode cX6_bestDue 93 = .ok (.ireturn, 1) := by decide +kernel
theorem dX6_untrueOf_0 : decode cX6_untrueOf 0 = .ok (.iconst 0, 1) := by decide +kernel
theorem dX6_untrueOf_1 : decode cX6_untrueOf 1 = .ok (.istore_n 2, 1) := by decide +kernel
theorem dX6_untrueOf_2 : decode cX6_untrueOf 2 = .ok (.iconst 0, 1) := by decide +kernel
theorem dX6_untrueOf_3 : decode cX6_untrueOf 3 = .ok (.istore_n 3, 1) := by decide +kernel
theorem dX6_untrueOf_4 : decode cX6_untrueOf 4 = .ok (.iload_n 3, 1) := by decide +kernel
theorem dX6_untrueOf_5 : decode cX6_untrueOf 5 = .ok (.aload_n 0, 1) := by decide +kernel
theorem dX6_untrueOf_6 : decode cX6_untrueOf 6 = .ok (.getfield 22, 3) := by decide +kernel
theorem dX6_untrueOf_9 : decode cX6_untrueOf 9 = .ok (.if_icmp .ge 57, 3) := by decide +kernel
theorem dX6_untrueOf_12 : decode cX6_untrueOf 12 = .ok (.aload_n 1, 1) := by decide +kernel
theorem dX6_untrueOf_13 : decode cX6_untrueOf 13 = .ok (.getfield 43, 3) := by decide +kernel
theorem dX6_untrueOf_16 : decode cX6_untrueOf 16 = .ok (.aload_n 0, 1) := by decide +kernel
theorem dX6_untrueOf_17 : decode cX6_untrueOf 17 = .ok (.getfield 9, 3) := by decide +kernel
theorem dX6_untrueOf_20 : decode cX6_untrueOf 20 = .ok (.iload_n 3, 1) := by decide +kernel
theorem dX6_untrueOf_21 : decode cX6_untrueOf 21 = .ok (.iaload, 1) := by decide +kernel
theorem dX6_untrueOf_22 : decode cX6_untrueOf 22 = .ok (.iaload, 1) := by decide +kernel
theorem dX6_untrueOf_23 : decode cX6_untrueOf 23 = .ok (.aload_n 0, 1) := by decide +kernel
theorem dX6_untrueOf_24 : decode cX6_untrueOf 24 = .ok (.getfield 15, 3) := by decide +kernel
theorem dX6_untrueOf_27 : decode cX6_untrueOf 27 = .ok (.iload_n 3, 1) := by decide +kernel
theorem dX6_untrueOf_28 : decode cX6_untrueOf 28 = .ok (.iaload, 1) := by decide +kernel
theorem dX6_untrueOf_29 : decode cX6_untrueOf 29 = .ok (.if_icmp .le 7, 3) := by decide +kernel
theorem dX6_untrueOf_32 : decode cX6_untrueOf 32 = .ok (.iconst 1, 1) := by decide +kernel
theorem dX6_untrueOf_33 : decode cX6_untrueOf 33 = .ok (.goto 4, 3) := by decide +kernel
theorem dX6_untrueOf_36 : decode cX6_untrueOf 36 = .ok (.iconst 0, 1) := by decide +kernel
theorem dX6_untrueOf_37 : decode cX6_untrueOf 37 = .ok (.istore 4, 2) := by decide +kernel
theorem dX6_untrueOf_39 : decode cX6_untrueOf 39 = .ok (.iload_n 2, 1) := by decide +kernel
theorem dX6_untrueOf_40 : decode cX6_untrueOf 40 = .ok (.iload 4, 2) := by decide +kernel
theorem dX6_untrueOf_42 : decode cX6_untrueOf 42 = .ok (.aload_n 0, 1) := by decide +kernel
theorem dX6_untrueOf_43 : decode cX6_untrueOf 43 = .ok (.getfield 18, 3) := by decide +kernel
theorem dX6_untrueOf_46 : decode cX6_untrueOf 46 = .ok (.iload_n 3, 1) := by decide +kernel
theorem dX6_untrueOf_47 : decode cX6_untrueOf 47 = .ok (.baload, 1) := by decide +kernel
theorem dX6_untrueOf_48 : decode cX6_untrueOf 48 = .ok (.if_icmp .ne 7, 3) := by decide +kernel
theorem dX6_untrueOf_51 : decode cX6_untrueOf 51 = .ok (.iconst 0, 1) := by decide +kernel
theorem dX6_untrueOf_52 : decode cX6_untrueOf 52 = .ok (.goto 6, 3) := by decide +kernel
theorem dX6_untrueOf_55 : decode cX6_untrueOf 55 = .ok (.iconst 1, 1) := by decide +kernel
theorem dX6_untrueOf_56 : decode cX6_untrueOf 56 = .ok (.iload_n 3, 1) := by decide +kernel
theorem dX6_untrueOf_57 : decode cX6_untrueOf 57 = .ok (.ishl, 1) := by decide +kernel
theorem dX6_untrueOf_58 : decode cX6_untrueOf 58 = .ok (.ior, 1) := by decide +kernel
theorem dX6_untrueOf_59 : decode cX6_untrueOf 59 = .ok (.istore_n 2, 1) := by decide +kernel
theorem dX6_untrueOf_60 : decode cX6_untrueOf 60 = .ok (.iinc 3 1, 3) := by decide +kernel
theorem dX6_untrueOf_63 : decode cX6_untrueOf 63 = .ok (.goto (-59), 3) := by decide +kernel
theorem dX6_untrueOf_66 : decode cX6_untrueOf 66 = .ok (.iload_n 2, 1) := by decide +kernel
theorem dX6_untrueOf_67 : decode cX6_untrueOf 67 = .ok (.ireturn, 1) := by decide +kernel
theorem dX7_init_0 : decode cX7_init 0 = .ok (.aload_n 0, 1) := by decide +kernel
theorem dX7_init_1 : decode cX7_init 1 = .ok (.invokespecial 3, 3) := by decide +kernel
theorem dX7_init_4 : decode cX7_init 4 = .ok (.aload_n 0, 1) := by decide +kernel
theorem dX7_init_5 : decode cX7_init 5 = .ok (.bipush 6, 2) := by decide +kernel
theorem dX7_init_7 : decode cX7_init 7 = .ok (.newarray .int, 2) := by decide +kernel
theorem dX7_init_9 : decode cX7_init 9 = .ok (.putfield 9, 3) := by decide +kernel
theorem dX7_init_12 : decode cX7_init 12 = .ok (.aload_n 0, 1) := by decide +kernel
theorem dX7_init_13 : decode cX7_init 13 = .ok (.new 15, 3) := by decide +kernel
theorem dX7_init_16 : decode cX7_init 16 = .ok (.dup, 1) := by decide +kernel
theorem dX7_init_17 : decode cX7_init 17 = .ok (.aload_n 1, 1) := by decide +kernel
theorem dX7_init_18 : decode cX7_init 18 = .ok (.invokespecial 17, 3) := by decide +kernel
theorem dX7_init_21 : decode cX7_init 21 = .ok (.putfield 20, 3) := by decide +kernel
theorem dX7_init_24 : decode cX7_init 24 = .ok (.return_, 1) := by decide +kernel
theorem dX7_start_0 : decode cX7_start 0 = .ok (.aload_n 0, 1) := by decide +kernel
theorem dX7_start_1 : decode cX7_start 1 = .ok (.getfield 20, 3) := by decide +kernel
theorem dX7_start_4 : decode cX7_start 4 = .ok (.aload_n 1, 1) := by decide +kernel
theorem dX7_start_5 : decode cX7_start 5 = .ok (.invokevirtual 24, 3) := by decide +kernel
theorem dX7_start_8 : decode cX7_start 8 = .ok (.aload_n 0, 1) := by decide +kernel
theorem dX7_start_9 : decode cX7_start 9 = .ok (.getfield 20, 3) := by decide +kernel
theorem dX7_start_12 : decode cX7_start 12 = .ok (.invokevirtual 28, 3) := by decide +kernel
theorem dX7_start_15 : decode cX7_start 15 = .ok (.aload_n 0, 1) := by decide +kernel
theorem dX7_start_16 : decode cX7_start 16 = .ok (.iconst 0, 1) := by decide +kernel
theorem dX7_start_17 : decode cX7_start 17 = .ok (.putfield 31, 3) := by decide +kernel
theorem dX7_start_20 : decode cX7_start 20 = .ok (.iconst 0, 1) := by decide +kernel
theorem dX7_start_21 : decode cX7_start 21 = .ok (.istore_n 2, 1) := by decide +kernel
theorem dX7_start_22 : decode cX7_start 22 = .ok (.iload_n 2, 1) := by decide +kernel
theorem dX7_start_23 : decode cX7_start 23 = .ok (.bipush 6, 2) := by decide +kernel
theorem dX7_start_25 : decode cX7_start 25 = .ok (.if_icmp .ge 32, 3) := by decide +kernel
theorem dX7_start_28 : decode cX7_start 28 = .ok (.aload_n 0, 1) := by decide +kernel
theorem dX7_start_29 : decode cX7_start 29 = .ok (.getfield 9, 3) := by decide +kernel
theorem dX7_start_32 : decode cX7_start 32 = .ok (.iload_n 2, 1) := by decide +kernel
theorem dX7_start_33 : decode cX7_start 33 = .ok (.aload_n 0, 1) := by decide +kernel
theorem dX7_start_34 : decode cX7_start 34 = .ok (.getfield 20, 3) := by decide +kernel
theorem dX7_start_37 : decode cX7_start 37 = .ok (.iload_n 2, 1) := by decide +kernel
theorem dX7_start_38 : decode cX7_start 38 = .ok (.invokevirtual 35, 3) := by decide +kernel
theorem dX7_start_41 : decode cX7_start 41 = .ok (.ifCond .eq 8, 3) := by decide +kernel
theorem dX7_start_44 : decode cX7_start 44 = .ok (.ldc 39, 2) := by decide +kernel
theorem dX7_start_46 : decode cX7_start 46 = .ok (.goto 4, 3) := by decide +kernel
theorem dX7_start_49 : decode cX7_start 49 = .ok (.iconst 0, 1) := by decide +kernel
theorem dX7_start_50 : decode cX7_start 50 = .ok (.iastore, 1) := by decide +kernel
theorem dX7_start_51 : decode cX7_start 51 = .ok (.iinc 2 1, 3) := by decide +kernel
theorem dX7_start_54 : decode cX7_start 54 = .ok (.goto (-32), 3) := by decide +kernel
theorem dX7_start_57 : decode cX7_start 57 = .ok (.return_, 1) := by decide +kernel
theorem dX7_startWithout_0 : decode cX7_startWithout 0 = .ok (.aload_n 0, 1) := by decide +kernel
theorem dX7_startWithout_1 : decode cX7_startWithout 1 = .ok (.aload_n 2, 1) := by decide +kernel
theorem dX7_startWithout_2 : decode cX7_startWithout 2 = .ok (.invokevirtual 40, 3) := by decide +kernel
theorem dX7_startWithout_5 : decode cX7_startWithout 5 = .ok (.aload_n 0, 1) := by decide +kernel
theorem dX7_startWithout_6 : decode cX7_startWithout 6 = .ok (.getfield 20, 3) := by decide +kernel
theorem dX7_startWithout_9 : decode cX7_startWithout 9 = .ok (.iload_n 1, 1) := by decide +kernel
theorem dX7_startWithout_10 : decode cX7_startWithout 10 = .ok (.invokevirtual 35, 3) := by decide +kernel
theorem dX7_startWithout_13 : decode cX7_startWithout 13 = .ok (.ifCond .eq 20, 3) := by decide +kernel
theorem dX7_startWithout_16 : decode cX7_startWithout 16 = .ok (.aload_n 0, 1) := by decide +kernel
theorem dX7_startWithout_17 : decode cX7_startWithout 17 = .ok (.getfield 20, 3) := by decide +kernel
theorem dX7_startWithout_20 : decode cX7_startWithout 20 = .ok (.getfield 43, 3) := by decide +kernel
theorem dX7_startWithout_23 : decode cX7_startWithout 23 = .ok (.iload_n 1, 1) := by decide +kernel
theorem dX7_startWithout_24 : decode cX7_startWithout 24 = .ok (.iconst 0, 1) := by decide +kernel
theorem dX7_startWithout_25 : decode cX7_startWithout 25 = .ok (.iastore, 1) := by decide +kernel
theorem dX7_startWithout_26 : decode cX7_startWithout 26 = .ok (.aload_n 0, 1) := by decide +kernel
theorem dX7_startWithout_27 : decode cX7_startWithout 27 = .ok (.getfield 9, 3) := by decide +kernel
theorem dX7_startWithout_30 : decode cX7_startWithout 30 = .ok (.iload_n 1, 1) := by decide +kernel
theorem dX7_startWithout_31 : decode cX7_startWithout 31 = .ok (.iconst 0, 1) := by decide +kernel
theorem dX7_startWithout_32 : decode cX7_startWithout 32 = .ok (.iastore, 1) := by decide +kernel
theorem dX7_startWithout_33 : decode cX7_startWithout 33 = .ok (.return_, 1) := by decide +kernel
theorem dX7_advance_0 : decode cX7_advance 0 = .ok (.iload_n 1, 1) := by decide +kernel
theorem dX7_advance_1 : decode cX7_advance 1 = .ok (.istore_n 2, 1) := by decide +kernel
theorem dX7_advance_2 : decode cX7_advance 2 = .ok (.iload_n 2, 1) := by decide +kernel
theorem dX7_advance_3 : decode cX7_advance 3 = .ok (.ifCond .le 46, 3) := by decide +kernel
theorem dX7_advance_6 : decode cX7_advance 6 = .ok (.iconst 1, 1) := by decide +kernel
theorem dX7_advance_7 : decode cX7_advance 7 = .ok (.aload_n 0, 1) := by decide +kernel
theorem dX7_advance_8 : decode cX7_advance 8 = .ok (.getfield 20, 3) := by decide +kernel
theorem dX7_advance_11 : decode cX7_advance 11 = .ok (.iload_n 2, 1) := by decide +kernel
theorem dX7_advance_12 : decode cX7_advance 12 = .ok (.invokevirtual 46, 3) := by decide +kernel
theorem dX7_advance_15 : decode cX7_advance 15 = .ok (.invokestatic 50, 3) := by decide +kernel
theorem dX7_advance_18 : decode cX7_advance 18 = .ok (.istore_n 3, 1) := by decide +kernel
theorem dX7_advance_19 : decode cX7_advance 19 = .ok (.aload_n 0, 1) := by decide +kernel
theorem dX7_advance_20 : decode cX7_advance 20 = .ok (.iload_n 3, 1) := by decide +kernel
theorem dX7_advance_21 : decode cX7_advance 21 = .ok (.invokevirtual 56, 3) := by decide +kernel
theorem dX7_advance_24 : decode cX7_advance 24 = .ok (.aload_n 0, 1) := by decide +kernel
theorem dX7_advance_25 : decode cX7_advance 25 = .ok (.getfield 20, 3) := by decide +kernel
theorem dX7_advance_28 : decode cX7_advance 28 = .ok (.iload_n 3, 1) := by decide +kernel
theorem dX7_advance_29 : decode cX7_advance 29 = .ok (.invokevirtual 60, 3) := by decide +kernel
theorem dX7_advance_32 : decode cX7_advance 32 = .ok (.aload_n 0, 1) := by decide +kernel
theorem dX7_advance_33 : decode cX7_advance 33 = .ok (.dup, 1) := by decide +kernel
theorem dX7_advance_34 : decode cX7_advance 34 = .ok (.getfield 31, 3) := by decide +kernel
theorem dX7_advance_37 : decode cX7_advance 37 = .ok (.iload_n 3, 1) := by decide +kernel
theorem dX7_advance_38 : decode cX7_advance 38 = .ok (.iadd, 1) := by decide +kernel
theorem dX7_advance_39 : decode cX7_advance 39 = .ok (.putfield 31, 3) := by decide +kernel
theorem dX7_advance_42 : decode cX7_advance 42 = .ok (.iload_n 2, 1) := by decide +kernel
theorem dX7_advance_43 : decode cX7_advance 43 = .ok (.iload_n 3, 1) := by decide +kernel
theorem dX7_advance_44 : decode cX7_advance 44 = .ok (.isub, 1) := by decide +kernel
theorem dX7_advance_45 : decode cX7_advance 45 = .ok (.istore_n 2, 1) := by decide +kernel
theorem dX7_advance_46 : decode cX7_advance 46 = .ok (.goto (-44), 3) := by decide +kernel
theorem dX7_advance_49 : decode cX7_advance 49 = .ok (.return_, 1) := by decide +kernel
theorem dX7_noteDeaths_0 : decode cX7_noteDeaths 0 = .ok (.iconst 0, 1) := by decide +kernel
theorem dX7_noteDeaths_1 : decode cX7_noteDeaths 1 = .ok (.istore_n 2, 1) := by decide +kernel
theorem dX7_noteDeaths_2 : decode cX7_noteDeaths 2 = .ok (.iload_n 2, 1) := by decide +kernel
theorem dX7_noteDeaths_3 : decode cX7_noteDeaths 3 = .ok (.bipush 6, 2) := by decide +kernel
theorem dX7_noteDeaths_5 : decode cX7_noteDeaths 5 = .ok (.if_icmp .ge 53, 3) := by decide +kernel
theorem dX7_noteDeaths_8 : decode cX7_noteDeaths 8 = .ok (.aload_n 0, 1) := by decide +kernel
theorem dX7_noteDeaths_9 : decode cX7_noteDeaths 9 = .ok (.getfield 20, 3) := by decide +kernel
theorem dX7_noteDeaths_12 : decode cX7_noteDeaths 12 = .ok (.iload_n 2, 1) := by decide +kernel
theorem dX7_noteDeaths_13 : decode cX7_noteDeaths 13 = .ok (.invokevirtual 35, 3) := by decide +kernel
theorem dX7_noteDeaths_16 : decode cX7_noteDeaths 16 = .ok (.ifCond .eq 36, 3) := by decide +kernel
theorem dX7_noteDeaths_19 : decode cX7_noteDeaths 19 = .ok (.aload_n 0, 1) := by decide +kernel
theorem dX7_noteDeaths_20 : decode cX7_noteDeaths 20 = .ok (.getfield 20, 3) := by decide +kernel
theorem dX7_noteDeaths_23 : decode cX7_noteDeaths 23 = .ok (.getfield 43, 3) := by decide +kernel
theorem dX7_noteDeaths_26 : decode cX7_noteDeaths 26 = .ok (.iload_n 2, 1) := by decide +kernel
theorem dX7_noteDeaths_27 : decode cX7_noteDeaths 27 = .ok (.iaload, 1) := by decide +kernel
theorem dX7_noteDeaths_28 : decode cX7_noteDeaths 28 = .ok (.iload_n 1, 1) := by decide +kernel
theorem dX7_noteDeaths_29 : decode cX7_noteDeaths 29 = .ok (.if_icmp .gt 23, 3) := by decide +kernel
theorem dX7_noteDeaths_32 : decode cX7_noteDeaths 32 = .ok (.aload_n 0, 1) := by decide +kernel
theorem dX7_noteDeaths_33 : decode cX7_noteDeaths 33 = .ok (.getfield 9, 3) := by decide +kernel
theorem dX7_noteDeaths_36 : decode cX7_noteDeaths 36 = .ok (.iload_n 2, 1) := by decide +kernel
theorem dX7_noteDeaths_37 : decode cX7_noteDeaths 37 = .ok (.aload_n 0, 1) := by decide +kernel
theorem dX7_noteDeaths_38 : decode cX7_noteDeaths 38 = .ok (.getfield 31, 3) := by decide +kernel
theorem dX7_noteDeaths_41 : decode cX7_noteDeaths 41 = .ok (.aload_n 0, 1) := by decide +kernel
theorem dX7_noteDeaths_42 : decode cX7_noteDeaths 42 = .ok (.getfield 20, 3) := by decide +kernel
theorem dX7_noteDeaths_45 : decode cX7_noteDeaths 45 = .ok (.getfield 43, 3) := by decide +kernel
theorem dX7_noteDeaths_48 : decode cX7_noteDeaths 48 = .ok (.iload_n 2, 1) := by decide +kernel
theorem dX7_noteDeaths_49 : decode cX7_noteDeaths 49 = .ok (.iaload, 1) := by decide +kernel
theorem dX7_noteDeaths_50 : decode cX7_noteDeaths 50 = .ok (.iadd, 1) := by decide +kernel
theorem dX7_noteDeaths_51 : decode cX7_noteDeaths 51 = .ok (.iastore, 1) := by decide +kernel
theorem dX7_noteDeaths_52 : decode cX7_noteDeaths 52 = .ok (.iinc 2 1, 3) := by decide +kernel
theorem dX7_noteDeaths_55 : decode cX7_noteDeaths 55 = .ok (.goto (-53), 3) := by decide +kernel
theorem dX7_noteDeaths_58 : decode cX7_noteDeaths 58 = .ok (.return_, 1) := by decide +kernel
theorem dX7_loansPaidLessThan_0 : decode cX7_loansPaidLessThan 0 = .ok (.iconst 0, 1) := by decide +kernel
theorem dX7_loansPaidLessThan_1 : decode cX7_loansPaidLessThan 1 = .ok (.istore_n 2, 1) := by decide +kernel
theorem dX7_loansPaidLessThan_2 : decode cX7_loansPaidLessThan 2 = .ok (.iconst 0, 1) := by decide +kernel
theorem dX7_loansPaidLessThan_3 : decode cX7_loansPaidLessThan 3 = .ok (.istore_n 3, 1) := by decide +kernel
theorem dX7_loansPaidLessThan_4 : decode cX7_loansPaidLessThan 4 = .ok (.iload_n 3, 1) := by decide +kernel
theorem dX7_loansPaidLessThan_5 : decode cX7_loansPaidLessThan 5 = .ok (.bipush 8, 2) := by decide +kernel
theorem dX7_loansPaidLessThan_7 : decode cX7_loansPaidLessThan 7 = .ok (.if_icmp .ge 38, 3) := by decide +kernel
theorem dX7_loansPaidLessThan_10 : decode cX7_loansPaidLessThan 10 = .ok (.iload_n 2, 1) := by decide +kernel
theorem dX7_loansPaidLessThan_11 : decode cX7_loansPaidLessThan 11 = .ok (.aload_n 0, 1) := by decide +kernel
theorem dX7_loansPaidLessThan_12 : decode cX7_loansPaidLessThan 12 = .ok (.getfield 20, 3) := by decide +kernel
theorem dX7_loansPaidLessThan_15 : decode cX7_loansPaidLessThan 15 = .ok (.getfield 63, 3) := by decide +kernel
theorem dX7_loansPaidLessThan_18 : decode cX7_loansPaidLessThan 18 = .ok (.iload_n 3, 1) := by decide +kernel
theorem dX7_loansPaidLessThan_19 : decode cX7_loansPaidLessThan 19 = .ok (.iaload, 1) := by decide +kernel
theorem dX7_loansPaidLessThan_20 : decode cX7_loansPaidLessThan 20 = .ok (.aload_n 1, 1) := by decide +kernel
theorem dX7_loansPaidLessThan_21 : decode cX7_loansPaidLessThan 21 = .ok (.getfield 20, 3) := by decide +kernel
theorem dX7_loansPaidLessThan_24 : decode cX7_loansPaidLessThan 24 = .ok (.getfield 63, 3) := by decide +kernel
theorem dX7_loansPaidLessThan_27 : decode cX7_loansPaidLessThan 27 = .ok (.iload_n 3, 1) := by decide +kernel
theorem dX7_loansPaidLessThan_28 : decode cX7_loansPaidLessThan 28 = .ok (.iaload, 1) := by decide +kernel
theorem dX7_loansPaidLessThan_29 : decode cX7_loansPaidLessThan 29 = .ok (.if_icmp .ge 7, 3) := by decide +kernel
theorem dX7_loansPaidLessThan_32 : decode cX7_loansPaidLessThan 32 = .ok (.iconst 1, 1) := by decide +kernel
theorem dX7_loansPaidLessThan_33 : decode cX7_loansPaidLessThan 33 = .ok (.goto 4, 3) := by decide +kernel
theorem dX7_loansPaidLessThan_36 : decode cX7_loansPaidLessThan 36 = .ok (.iconst 0, 1) := by decide +kernel
theorem dX7_loansPaidLessThan_37 : decode cX7_loansPaidLessThan 37 = .ok (.iadd, 1) := by decide +kernel
theorem dX7_loansPaidLessThan_38 : decode cX7_loansPaidLessThan 38 = .ok (.istore_n 2, 1) := by decide +kernel
theorem dX7_loansPaidLessThan_39 : decode cX7_loansPaidLessThan 39 = .ok (.iinc 3 1, 3) := by decide +kernel
theorem dX7_loansPaidLessThan_42 : decode cX7_loansPaidLessThan 42 = .ok (.goto (-38), 3) := by decide +kernel
theorem dX7_loansPaidLessThan_45 : decode cX7_loansPaidLessThan 45 = .ok (.iload_n 2, 1) := by decide +kernel
theorem dX7_loansPaidLessThan_46 : decode cX7_loansPaidLessThan 46 = .ok (.ireturn, 1) := by decide +kernel
theorem dX7_firstDeadEarlierThan_0 : decode cX7_firstDeadEarlierThan 0 = .ok (.bipush (-4), 2) := by decide +kernel
theorem dX7_firstDeadEarlierThan_2 : decode cX7_firstDeadEarlierThan 2 = .ok (.istore_n 3, 1) := by decide +kernel
theorem dX7_firstDeadEarlierThan_3 : decode cX7_firstDeadEarlierThan 3 = .ok (.iconst 0, 1) := by decide +kernel
theorem dX7_firstDeadEarlierThan_4 : decode cX7_firstDeadEarlierThan 4 = .ok (.istore 4, 2) := by decide +kernel
theorem dX7_firstDeadEarlierThan_6 : decode cX7_firstDeadEarlierThan 6 = .ok (.iload 4, 2) := by decide +kernel
theorem dX7_firstDeadEarlierThan_8 : decode cX7_firstDeadEarlierThan 8 = .ok (.bipush 6, 2) := by decide +kernel
theorem dX7_firstDeadEarlierThan_10 : decode cX7_firstDeadEarlierThan 10 = .ok (.if_icmp .ge 69, 3) := by decide +kernel
theorem dX7_firstDeadEarlierThan_13 : decode cX7_firstDeadEarlierThan 13 = .ok (.iload 4, 2) := by decide +kernel
theorem dX7_firstDeadEarlierThan_15 : decode cX7_firstDeadEarlierThan 15 = .ok (.iload_n 2, 1) := by decide +kernel
theorem dX7_firstDeadEarlierThan_16 : decode cX7_firstDeadEarlierThan 16 = .ok (.if_icmp .eq 24, 3) := by decide +kernel
theorem dX7_firstDeadEarlierThan_19 : decode cX7_firstDeadEarlierThan 19 = .ok (.aload_n 0, 1) := by decide +kernel
theorem dX7_firstDeadEarlierThan_20 : decode cX7_firstDeadEarlierThan 20 = .ok (.getfield 9, 3) := by decide +kernel
theorem dX7_firstDeadEarlierThan_23 : decode cX7_firstDeadEarlierThan 23 = .ok (.iload 4, 2) := by decide +kernel
theorem dX7_firstDeadEarlierThan_25 : decode cX7_firstDeadEarlierThan 25 = .ok (.iaload, 1) := by decide +kernel
theorem dX7_firstDeadEarlierThan_26 : decode cX7_firstDeadEarlierThan 26 = .ok (.aload_n 1, 1) := by decide +kernel
theorem dX7_firstDeadEarlierThan_27 : decode cX7_firstDeadEarlierThan 27 = .ok (.getfield 9, 3) := by decide +kernel
theorem dX7_firstDeadEarlierThan_30 : decode cX7_firstDeadEarlierThan 30 = .ok (.iload 4, 2) := by decide +kernel
theorem dX7_firstDeadEarlierThan_32 : decode cX7_firstDeadEarlierThan 32 = .ok (.iaload, 1) := by decide +kernel
theorem dX7_firstDeadEarlierThan_33 : decode cX7_firstDeadEarlierThan 33 = .ok (.if_icmp .ge 7, 3) := by decide +kernel
theorem dX7_firstDeadEarlierThan_36 : decode cX7_firstDeadEarlierThan 36 = .ok (.iconst 1, 1) := by decide +kernel
theorem dX7_firstDeadEarlierThan_37 : decode cX7_firstDeadEarlierThan 37 = .ok (.goto 4, 3) := by decide +kernel
theorem dX7_firstDeadEarlierThan_40 : decode cX7_firstDeadEarlierThan 40 = .ok (.iconst 0, 1) := by decide +kernel
theorem dX7_firstDeadEarlierThan_41 : decode cX7_firstDeadEarlierThan 41 = .ok (.istore 5, 2) := by decide +kernel
theorem dX7_firstDeadEarlierThan_43 : decode cX7_firstDeadEarlierThan 43 = .ok (.iload 5, 2) := by decide +kernel
theorem dX7_firstDeadEarlierThan_45 : decode cX7_firstDeadEarlierThan 45 = .ok (.ifCond .eq 28, 3) := by decide +kernel
theorem dX7_firstDeadEarlierThan_48 : decode cX7_firstDeadEarlierThan 48 = .ok (.iload_n 3, 1) := by decide +kernel
theorem dX7_firstDeadEarlierThan_49 : decode cX7_firstDeadEarlierThan 49 = .ok (.bipush (-4), 2) := by decide +kernel
theorem dX7_firstDeadEarlierThan_51 : decode cX7_firstDeadEarlierThan 51 = .ok (.if_icmp .eq 19, 3) := by decide +kernel
theorem dX7_firstDeadEarlierThan_54 : decode cX7_firstDeadEarlierThan 54 = .ok (.aload_n 0, 1) := by decide +kernel
theorem dX7_firstDeadEarlierThan_55 : decode cX7_firstDeadEarlierThan 55 = .ok (.getfield 9, 3) := by decide +kernel
theorem dX7_firstDeadEarlierThan_58 : decode cX7_firstDeadEarlierThan 58 = .ok (.iload 4, 2) := by decide +kernel
theorem dX7_firstDeadEarlierThan_60 : decode cX7_firstDeadEarlierThan 60 = .ok (.iaload, 1) := by decide +kernel
theorem dX7_firstDeadEarlierThan_61 : decode cX7_firstDeadEarlierThan 61 = .ok (.aload_n 0, 1) := by decide +kernel
theorem dX7_firstDeadEarlierThan_62 : decode cX7_firstDeadEarlierThan 62 = .ok (.getfield 9, 3) := by decide +kernel
theorem dX7_firstDeadEarlierThan_65 : decode cX7_firstDeadEarlierThan 65 = .ok (.iload_n 3, 1) := by decide +kernel
theorem dX7_firstDeadEarlierThan_66 : decode cX7_firstDeadEarlierThan 66 = .ok (.iaload, 1) := by decide +kernel
theorem dX7_firstDeadEarlierThan_67 : decode cX7_firstDeadEarlierThan 67 = .ok (.if_icmp .ge 6, 3) := by decide +kernel
theorem dX7_firstDeadEarlierThan_70 : decode cX7_firstDeadEarlierThan 70 = .ok (.iload 4, 2) := by decide +kernel
theorem dX7_firstDeadEarlierThan_72 : decode cX7_firstDeadEarlierThan 72 = .ok (.istore_n 3, 1) := by decide +kernel
theorem dX7_firstDeadEarlierThan_73 : decode cX7_firstDeadEarlierThan 73 = .ok (.iinc 4 1, 3) := by decide +kernel
theorem dX7_firstDeadEarlierThan_76 : decode cX7_firstDeadEarlierThan 76 = .ok (.goto (-70), 3) := by decide +kernel
theorem dX7_firstDeadEarlierThan_79 : decode cX7_firstDeadEarlierThan 79 = .ok (.iload_n 3, 1) := by decide +kernel
theorem dX7_firstDeadEarlierThan_80 : decode cX7_firstDeadEarlierThan 80 = .ok (.ireturn, 1) := by decide +kernel
theorem dX8_init_0 : decode cX8_init 0 = .ok (.aload_n 0, 1) := by decide +kernel
theorem dX8_init_1 : decode cX8_init 1 = .ok (.invokespecial 1, 3) := by decide +kernel
theorem dX8_init_4 : decode cX8_init 4 = .ok (.aload_n 0, 1) := by decide +kernel
theorem dX8_init_5 : decode cX8_init 5 = .ok (.new 7, 3) := by decide +kernel
theorem dX8_init_8 : decode cX8_init 8 = .ok (.dup, 1) := by decide +kernel
theorem dX8_init_9 : decode cX8_init 9 = .ok (.invokespecial 9, 3) := by decide +kernel
theorem dX8_init_12 : decode cX8_init 12 = .ok (.putfield 10, 3) := by decide +kernel
theorem dX8_init_15 : decode cX8_init 15 = .ok (.aload_n 0, 1) := by decide +kernel
theorem dX8_init_16 : decode cX8_init 16 = .ok (.new 16, 3) := by decide +kernel
theorem dX8_init_19 : decode cX8_init 19 = .ok (.dup, 1) := by decide +kernel
theorem dX8_init_20 : decode cX8_init 20 = .ok (.invokespecial 18, 3) := by decide +kernel
theorem dX8_init_23 : decode cX8_init 23 = .ok (.putfield 19, 3) := by decide +kernel
theorem dX8_init_26 : decode cX8_init 26 = .ok (.aload_n 0, 1) := by decide +kernel
theorem dX8_init_27 : decode cX8_init 27 = .ok (.new 16, 3) := by decide +kernel
theorem dX8_init_30 : decode cX8_init 30 = .ok (.dup, 1) := by decide +kernel
theorem dX8_init_31 : decode cX8_init 31 = .ok (.invokespecial 18, 3) := by decide +kernel
theorem dX8_init_34 : decode cX8_init 34 = .ok (.putfield 23, 3) := by decide +kernel
theorem dX8_init_37 : decode cX8_init 37 = .ok (.aload_n 0, 1) := by decide +kernel
theorem dX8_init_38 : decode cX8_init 38 = .ok (.new 26, 3) := by decide +kernel
theorem dX8_init_41 : decode cX8_init 41 = .ok (.dup, 1) := by decide +kernel
theorem dX8_init_42 : decode cX8_init 42 = .ok (.aload_n 0, 1) := by decide +kernel
theorem dX8_init_43 : decode cX8_init 43 = .ok (.getfield 19, 3) := by decide +kernel
theorem dX8_init_46 : decode cX8_init 46 = .ok (.invokespecial 28, 3) := by decide +kernel
theorem dX8_init_49 : decode cX8_init 49 = .ok (.putfield 31, 3) := by decide +kernel
theorem dX8_init_52 : decode cX8_init 52 = .ok (.aload_n 0, 1) := by decide +kernel
theorem dX8_init_53 : decode cX8_init 53 = .ok (.new 35, 3) := by decide +kernel
theorem dX8_init_56 : decode cX8_init 56 = .ok (.dup, 1) := by decide +kernel
theorem dX8_init_57 : decode cX8_init 57 = .ok (.aload_n 0, 1) := by decide +kernel
theorem dX8_init_58 : decode cX8_init 58 = .ok (.getfield 19, 3) := by decide +kernel
theorem dX8_init_61 : decode cX8_init 61 = .ok (.invokespecial 37, 3) := by decide +kernel
theorem dX8_init_64 : decode cX8_init 64 = .ok (.putfield 38, 3) := by decide +kernel
theorem dX8_init_67 : decode cX8_init 67 = .ok (.aload_n 0, 1) := by decide +kernel
theorem dX8_init_68 : decode cX8_init 68 = .ok (.new 35, 3) := by decide +kernel
theorem dX8_init_71 : decode cX8_init 71 = .ok (.dup, 1) := by decide +kernel
theorem dX8_init_72 : decode cX8_init 72 = .ok (.aload_n 0, 1) := by decide +kernel
theorem dX8_init_73 : decode cX8_init 73 = .ok (.getfield 19, 3) := by decide +kernel
theorem dX8_init_76 : decode cX8_init 76 = .ok (.invokespecial 37, 3) := by decide +kernel
theorem dX8_init_79 : decode cX8_init 79 = .ok (.putfield 42, 3) := by decide +kernel
theorem dX8_init_82 : decode cX8_init 82 = .ok (.aload_n 0, 1) := by decide +kernel
theorem dX8_init_83 : decode cX8_init 83 = .ok (.new 45, 3) := by decide +kernel
theorem dX8_init_86 : decode cX8_init 86 = .ok (.dup, 1) := by decide +kernel
theorem dX8_init_87 : decode cX8_init 87 = .ok (.bipush 6, 2) := by decide +kernel
theorem dX8_init_89 : decode cX8_init 89 = .ok (.aload_n 0, 1) := by decide +kernel
theorem dX8_init_90 : decode cX8_init 90 = .ok (.getfield 19, 3) := by decide +kernel
theorem dX8_init_93 : decode cX8_init 93 = .ok (.invokespecial 47, 3) := by decide +kernel
theorem dX8_init_96 : decode cX8_init 96 = .ok (.putfield 50, 3) := by decide +kernel
theorem dX8_init_99 : decode cX8_init 99 = .ok (.aload_n 0, 1) := by decide +kernel
theorem dX8_init_100 : decode cX8_init 100 = .ok (.new 45, 3) := by decide +kernel
theorem dX8_init_103 : decode cX8_init 103 = .ok (.dup, 1) := by decide +kernel
theorem dX8_init_104 : decode cX8_init 104 = .ok (.iconst 2, 1) := by decide +kernel
theorem dX8_init_105 : decode cX8_init 105 = .ok (.aload_n 0, 1) := by decide +kernel
theorem dX8_init_106 : decode cX8_init 106 = .ok (.getfield 19, 3) := by decide +kernel
theorem dX8_init_109 : decode cX8_init 109 = .ok (.invokespecial 47, 3) := by decide +kernel
theorem dX8_init_112 : decode cX8_init 112 = .ok (.putfield 54, 3) := by decide +kernel
theorem dX8_init_115 : decode cX8_init 115 = .ok (.aload_n 0, 1) := by decide +kernel
theorem dX8_init_116 : decode cX8_init 116 = .ok (.new 57, 3) := by decide +kernel
theorem dX8_init_119 : decode cX8_init 119 = .ok (.dup, 1) := by decide +kernel
theorem dX8_init_120 : decode cX8_init 120 = .ok (.invokespecial 59, 3) := by decide +kernel
theorem dX8_init_123 : decode cX8_init 123 = .ok (.putfield 60, 3) := by decide +kernel
theorem dX8_init_126 : decode cX8_init 126 = .ok (.aload_n 0, 1) := by decide +kernel
theorem dX8_init_127 : decode cX8_init 127 = .ok (.new 64, 3) := by decide +kernel
theorem dX8_init_130 : decode cX8_init 130 = .ok (.dup, 1) := by decide +kernel
theorem dX8_init_131 : decode cX8_init 131 = .ok (.invokespecial 66, 3) := by decide +kernel
theorem dX8_init_134 : decode cX8_init 134 = .ok (.putfield 67, 3) := by decide +kernel
theorem dX8_init_137 : decode cX8_init 137 = .ok (.aload_n 0, 1) := by decide +kernel
theorem dX8_init_138 : decode cX8_init 138 = .ok (.new 71, 3) := by decide +kernel
theorem dX8_init_141 : decode cX8_init 141 = .ok (.dup, 1) := by decide +kernel
theorem dX8_init_142 : decode cX8_init 142 = .ok (.invokespecial 73, 3) := by decide +kernel
theorem dX8_init_145 : decode cX8_init 145 = .ok (.putfield 74, 3) := by decide +kernel
theorem dX8_init_148 : decode cX8_init 148 = .ok (.aload_n 0, 1) := by decide +kernel
theorem dX8_init_149 : decode cX8_init 149 = .ok (.getfield 19, 3) := by decide +kernel
theorem dX8_init_152 : decode cX8_init 152 = .ok (.invokevirtual 78, 3) := by decide +kernel
theorem dX8_init_155 : decode cX8_init 155 = .ok (.aload_n 0, 1) := by decide +kernel
theorem dX8_init_156 : decode cX8_init 156 = .ok (.getfield 19, 3) := by decide +kernel
theorem dX8_init_159 : decode cX8_init 159 = .ok (.bipush 50, 2) := by decide +kernel
theorem dX8_init_161 : decode cX8_init 161 = .ok (.invokevirtual 81, 3) := by decide +kernel
theorem dX8_init_164 : decode cX8_init 164 = .ok (.pop, 1) := by decide +kernel
theorem dX8_init_165 : decode cX8_init 165 = .ok (.aload_n 0, 1) := by decide +kernel
theorem dX8_init_166 : decode cX8_init 166 = .ok (.getfield 19, 3) := by decide +kernel
theorem dX8_init_169 : decode cX8_init 169 = .ok (.bipush 80, 2) := by decide +kernel
theorem dX8_init_171 : decode cX8_init 171 = .ok (.invokevirtual 81, 3) := by decide +kernel
theorem dX8_init_174 : decode cX8_init 174 = .ok (.pop, 1) := by decide +kernel
theorem dX8_init_175 : decode cX8_init 175 = .ok (.aload_n 0, 1) := by decide +kernel
theorem dX8_init_176 : decode cX8_init 176 = .ok (.getfield 31, 3) := by decide +kernel
theorem dX8_init_179 : decode cX8_init 179 = .ok (.invokevirtual 85, 3) := by decide +kernel
theorem dX8_init_182 : decode cX8_init 182 = .ok (.return_, 1) := by decide +kernel
theorem dX8_write_0 : decode cX8_write 0 = .ok (.iload_n 1, 1) := by decide +kernel
theorem dX8_write_1 : decode cX8_write 1 = .ok (.iconst 1, 1) := by decide +kernel
theorem dX8_write_2 : decode cX8_write 2 = .ok (.bipush 8, 2) := by decide +kernel
theorem dX8_write_4 : decode cX8_write 4 = .ok (.invokestatic 88, 3) := by decide +kernel
theorem dX8_write_7 : decode cX8_write 7 = .ok (.ifCond .ne 5, 3) := by decide +kernel
theorem dX8_write_10 : decode cX8_write 10 = .ok (.iconst (-1), 1) := by decide +kernel
theorem dX8_write_11 : decode cX8_write 11 = .ok (.ireturn, 1) := by decide +kernel
theorem dX8_write_12 : decode cX8_write 12 = .ok (.aload_n 0, 1) := by decide +kernel
theorem dX8_write_13 : decode cX8_write 13 = .ok (.getfield 10, 3) := by decide +kernel
theorem dX8_write_16 : decode cX8_write 16 = .ok (.getfield 92, 3) := by decide +kernel
theorem dX8_write_19 : decode cX8_write 19 = .ok (.iload_n 1, 1) := by decide +kernel
theorem dX8_write_20 : decode cX8_write 20 = .ok (.iadd, 1) := by decide +kernel
theorem dX8_write_21 : decode cX8_write 21 = .ok (.sipush 300, 3) := by decide +kernel
theorem dX8_write_24 : decode cX8_write 24 = .ok (.if_icmp .le 6, 3) := by decide +kernel
theorem dX8_write_27 : decode cX8_write 27 = .ok (.bipush (-3), 2) := by decide +kernel
theorem dX8_write_29 : decode cX8_write 29 = .ok (.ireturn, 1) := by decide +kernel
theorem dX8_write_30 : decode cX8_write 30 = .ok (.aload_n 0, 1) := by decide +kernel
theorem dX8_write_31 : decode cX8_write 31 = .ok (.getfield 10, 3) := by decide +kernel
theorem dX8_write_34 : decode cX8_write 34 = .ok (.iload_n 1, 1) := by decide +kernel
theorem dX8_write_35 : decode cX8_write 35 = .ok (.lload_n 2, 1) := by decide +kernel
theorem dX8_write_36 : decode cX8_write 36 = .ok (.invokevirtual 96, 3) := by decide +kernel
theorem dX8_write_39 : decode cX8_write 39 = .ok (.aload_n 0, 1) := by decide +kernel
theorem dX8_write_40 : decode cX8_write 40 = .ok (.getfield 10, 3) := by decide +kernel
theorem dX8_write_43 : decode cX8_write 43 = .ok (.getfield 92, 3) := by decide +kernel
theorem dX8_write_46 : decode cX8_write 46 = .ok (.ireturn, 1) := by decide +kernel
theorem dX8_wipe_0 : decode cX8_wipe 0 = .ok (.aload_n 0, 1) := by decide +kernel
theorem dX8_wipe_1 : decode cX8_wipe 1 = .ok (.getfield 10, 3) := by decide +kernel
theorem dX8_wipe_4 : decode cX8_wipe 4 = .ok (.getfield 92, 3) := by decide +kernel
theorem dX8_wipe_7 : decode cX8_wipe 7 = .ok (.istore_n 1, 1) := by decide +kernel
theorem dX8_wipe_8 : decode cX8_wipe 8 = .ok (.aload_n 0, 1) := by decide +kernel
theorem dX8_wipe_9 : decode cX8_wipe 9 = .ok (.getfield 10, 3) := by decide +kernel
theorem dX8_wipe_12 : decode cX8_wipe 12 = .ok (.iconst 0, 1) := by decide +kernel
theorem dX8_wipe_13 : decode cX8_wipe 13 = .ok (.putfield 92, 3) := by decide +kernel
theorem dX8_wipe_16 : decode cX8_wipe 16 = .ok (.iload_n 1, 1) := by decide +kernel
theorem dX8_wipe_17 : decode cX8_wipe 17 = .ok (.ireturn, 1) := by decide +kernel
theorem dX8_fault_0 : decode cX8_fault 0 = .ok (.aload_n 0, 1) := by decide +kernel
theorem dX8_fault_1 : decode cX8_fault 1 = .ok (.getfield 23, 3) := by decide +kernel
theorem dX8_fault_4 : decode cX8_fault 4 = .ok (.aload_n 0, 1) := by decide +kernel
theorem dX8_fault_5 : decode cX8_fault 5 = .ok (.getfield 10, 3) := by decide +kernel
theorem dX8_fault_8 : decode cX8_fault 8 = .ok (.invokevirtual 100, 3) := by decide +kernel
theorem dX8_fault_11 : decode cX8_fault 11 = .ok (.ireturn, 1) := by decide +kernel
theorem dX8_lay_0 : decode cX8_lay 0 = .ok (.aload_n 0, 1) := by decide +kernel
theorem dX8_lay_1 : decode cX8_lay 1 = .ok (.getfield 23, 3) := by decide +kernel
theorem dX8_lay_4 : decode cX8_lay 4 = .ok (.aload_n 0, 1) := by decide +kernel
theorem dX8_lay_5 : decode cX8_lay 5 = .ok (.getfield 10, 3) := by decide +kernel
theorem dX8_lay_8 : decode cX8_lay 8 = .ok (.invokevirtual 100, 3) := by decide +kernel
theorem dX8_lay_11 : decode cX8_lay 11 = .ok (.bipush (-4), 2) := by decide +kernel
theorem dX8_lay_13 : decode cX8_lay 13 = .ok (.if_icmp .ne 14, 3) := by decide +kernel
theorem dX8_lay_16 : decode cX8_lay 16 = .ok (.aload_n 0, 1) := by decide +kernel
theorem dX8_lay_17 : decode cX8_lay 17 = .ok (.getfield 23, 3) := by decide +kernel
theorem dX8_lay_20 : decode cX8_lay 20 = .ok (.getfield 104, 3) := by decide +kernel
theorem dX8_lay_23 : decode cX8_lay 23 = .ok (.iconst 1, 1) := by decide +kernel
theorem dX8_lay_24 : decode cX8_lay 24 = .ok (.if_icmp .ge 6, 3) := by decide +kernel
theorem dX8_lay_27 : decode cX8_lay 27 = .ok (.bipush (-2), 2) := by decide +kernel
theorem dX8_lay_29 : decode cX8_lay 29 = .ok (.ireturn, 1) := by decide +kernel
theorem dX8_lay_30 : decode cX8_lay 30 = .ok (.aload_n 0, 1) := by decide +kernel
theorem dX8_lay_31 : decode cX8_lay 31 = .ok (.getfield 19, 3) := by decide +kernel
theorem dX8_lay_34 : decode cX8_lay 34 = .ok (.aload_n 0, 1) := by decide +kernel
theorem dX8_lay_35 : decode cX8_lay 35 = .ok (.getfield 23, 3) := by decide +kernel
theorem dX8_lay_38 : decode cX8_lay 38 = .ok (.invokevirtual 107, 3) := by decide +kernel
theorem dX8_lay_41 : decode cX8_lay 41 = .ok (.aload_n 0, 1) := by decide +kernel
theorem dX8_lay_42 : decode cX8_lay 42 = .ok (.getfield 31, 3) := by decide +kernel
theorem dX8_lay_45 : decode cX8_lay 45 = .ok (.invokevirtual 85, 3) := by decide +kernel
theorem dX8_lay_48 : decode cX8_lay 48 = .ok (.aload_n 0, 1) := by decide +kernel
theorem dX8_lay_49 : decode cX8_lay 49 = .ok (.getfield 60, 3) := by decide +kernel
theorem dX8_lay_52 : decode cX8_lay 52 = .ok (.iconst 0, 1) := by decide +kernel
theorem dX8_lay_53 : decode cX8_lay 53 = .ok (.putfield 110, 3) := by decide +kernel
theorem dX8_lay_56 : decode cX8_lay 56 = .ok (.aload_n 0, 1) := by decide +kernel
theorem dX8_lay_57 : decode cX8_lay 57 = .ok (.getfield 50, 3) := by decide +kernel
theorem dX8_lay_60 : decode cX8_lay 60 = .ok (.iconst 0, 1) := by decide +kernel
theorem dX8_lay_61 : decode cX8_lay 61 = .ok (.putfield 113, 3) := by decide +kernel
theorem dX8_lay_64 : decode cX8_lay 64 = .ok (.aload_n 0, 1) := by decide +kernel
theorem dX8_lay_65 : decode cX8_lay 65 = .ok (.getfield 54, 3) := by decide +kernel
theorem dX8_lay_68 : decode cX8_lay 68 = .ok (.iconst 0, 1) := by decide +kernel
theorem dX8_lay_69 : decode cX8_lay 69 = .ok (.putfield 113, 3) := by decide +kernel
theorem dX8_lay_72 : decode cX8_lay 72 = .ok (.aload_n 0, 1) := by decide +kernel
theorem dX8_lay_73 : decode cX8_lay 73 = .ok (.getfield 19, 3) := by decide +kernel
theorem dX8_lay_76 : decode cX8_lay 76 = .ok (.getfield 104, 3) := by decide +kernel
theorem dX8_lay_79 : decode cX8_lay 79 = .ok (.ireturn, 1) := by decide +kernel
theorem dX8_person_0 : decode cX8_person 0 = .ok (.aload_n 0, 1) := by decide +kernel
theorem dX8_person_1 : decode cX8_person 1 = .ok (.iload_n 1, 1) := by decide +kernel
theorem dX8_person_2 : decode cX8_person 2 = .ok (.invokevirtual 114, 3) := by decide +kernel
theorem dX8_person_5 : decode cX8_person 5 = .ok (.ifCond .ne 5, 3) := by decide +kernel
theorem dX8_person_8 : decode cX8_person 8 = .ok (.iconst (-1), 1) := by decide +kernel
theorem dX8_person_9 : decode cX8_person 9 = .ok (.ireturn, 1) := by decide +kernel
theorem dX8_person_10 : decode cX8_person 10 = .ok (.iload_n 2, 1) := by decide +kernel
theorem dX8_person_11 : decode cX8_person 11 = .ok (.tableswitch 54 0 2 #[25, 35, 45], 25) := by decide +kernel
theorem dX8_person_36 : decode cX8_person 36 = .ok (.aload_n 0, 1) := by decide +kernel
theorem dX8_person_37 : decode cX8_person 37 = .ok (.getfield 31, 3) := by decide +kernel
theorem dX8_person_40 : decode cX8_person 40 = .ok (.getfield 117, 3) := by decide +kernel
theorem dX8_person_43 : decode cX8_person 43 = .ok (.iload_n 1, 1) := by decide +kernel
theorem dX8_person_44 : decode cX8_person 44 = .ok (.iaload, 1) := by decide +kernel
theorem dX8_person_45 : decode cX8_person 45 = .ok (.ireturn, 1) := by decide +kernel
theorem dX8_person_46 : decode cX8_person 46 = .ok (.aload_n 0, 1) := by decide +kernel
theorem dX8_person_47 : decode cX8_person 47 = .ok (.getfield 31, 3) := by decide +kernel
theorem dX8_person_50 : decode cX8_person 50 = .ok (.getfield 121, 3) := by decide +kernel
theorem dX8_person_53 : decode cX8_person 53 = .ok (.iload_n 1, 1) := by decide +kernel
theorem dX8_person_54 : decode cX8_person 54 = .ok (.iaload, 1) := by decide +kernel
theorem dX8_person_55 : decode cX8_person 55 = .ok (.ireturn, 1) := by decide +kernel
theorem dX8_person_56 : decode cX8_person 56 = .ok (.aload_n 0, 1) := by decide +kernel
theorem dX8_person_57 : decode cX8_person 57 = .ok (.getfield 31, 3) := by decide +kernel
theorem dX8_person_60 : decode cX8_person 60 = .ok (.iload_n 1, 1) := by decide +kernel
theorem dX8_person_61 : decode cX8_person 61 = .ok (.invokevirtual 124, 3) := by decide +kernel
theorem dX8_person_64 : decode cX8_person 64 = .ok (.ireturn, 1) := by decide +kernel
theorem dX8_person_65 : decode cX8_person 65 = .ok (.iconst (-1), 1) := by decide +kernel
theorem dX8_person_66 : decode cX8_person 66 = .ok (.ireturn, 1) := by decide +kernel
theorem dX8_loan_0 : decode cX8_loan 0 = .ok (.iload_n 1, 1) := by decide +kernel
theorem dX8_loan_1 : decode cX8_loan 1 = .ok (.iconst 0, 1) := by decide +kernel
theorem dX8_loan_2 : decode cX8_loan 2 = .ok (.aload_n 0, 1) := by decide +kernel
theorem dX8_loan_3 : decode cX8_loan 3 = .ok (.getfield 31, 3) := by decide +kernel
theorem dX8_loan_6 : decode cX8_loan 6 = .ok (.getfield 128, 3) := by decide +kernel
theorem dX8_loan_9 : decode cX8_loan 9 = .ok (.iconst 1, 1) := by decide +kernel
theorem dX8_loan_10 : decode cX8_loan 10 = .ok (.isub, 1) := by decide +kernel
theorem dX8_loan_11 : decode cX8_loan 11 = .ok (.invokestatic 88, 3) := by decide +kernel
theorem dX8_loan_14 : decode cX8_loan 14 = .ok (.ifCond .ne 5, 3) := by decide +kernel
theorem dX8_loan_17 : decode cX8_loan 17 = .ok (.iconst (-1), 1) := by decide +kernel
theorem dX8_loan_18 : decode cX8_loan 18 = .ok (.ireturn, 1) := by decide +kernel
theorem dX8_loan_19 : decode cX8_loan 19 = .ok (.iload_n 2, 1) := by decide +kernel
theorem dX8_loan_20 : decode cX8_loan 20 = .ok (.tableswitch 72 0 3 #[32, 42, 52, 62], 32) := by decide +kernel
theorem dX8_loan_52 : decode cX8_loan 52 = .ok (.aload_n 0, 1) := by decide +kernel
theorem dX8_loan_53 : decode cX8_loan 53 = .ok (.getfield 31, 3) := by decide +kernel
theorem dX8_loan_56 : decode cX8_loan 56 = .ok (.getfield 131, 3) := by decide +kernel
theorem dX8_loan_59 : decode cX8_loan 59 = .ok (.iload_n 1, 1) := by decide +kernel
theorem dX8_loan_60 : decode cX8_loan 60 = .ok (.iaload, 1) := by decide +kernel
theorem dX8_loan_61 : decode cX8_loan 61 = .ok (.ireturn, 1) := by decide +kernel
theorem dX8_loan_62 : decode cX8_loan 62 = .ok (.aload_n 0, 1) := by decide +kernel
theorem dX8_loan_63 : decode cX8_loan 63 = .ok (.getfield 31, 3) := by decide +kernel
theorem dX8_loan_66 : decode cX8_loan 66 = .ok (.getfield 134, 3) := by decide +kernel
theorem dX8_loan_69 : decode cX8_loan 69 = .ok (.iload_n 1, 1) := by decide +kernel
theorem dX8_loan_70 : decode cX8_loan 70 = .ok (.iaload, 1) := by decide +kernel
theorem dX8_loan_71 : decode cX8_loan 71 = .ok (.ireturn, 1) := by decide +kernel
theorem dX8_loan_72 : decode cX8_loan 72 = .ok (.aload_n 0, 1) := by decide +kernel
theorem dX8_loan_73 : decode cX8_loan 73 = .ok (.getfield 31, 3) := by decide +kernel
theorem dX8_loan_76 : decode cX8_loan 76 = .ok (.getfield 137, 3) := by decide +kernel
theorem dX8_loan_79 : decode cX8_loan 79 = .ok (.iload_n 1, 1) := by decide +kernel
theorem dX8_loan_80 : decode cX8_loan 80 = .ok (.iaload, 1) := by decide +kernel
theorem dX8_loan_81 : decode cX8_loan 81 = .ok (.ireturn, 1) := by decide +kernel
theorem dX8_loan_82 : decode cX8_loan 82 = .ok (.aload_n 0, 1) := by decide +kernel
theorem dX8_loan_83 : decode cX8_loan 83 = .ok (.getfield 31, 3) := by decide +kernel
theorem dX8_loan_86 : decode cX8_loan 86 = .ok (.getfield 140, 3) := by decide +kernel
theorem dX8_loan_89 : decode cX8_loan 89 = .ok (.iload_n 1, 1) := by decide +kernel
theorem dX8_loan_90 : decode cX8_loan 90 = .ok (.iaload, 1) := by decide +kernel
theorem dX8_loan_91 : decode cX8_loan 91 = .ok (.ireturn, 1) := by decide +kernel
theorem dX8_loan_92 : decode cX8_loan 92 = .ok (.iconst (-1), 1) := by decide +kernel
theorem dX8_loan_93 : decode cX8_loan 93 = .ok (.ireturn, 1) := by decide +kernel
theorem dX8_notary_0 : decode cX8_notary 0 = .ok (.aload_n 0, 1) := by decide +kernel
theorem dX8_notary_1 : decode cX8_notary 1 = .ok (.getfield 31, 3) := by decide +kernel
theorem dX8_notary_4 : decode cX8_notary 4 = .ok (.iload_n 1, 1) := by decide +kernel
theorem dX8_notary_5 : decode cX8_notary 5 = .ok (.iload_n 2, 1) := by decide +kernel
theorem dX8_notary_6 : decode cX8_notary 6 = .ok (.iload_n 3, 1) := by decide +kernel
theorem dX8_notary_7 : decode cX8_notary 7 = .ok (.iload 4, 2) := by decide +kernel
theorem dX8_notary_9 : decode cX8_notary 9 = .ok (.invokevirtual 143, 3) := by decide +kernel
theorem dX8_notary_12 : decode cX8_notary 12 = .ok (.ifCond .ne 5, 3) := by decide +kernel
theorem dX8_notary_15 : decode cX8_notary 15 = .ok (.iconst (-1), 1) := by decide +kernel
theorem dX8_notary_16 : decode cX8_notary 16 = .ok (.ireturn, 1) := by decide +kernel
theorem dX8_notary_17 : decode cX8_notary 17 = .ok (.aload_n 0, 1) := by decide +kernel
theorem dX8_notary_18 : decode cX8_notary 18 = .ok (.getfield 31, 3) := by decide +kernel
theorem dX8_notary_21 : decode cX8_notary 21 = .ok (.iload_n 1, 1) := by decide +kernel
theorem dX8_notary_22 : decode cX8_notary 22 = .ok (.iload_n 2, 1) := by decide +kernel
theorem dX8_notary_23 : decode cX8_notary 23 = .ok (.iload_n 3, 1) := by decide +kernel
theorem dX8_notary_24 : decode cX8_notary 24 = .ok (.iload 4, 2) := by decide +kernel
theorem dX8_notary_26 : decode cX8_notary 26 = .ok (.invokevirtual 147, 3) := by decide +kernel
theorem dX8_notary_29 : decode cX8_notary 29 = .ok (.ifCond .eq 7, 3) := by decide +kernel
theorem dX8_notary_32 : decode cX8_notary 32 = .ok (.iconst 1, 1) := by decide +kernel
theorem dX8_notary_33 : decode cX8_notary 33 = .ok (.goto 4, 3) := by decide +kernel
theorem dX8_notary_36 : decode cX8_notary 36 = .ok (.iconst 0, 1) := by decide +kernel
theorem dX8_notary_37 : decode cX8_notary 37 = .ok (.ireturn, 1) := by decide +kernel
theorem dX8_lend_0 : decode cX8_lend 0 = .ok (.aload_n 0, 1) := by decide +kernel
theorem dX8_lend_1 : decode cX8_lend 1 = .ok (.getfield 31, 3) := by decide +kernel
theorem dX8_lend_4 : decode cX8_lend 4 = .ok (.iload_n 1, 1) := by decide +kernel
theorem dX8_lend_5 : decode cX8_lend 5 = .ok (.iload_n 2, 1) := by decide +kernel
theorem dX8_lend_6 : decode cX8_lend 6 = .ok (.iload_n 3, 1) := by decide +kernel
theorem dX8_lend_7 : decode cX8_lend 7 = .ok (.iload 4, 2) := by decide +kernel
theorem dX8_lend_9 : decode cX8_lend 9 = .ok (.invokevirtual 150, 3) := by decide +kernel
theorem dX8_lend_12 : decode cX8_lend 12 = .ok (.istore 5, 2) := by decide +kernel
theorem dX8_lend_14 : decode cX8_lend 14 = .ok (.iload 5, 2) := by decide +kernel
theorem dX8_lend_16 : decode cX8_lend 16 = .ok (.ifCond .eq 6, 3) := by decide +kernel
theorem dX8_lend_19 : decode cX8_lend 19 = .ok (.iload 5, 2) := by decide +kernel
theorem dX8_lend_21 : decode cX8_lend 21 = .ok (.ireturn, 1) := by decide +kernel
theorem dX8_lend_22 : decode cX8_lend 22 = .ok (.aload_n 0, 1) := by decide +kernel
theorem dX8_lend_23 : decode cX8_lend 23 = .ok (.getfield 50, 3) := by decide +kernel
theorem dX8_lend_26 : decode cX8_lend 26 = .ok (.aload_n 0, 1) := by decide +kernel
theorem dX8_lend_27 : decode cX8_lend 27 = .ok (.getfield 31, 3) := by decide +kernel
theorem dX8_lend_30 : decode cX8_lend 30 = .ok (.invokevirtual 154, 3) := by decide +kernel
theorem dX8_lend_33 : decode cX8_lend 33 = .ok (.aload_n 0, 1) := by decide +kernel
theorem dX8_lend_34 : decode cX8_lend 34 = .ok (.getfield 31, 3) := by decide +kernel
theorem dX8_lend_37 : decode cX8_lend 37 = .ok (.iload_n 1, 1) := by decide +kernel
theorem dX8_lend_38 : decode cX8_lend 38 = .ok (.iload_n 2, 1) := by decide +kernel
theorem dX8_lend_39 : decode cX8_lend 39 = .ok (.iload_n 3, 1) := by decide +kernel
theorem dX8_lend_40 : decode cX8_lend 40 = .ok (.iload 4, 2) := by decide +kernel
theorem dX8_lend_42 : decode cX8_lend 42 = .ok (.invokevirtual 158, 3) := by decide +kernel
theorem dX8_lend_45 : decode cX8_lend 45 = .ok (.aload_n 0, 1) := by decide +kernel
theorem dX8_lend_46 : decode cX8_lend 46 = .ok (.getfield 31, 3) := by decide +kernel
theorem dX8_lend_49 : decode cX8_lend 49 = .ok (.getfield 128, 3) := by decide +kernel
theorem dX8_lend_52 : decode cX8_lend 52 = .ok (.ireturn, 1) := by decide +kernel
theorem dX8_week_0 : decode cX8_week 0 = .ok (.aload_n 0, 1) := by decide +kernel
theorem dX8_week_1 : decode cX8_week 1 = .ok (.getfield 50, 3) := by decide +kernel
theorem dX8_week_4 : decode cX8_week 4 = .ok (.aload_n 0, 1) := by decide +kernel
theorem dX8_week_5 : decode cX8_week 5 = .ok (.getfield 31, 3) := by decide +kernel
theorem dX8_week_8 : decode cX8_week 8 = .ok (.invokevirtual 154, 3) := by decide +kernel
theorem dX8_week_11 : decode cX8_week 11 = .ok (.aload_n 0, 1) := by decide +kernel
theorem dX8_week_12 : decode cX8_week 12 = .ok (.getfield 31, 3) := by decide +kernel
theorem dX8_week_15 : decode cX8_week 15 = .ok (.iconst 1, 1) := by decide +kernel
theorem dX8_week_16 : decode cX8_week 16 = .ok (.invokevirtual 162, 3) := by decide +kernel
theorem dX8_week_19 : decode cX8_week 19 = .ok (.aload_n 0, 1) := by decide +kernel
theorem dX8_week_20 : decode cX8_week 20 = .ok (.getfield 31, 3) := by decide +kernel
theorem dX8_week_23 : decode cX8_week 23 = .ok (.invokevirtual 166, 3) := by decide +kernel
theorem dX8_week_26 : decode cX8_week 26 = .ok (.ireturn, 1) := by decide +kernel
theorem dX8_undo_0 : decode cX8_undo 0 = .ok (.aload_n 0, 1) := by decide +kernel
theorem dX8_undo_1 : decode cX8_undo 1 = .ok (.getfield 50, 3) := by decide +kernel
theorem dX8_undo_4 : decode cX8_undo 4 = .ok (.aload_n 0, 1) := by decide +kernel
theorem dX8_undo_5 : decode cX8_undo 5 = .ok (.getfield 31, 3) := by decide +kernel
theorem dX8_undo_8 : decode cX8_undo 8 = .ok (.invokevirtual 170, 3) := by decide +kernel
theorem dX8_undo_11 : decode cX8_undo 11 = .ok (.ireturn, 1) := by decide +kernel
theorem dX8_dies_0 : decode cX8_dies 0 = .ok (.aload_n 0, 1) := by decide +kernel
theorem dX8_dies_1 : decode cX8_dies 1 = .ok (.iload_n 1, 1) := by decide +kernel
theorem dX8_dies_2 : decode cX8_dies 2 = .ok (.invokevirtual 114, 3) := by decide +kernel
theorem dX8_dies_5 : decode cX8_dies 5 = .ok (.ifCond .ne 5, 3) := by decide +kernel
theorem dX8_dies_8 : decode cX8_dies 8 = .ok (.iconst (-1), 1) := by decide +kernel
theorem dX8_dies_9 : decode cX8_dies 9 = .ok (.ireturn, 1) := by decide +kernel
theorem dX8_dies_10 : decode cX8_dies 10 = .ok (.aload_n 0, 1) := by decide +kernel
theorem dX8_dies_11 : decode cX8_dies 11 = .ok (.getfield 38, 3) := by decide +kernel
theorem dX8_dies_14 : decode cX8_dies 14 = .ok (.aload_n 0, 1) := by decide +kernel
theorem dX8_dies_15 : decode cX8_dies 15 = .ok (.getfield 31, 3) := by decide +kernel
theorem dX8_dies_18 : decode cX8_dies 18 = .ok (.invokevirtual 174, 3) := by decide +kernel
theorem dX8_dies_21 : decode cX8_dies 21 = .ok (.aload_n 0, 1) := by decide +kernel
theorem dX8_dies_22 : decode cX8_dies 22 = .ok (.getfield 38, 3) := by decide +kernel
theorem dX8_dies_25 : decode cX8_dies 25 = .ok (.sipush 2000, 3) := by decide +kernel
theorem dX8_dies_28 : decode cX8_dies 28 = .ok (.invokevirtual 177, 3) := by decide +kernel
theorem dX8_dies_31 : decode cX8_dies 31 = .ok (.aload_n 0, 1) := by decide +kernel
theorem dX8_dies_32 : decode cX8_dies 32 = .ok (.getfield 38, 3) := by decide +kernel
theorem dX8_dies_35 : decode cX8_dies 35 = .ok (.getfield 180, 3) := by decide +kernel
theorem dX8_dies_38 : decode cX8_dies 38 = .ok (.iload_n 1, 1) := by decide +kernel
theorem dX8_dies_39 : decode cX8_dies 39 = .ok (.iaload, 1) := by decide +kernel
theorem dX8_dies_40 : decode cX8_dies 40 = .ok (.ldc 183, 2) := by decide +kernel
theorem dX8_dies_42 : decode cX8_dies 42 = .ok (.if_icmp .ne 8, 3) := by decide +kernel
theorem dX8_dies_45 : decode cX8_dies 45 = .ok (.bipush (-4), 2) := by decide +kernel
theorem dX8_dies_47 : decode cX8_dies 47 = .ok (.goto 12, 3) := by decide +kernel
theorem dX8_dies_50 : decode cX8_dies 50 = .ok (.aload_n 0, 1) := by decide +kernel
theorem dX8_dies_51 : decode cX8_dies 51 = .ok (.getfield 38, 3) := by decide +kernel
theorem dX8_dies_54 : decode cX8_dies 54 = .ok (.getfield 180, 3) := by decide +kernel
theorem dX8_dies_57 : decode cX8_dies 57 = .ok (.iload_n 1, 1) := by decide +kernel
theorem dX8_dies_58 : decode cX8_dies 58 = .ok (.iaload, 1) := by decide +kernel
theorem dX8_dies_59 : decode cX8_dies 59 = .ok (.ireturn, 1) := by decide +kernel
theorem dX8_run_0 : decode cX8_run 0 = .ok (.iload_n 1, 1) := by decide +kernel
theorem dX8_run_1 : decode cX8_run 1 = .ok (.iconst 0, 1) := by decide +kernel
theorem dX8_run_2 : decode cX8_run 2 = .ok (.sipush 2000, 3) := by decide +kernel
theorem dX8_run_5 : decode cX8_run 5 = .ok (.invokestatic 88, 3) := by decide +kernel
theorem dX8_run_8 : decode cX8_run 8 = .ok (.ifCond .eq 20, 3) := by decide +kernel
theorem dX8_run_11 : decode cX8_run 11 = .ok (.aload_n 0, 1) := by decide +kernel
theorem dX8_run_12 : decode cX8_run 12 = .ok (.iload_n 2, 1) := by decide +kernel
theorem dX8_run_13 : decode cX8_run 13 = .ok (.invokevirtual 114, 3) := by decide +kernel
theorem dX8_run_16 : decode cX8_run 16 = .ok (.ifCond .eq 12, 3) := by decide +kernel
theorem dX8_run_19 : decode cX8_run 19 = .ok (.iload_n 3, 1) := by decide +kernel
theorem dX8_run_20 : decode cX8_run 20 = .ok (.iconst 0, 1) := by decide +kernel
theorem dX8_run_21 : decode cX8_run 21 = .ok (.iconst 2, 1) := by decide +kernel
theorem dX8_run_22 : decode cX8_run 22 = .ok (.invokestatic 88, 3) := by decide +kernel
theorem dX8_run_25 : decode cX8_run 25 = .ok (.ifCond .ne 5, 3) := by decide +kernel
theorem dX8_run_28 : decode cX8_run 28 = .ok (.iconst (-1), 1) := by decide +kernel
theorem dX8_run_29 : decode cX8_run 29 = .ok (.ireturn, 1) := by decide +kernel
theorem dX8_run_30 : decode cX8_run 30 = .ok (.aload_n 0, 1) := by decide +kernel
theorem dX8_run_31 : decode cX8_run 31 = .ok (.getfield 38, 3) := by decide +kernel
theorem dX8_run_34 : decode cX8_run 34 = .ok (.aload_n 0, 1) := by decide +kernel
theorem dX8_run_35 : decode cX8_run 35 = .ok (.getfield 31, 3) := by decide +kernel
theorem dX8_run_38 : decode cX8_run 38 = .ok (.invokevirtual 174, 3) := by decide +kernel
theorem dX8_run_41 : decode cX8_run 41 = .ok (.aload_n 0, 1) := by decide +kernel
theorem dX8_run_42 : decode cX8_run 42 = .ok (.getfield 38, 3) := by decide +kernel
theorem dX8_run_45 : decode cX8_run 45 = .ok (.iload_n 1, 1) := by decide +kernel
theorem dX8_run_46 : decode cX8_run 46 = .ok (.invokevirtual 177, 3) := by decide +kernel
theorem dX8_run_49 : decode cX8_run 49 = .ok (.iload_n 3, 1) := by decide +kernel
theorem dX8_run_50 : decode cX8_run 50 = .ok (.lookupswitch 52 #[(0, 26), (1, 39)], 26) := by decide +kernel
theorem dX8_run_76 : decode cX8_run 76 = .ok (.aload_n 0, 1) := by decide +kernel
theorem dX8_run_77 : decode cX8_run 77 = .ok (.getfield 38, 3) := by decide +kernel
theorem dX8_run_80 : decode cX8_run 80 = .ok (.getfield 184, 3) := by decide +kernel
theorem dX8_run_83 : decode cX8_run 83 = .ok (.getfield 117, 3) := by decide +kernel
theorem dX8_run_86 : decode cX8_run 86 = .ok (.iload_n 2, 1) := by decide +kernel
theorem dX8_run_87 : decode cX8_run 87 = .ok (.iaload, 1) := by decide +kernel
theorem dX8_run_88 : decode cX8_run 88 = .ok (.ireturn, 1) := by decide +kernel
theorem dX8_run_89 : decode cX8_run 89 = .ok (.aload_n 0, 1) := by decide +kernel
theorem dX8_run_90 : decode cX8_run 90 = .ok (.getfield 38, 3) := by decide +kernel
theorem dX8_run_93 : decode cX8_run 93 = .ok (.getfield 184, 3) := by decide +kernel
theorem dX8_run_96 : decode cX8_run 96 = .ok (.getfield 121, 3) := by decide +kernel
theorem dX8_run_99 : decode cX8_run 99 = .ok (.iload_n 2, 1) := by decide +kernel
theorem dX8_run_100 : decode cX8_run 100 = .ok (.iaload, 1) := by decide +kernel
theorem dX8_run_101 : decode cX8_run 101 = .ok (.ireturn, 1) := by decide +kernel
theorem dX8_run_102 : decode cX8_run 102 = .ok (.aload_n 0, 1) := by decide +kernel
theorem dX8_run_103 : decode cX8_run 103 = .ok (.getfield 38, 3) := by decide +kernel
theorem dX8_run_106 : decode cX8_run 106 = .ok (.getfield 184, 3) := by decide +kernel
theorem dX8_run_109 : decode cX8_run 109 = .ok (.invokevirtual 166, 3) := by decide +kernel
theorem dX8_run_112 : decode cX8_run 112 = .ok (.ireturn, 1) := by decide +kernel
theorem dX8_tell_0 : decode cX8_tell 0 = .ok (.aload_n 0, 1) := by decide +kernel
theorem dX8_tell_1 : decode cX8_tell 1 = .ok (.iload_n 1, 1) := by decide +kernel
theorem dX8_tell_2 : decode cX8_tell 2 = .ok (.invokevirtual 114, 3) := by decide +kernel
theorem dX8_tell_5 : decode cX8_tell 5 = .ok (.ifCond .eq 11, 3) := by decide +kernel
theorem dX8_tell_8 : decode cX8_tell 8 = .ok (.iload_n 2, 1) := by decide +kernel
theorem dX8_tell_9 : decode cX8_tell 9 = .ok (.iload_n 3, 1) := by decide +kernel
theorem dX8_tell_10 : decode cX8_tell 10 = .ok (.invokestatic 185, 3) := by decide +kernel
theorem dX8_tell_13 : decode cX8_tell 13 = .ok (.ifCond .ne 5, 3) := by decide +kernel
theorem dX8_tell_16 : decode cX8_tell 16 = .ok (.iconst (-1), 1) := by decide +kernel
theorem dX8_tell_17 : decode cX8_tell 17 = .ok (.ireturn, 1) := by decide +kernel
theorem dX8_tell_18 : decode cX8_tell 18 = .ok (.aload_n 0, 1) := by decide +kernel
theorem dX8_tell_19 : decode cX8_tell 19 = .ok (.getfield 60, 3) := by decide +kernel
theorem dX8_tell_22 : decode cX8_tell 22 = .ok (.getfield 110, 3) := by decide +kernel
theorem dX8_tell_25 : decode cX8_tell 25 = .ok (.bipush 12, 2) := by decide +kernel
theorem dX8_tell_27 : decode cX8_tell 27 = .ok (.if_icmp .lt 6, 3) := by decide +kernel
theorem dX8_tell_30 : decode cX8_tell 30 = .ok (.bipush (-3), 2) := by decide +kernel
theorem dX8_tell_32 : decode cX8_tell 32 = .ok (.ireturn, 1) := by decide +kernel
theorem dX8_tell_33 : decode cX8_tell 33 = .ok (.aload_n 0, 1) := by decide +kernel
theorem dX8_tell_34 : decode cX8_tell 34 = .ok (.getfield 60, 3) := by decide +kernel
theorem dX8_tell_37 : decode cX8_tell 37 = .ok (.iload_n 1, 1) := by decide +kernel
theorem dX8_tell_38 : decode cX8_tell 38 = .ok (.iload_n 3, 1) := by decide +kernel
theorem dX8_tell_39 : decode cX8_tell 39 = .ok (.aload_n 0, 1) := by decide +kernel
theorem dX8_tell_40 : decode cX8_tell 40 = .ok (.getfield 19, 3) := by decide +kernel
theorem dX8_tell_43 : decode cX8_tell 43 = .ok (.iload_n 2, 1) := by decide +kernel
theorem dX8_tell_44 : decode cX8_tell 44 = .ok (.invokevirtual 189, 3) := by decide +kernel
theorem dX8_tell_47 : decode cX8_tell 47 = .ok (.iadd, 1) := by decide +kernel
theorem dX8_tell_48 : decode cX8_tell 48 = .ok (.iload 4, 2) := by decide +kernel
theorem dX8_tell_50 : decode cX8_tell 50 = .ok (.invokevirtual 192, 3) := by decide +kernel
theorem dX8_tell_53 : decode cX8_tell 53 = .ok (.aload_n 0, 1) := by decide +kernel
theorem dX8_tell_54 : decode cX8_tell 54 = .ok (.getfield 60, 3) := by decide +kernel
theorem dX8_tell_57 : decode cX8_tell 57 = .ok (.getfield 110, 3) := by decide +kernel
theorem dX8_tell_60 : decode cX8_tell 60 = .ok (.ireturn, 1) := by decide +kernel
theorem dX8_forget_0 : decode cX8_forget 0 = .ok (.aload_n 0, 1) := by decide +kernel
theorem dX8_forget_1 : decode cX8_forget 1 = .ok (.getfield 60, 3) := by decide +kernel
theorem dX8_forget_4 : decode cX8_forget 4 = .ok (.getfield 110, 3) := by decide +kernel
theorem dX8_forget_7 : decode cX8_forget 7 = .ok (.istore_n 1, 1) := by decide +kernel
theorem dX8_forget_8 : decode cX8_forget 8 = .ok (.aload_n 0, 1) := by decide +kernel
theorem dX8_forget_9 : decode cX8_forget 9 = .ok (.getfield 60, 3) := by decide +kernel
theorem dX8_forget_12 : decode cX8_forget 12 = .ok (.iconst 0, 1) := by decide +kernel
theorem dX8_forget_13 : decode cX8_forget 13 = .ok (.putfield 110, 3) := by decide +kernel
theorem dX8_forget_16 : decode cX8_forget 16 = .ok (.iload_n 1, 1) := by decide +kernel
theorem dX8_forget_17 : decode cX8_forget 17 = .ok (.ireturn, 1) := by decide +kernel
theorem dX8_span_0 : decode cX8_span 0 = .ok (.aload_n 0, 1) := by decide +kernel
theorem dX8_span_1 : decode cX8_span 1 = .ok (.iload_n 1, 1) := by decide +kernel
theorem dX8_span_2 : decode cX8_span 2 = .ok (.invokevirtual 114, 3) := by decide +kernel
theorem dX8_span_5 : decode cX8_span 5 = .ok (.ifCond .eq 12, 3) := by decide +kernel
theorem dX8_span_8 : decode cX8_span 8 = .ok (.iload_n 2, 1) := by decide +kernel
theorem dX8_span_9 : decode cX8_span 9 = .ok (.iconst 0, 1) := by decide +kernel
theorem dX8_span_10 : decode cX8_span 10 = .ok (.iconst 1, 1) := by decide +kernel
theorem dX8_span_11 : decode cX8_span 11 = .ok (.invokestatic 88, 3) := by decide +kernel
theorem dX8_span_14 : decode cX8_span 14 = .ok (.ifCond .ne 5, 3) := by decide +kernel
theorem dX8_span_17 : decode cX8_span 17 = .ok (.iconst (-1), 1) := by decide +kernel
theorem dX8_span_18 : decode cX8_span 18 = .ok (.ireturn, 1) := by decide +kernel
theorem dX8_span_19 : decode cX8_span 19 = .ok (.aload_n 0, 1) := by decide +kernel
theorem dX8_span_20 : decode cX8_span 20 = .ok (.getfield 60, 3) := by decide +kernel
theorem dX8_span_23 : decode cX8_span 23 = .ok (.iload_n 1, 1) := by decide +kernel
theorem dX8_span_24 : decode cX8_span 24 = .ok (.invokevirtual 196, 3) := by decide +kernel
theorem dX8_span_27 : decode cX8_span 27 = .ok (.istore_n 3, 1) := by decide +kernel
theorem dX8_span_28 : decode cX8_span 28 = .ok (.aload_n 0, 1) := by decide +kernel
theorem dX8_span_29 : decode cX8_span 29 = .ok (.getfield 60, 3) := by decide +kernel
theorem dX8_span_32 : decode cX8_span 32 = .ok (.iload_n 1, 1) := by decide +kernel
theorem dX8_span_33 : decode cX8_span 33 = .ok (.invokevirtual 199, 3) := by decide +kernel
theorem dX8_span_36 : decode cX8_span 36 = .ok (.istore 4, 2) := by decide +kernel
theorem dX8_span_38 : decode cX8_span 38 = .ok (.iload_n 3, 1) := by decide +kernel
theorem dX8_span_39 : decode cX8_span 39 = .ok (.iload 4, 2) := by decide +kernel
theorem dX8_span_41 : decode cX8_span 41 = .ok (.if_icmp .le 6, 3) := by decide +kernel
theorem dX8_span_44 : decode cX8_span 44 = .ok (.bipush (-4), 2) := by decide +kernel
theorem dX8_span_46 : decode cX8_span 46 = .ok (.ireturn, 1) := by decide +kernel
theorem dX8_span_47 : decode cX8_span 47 = .ok (.iload_n 2, 1) := by decide +kernel
theorem dX8_span_48 : decode cX8_span 48 = .ok (.ifCond .ne 7, 3) := by decide +kernel
theorem dX8_span_51 : decode cX8_span 51 = .ok (.iload_n 3, 1) := by decide +kernel
theorem dX8_span_52 : decode cX8_span 52 = .ok (.goto 5, 3) := by decide +kernel
theorem dX8_span_55 : decode cX8_span 55 = .ok (.iload 4, 2) := by decide +kernel
theorem dX8_span_57 : decode cX8_span 57 = .ok (.ireturn, 1) := by decide +kernel
theorem dX8_ask_0 : decode cX8_ask 0 = .ok (.aload_n 0, 1) := by decide +kernel
theorem dX8_ask_1 : decode cX8_ask 1 = .ok (.iload_n 1, 1) := by decide +kernel
theorem dX8_ask_2 : decode cX8_ask 2 = .ok (.invokevirtual 114, 3) := by decide +kernel
theorem dX8_ask_5 : decode cX8_ask 5 = .ok (.ifCond .eq 14, 3) := by decide +kernel
theorem dX8_ask_8 : decode cX8_ask 8 = .ok (.iload_n 2, 1) := by decide +kernel
theorem dX8_ask_9 : decode cX8_ask 9 = .ok (.iconst 1, 1) := by decide +kernel
theorem dX8_ask_10 : decode cX8_ask 10 = .ok (.sipush 200, 3) := by decide +kernel
theorem dX8_ask_13 : decode cX8_ask 13 = .ok (.invokestatic 88, 3) := by decide +kernel
theorem dX8_ask_16 : decode cX8_ask 16 = .ok (.ifCond .ne 5, 3) := by decide +kernel
theorem dX8_ask_19 : decode cX8_ask 19 = .ok (.iconst (-1), 1) := by decide +kernel
theorem dX8_ask_20 : decode cX8_ask 20 = .ok (.ireturn, 1) := by decide +kernel
theorem dX8_ask_21 : decode cX8_ask 21 = .ok (.aload_n 0, 1) := by decide +kernel
theorem dX8_ask_22 : decode cX8_ask 22 = .ok (.getfield 60, 3) := by decide +kernel
theorem dX8_ask_25 : decode cX8_ask 25 = .ok (.iload_n 1, 1) := by decide +kernel
theorem dX8_ask_26 : decode cX8_ask 26 = .ok (.aload_n 0, 1) := by decide +kernel
theorem dX8_ask_27 : decode cX8_ask 27 = .ok (.getfield 19, 3) := by decide +kernel
theorem dX8_ask_30 : decode cX8_ask 30 = .ok (.iload_n 2, 1) := by decide +kernel
theorem dX8_ask_31 : decode cX8_ask 31 = .ok (.invokevirtual 189, 3) := by decide +kernel
theorem dX8_ask_34 : decode cX8_ask 34 = .ok (.invokevirtual 202, 3) := by decide +kernel
theorem dX8_ask_37 : decode cX8_ask 37 = .ok (.ireturn, 1) := by decide +kernel
theorem dX8_bribed_0 : decode cX8_bribed 0 = .ok (.aload_n 0, 1) := by decide +kernel
theorem dX8_bribed_1 : decode cX8_bribed 1 = .ok (.getfield 60, 3) := by decide +kernel
theorem dX8_bribed_4 : decode cX8_bribed 4 = .ok (.aload_n 0, 1) := by decide +kernel
theorem dX8_bribed_5 : decode cX8_bribed 5 = .ok (.getfield 19, 3) := by decide +kernel
theorem dX8_bribed_8 : decode cX8_bribed 8 = .ok (.invokevirtual 206, 3) := by decide +kernel
theorem dX8_bribed_11 : decode cX8_bribed 11 = .ok (.ireturn, 1) := by decide +kernel
theorem dX8_cleared_0 : decode cX8_cleared 0 = .ok (.iload_n 1, 1) := by decide +kernel
theorem dX8_cleared_1 : decode cX8_cleared 1 = .ok (.iconst (-1), 1) := by decide +kernel
theorem dX8_cleared_2 : decode cX8_cleared 2 = .ok (.if_icmp .ne 12, 3) := by decide +kernel
theorem dX8_cleared_5 : decode cX8_cleared 5 = .ok (.iload_n 2, 1) := by decide +kernel
theorem dX8_cleared_6 : decode cX8_cleared 6 = .ok (.iconst (-1), 1) := by decide +kernel
theorem dX8_cleared_7 : decode cX8_cleared 7 = .ok (.if_icmp .ne 7, 3) := by decide +kernel
theorem dX8_cleared_10 : decode cX8_cleared 10 = .ok (.iconst 1, 1) := by decide +kernel
theorem dX8_cleared_11 : decode cX8_cleared 11 = .ok (.goto 4, 3) := by decide +kernel
theorem dX8_cleared_14 : decode cX8_cleared 14 = .ok (.iconst 0, 1) := by decide +kernel
theorem dX8_cleared_15 : decode cX8_cleared 15 = .ok (.istore_n 3, 1) := by decide +kernel
theorem dX8_cleared_16 : decode cX8_cleared 16 = .ok (.iload_n 3, 1) := by decide +kernel
theorem dX8_cleared_17 : decode cX8_cleared 17 = .ok (.ifCond .ne 21, 3) := by decide +kernel
theorem dX8_cleared_20 : decode cX8_cleared 20 = .ok (.aload_n 0, 1) := by decide +kernel
theorem dX8_cleared_21 : decode cX8_cleared 21 = .ok (.iload_n 1, 1) := by decide +kernel
theorem dX8_cleared_22 : decode cX8_cleared 22 = .ok (.invokevirtual 114, 3) := by decide +kernel
theorem dX8_cleared_25 : decode cX8_cleared 25 = .ok (.ifCond .eq 11, 3) := by decide +kernel
theorem dX8_cleared_28 : decode cX8_cleared 28 = .ok (.aload_n 0, 1) := by decide +kernel
theorem dX8_cleared_29 : decode cX8_cleared 29 = .ok (.iload_n 2, 1) := by decide +kernel
theorem dX8_cleared_30 : decode cX8_cleared 30 = .ok (.invokevirtual 114, 3) := by decide +kernel
theorem dX8_cleared_33 : decode cX8_cleared 33 = .ok (.ifCond .ne 5, 3) := by decide +kernel
theorem dX8_cleared_36 : decode cX8_cleared 36 = .ok (.iconst (-1), 1) := by decide +kernel
theorem dX8_cleared_37 : decode cX8_cleared 37 = .ok (.ireturn, 1) := by decide +kernel
theorem dX8_cleared_38 : decode cX8_cleared 38 = .ok (.aload_n 0, 1) := by decide +kernel
theorem dX8_cleared_39 : decode cX8_cleared 39 = .ok (.getfield 67, 3) := by decide +kernel
theorem dX8_cleared_42 : decode cX8_cleared 42 = .ok (.aload_n 0, 1) := by decide +kernel
theorem dX8_cleared_43 : decode cX8_cleared 43 = .ok (.getfield 31, 3) := by decide +kernel
theorem dX8_cleared_46 : decode cX8_cleared 46 = .ok (.invokevirtual 210, 3) := by decide +kernel
theorem dX8_cleared_49 : decode cX8_cleared 49 = .ok (.aload_n 0, 1) := by decide +kernel
theorem dX8_cleared_50 : decode cX8_cleared 50 = .ok (.getfield 67, 3) := by decide +kernel
theorem dX8_cleared_53 : decode cX8_cleared 53 = .ok (.invokevirtual 212, 3) := by decide +kernel
theorem dX8_cleared_56 : decode cX8_cleared 56 = .ok (.istore 4, 2) := by decide +kernel
theorem dX8_cleared_58 : decode cX8_cleared 58 = .ok (.iload_n 3, 1) := by decide +kernel
theorem dX8_cleared_59 : decode cX8_cleared 59 = .ok (.ifCond .eq 8, 3) := by decide +kernel
theorem dX8_cleared_62 : decode cX8_cleared 62 = .ok (.iload 4, 2) := by decide +kernel
theorem dX8_cleared_64 : decode cX8_cleared 64 = .ok (.goto 14, 3) := by decide +kernel
theorem dX8_cleared_67 : decode cX8_cleared 67 = .ok (.aload_n 0, 1) := by decide +kernel
theorem dX8_cleared_68 : decode cX8_cleared 68 = .ok (.getfield 67, 3) := by decide +kernel
theorem dX8_cleared_71 : decode cX8_cleared 71 = .ok (.getfield 215, 3) := by decide +kernel
theorem dX8_cleared_74 : decode cX8_cleared 74 = .ok (.iload_n 1, 1) := by decide +kernel
theorem dX8_cleared_75 : decode cX8_cleared 75 = .ok (.aaload, 1) := by decide +kernel
theorem dX8_cleared_76 : decode cX8_cleared 76 = .ok (.iload_n 2, 1) := by decide +kernel
theorem dX8_cleared_77 : decode cX8_cleared 77 = .ok (.iaload, 1) := by decide +kernel
theorem dX8_cleared_78 : decode cX8_cleared 78 = .ok (.ireturn, 1) := by decide +kernel
theorem dX8_child_0 : decode cX8_child 0 = .ok (.iload_n 1, 1) := by decide +kernel
theorem dX8_child_1 : decode cX8_child 1 = .ok (.iconst 1, 1) := by decide +kernel
theorem dX8_child_2 : decode cX8_child 2 = .ok (.bipush 99, 2) := by decide +kernel
theorem dX8_child_4 : decode cX8_child 4 = .ok (.invokestatic 88, 3) := by decide +kernel
theorem dX8_child_7 : decode cX8_child 7 = .ok (.ifCond .eq 14, 3) := by decide +kernel
theorem dX8_child_10 : decode cX8_child 10 = .ok (.aload_n 0, 1) := by decide +kernel
theorem dX8_child_11 : decode cX8_child 11 = .ok (.getfield 31, 3) := by decide +kernel
theorem dX8_child_14 : decode cX8_child 14 = .ok (.iload_n 2, 1) := by decide +kernel
theorem dX8_child_15 : decode cX8_child 15 = .ok (.invokevirtual 219, 3) := by decide +kernel
theorem dX8_child_18 : decode cX8_child 18 = .ok (.ifCond .ne 5, 3) := by decide +kernel
theorem dX8_child_21 : decode cX8_child 21 = .ok (.iconst (-1), 1) := by decide +kernel
theorem dX8_child_22 : decode cX8_child 22 = .ok (.ireturn, 1) := by decide +kernel
theorem dX8_child_23 : decode cX8_child 23 = .ok (.aload_n 0, 1) := by decide +kernel
theorem dX8_child_24 : decode cX8_child 24 = .ok (.getfield 74, 3) := by decide +kernel
theorem dX8_child_27 : decode cX8_child 27 = .ok (.iload_n 1, 1) := by decide +kernel
theorem dX8_child_28 : decode cX8_child 28 = .ok (.aload_n 0, 1) := by decide +kernel
theorem dX8_child_29 : decode cX8_child 29 = .ok (.getfield 31, 3) := by decide +kernel
theorem dX8_child_32 : decode cX8_child 32 = .ok (.invokevirtual 222, 3) := by decide +kernel
theorem dX8_child_35 : decode cX8_child 35 = .ok (.aload_n 0, 1) := by decide +kernel
theorem dX8_child_36 : decode cX8_child 36 = .ok (.getfield 74, 3) := by decide +kernel
theorem dX8_child_39 : decode cX8_child 39 = .ok (.aload_n 0, 1) := by decide +kernel
theorem dX8_child_40 : decode cX8_child 40 = .ok (.getfield 31, 3) := by decide +kernel
theorem dX8_child_43 : decode cX8_child 43 = .ok (.invokevirtual 226, 3) := by decide +kernel
theorem dX8_child_46 : decode cX8_child 46 = .ok (.ifCond .eq 8, 3) := by decide +kernel
theorem dX8_child_49 : decode cX8_child 49 = .ok (.bipush (-2), 2) := by decide +kernel
theorem dX8_child_51 : decode cX8_child 51 = .ok (.goto 12, 3) := by decide +kernel
theorem dX8_child_54 : decode cX8_child 54 = .ok (.aload_n 0, 1) := by decide +kernel
theorem dX8_child_55 : decode cX8_child 55 = .ok (.getfield 74, 3) := by decide +kernel
theorem dX8_child_58 : decode cX8_child 58 = .ok (.getfield 230, 3) := by decide +kernel
theorem dX8_child_61 : decode cX8_child 61 = .ok (.iload_n 2, 1) := by decide +kernel
theorem dX8_child_62 : decode cX8_child 62 = .ok (.iaload, 1) := by decide +kernel
theorem dX8_child_63 : decode cX8_child 63 = .ok (.ireturn, 1) := by decide +kernel
theorem dX8_falls_0 : decode cX8_falls 0 = .ok (.aload_n 0, 1) := by decide +kernel
theorem dX8_falls_1 : decode cX8_falls 1 = .ok (.getfield 31, 3) := by decide +kernel
theorem dX8_falls_4 : decode cX8_falls 4 = .ok (.iload_n 1, 1) := by decide +kernel
theorem dX8_falls_5 : decode cX8_falls 5 = .ok (.invokevirtual 219, 3) := by decide +kernel
theorem dX8_falls_8 : decode cX8_falls 8 = .ok (.ifCond .eq 12, 3) := by decide +kernel
theorem dX8_falls_11 : decode cX8_falls 11 = .ok (.iload_n 2, 1) := by decide +kernel
theorem dX8_falls_12 : decode cX8_falls 12 = .ok (.iconst 0, 1) := by decide +kernel
theorem dX8_falls_13 : decode cX8_falls 13 = .ok (.iconst 1, 1) := by decide +kernel
theorem dX8_falls_14 : decode cX8_falls 14 = .ok (.invokestatic 88, 3) := by decide +kernel
theorem dX8_falls_17 : decode cX8_falls 17 = .ok (.ifCond .ne 5, 3) := by decide +kernel
theorem dX8_falls_20 : decode cX8_falls 20 = .ok (.iconst (-1), 1) := by decide +kernel
theorem dX8_falls_21 : decode cX8_falls 21 = .ok (.ireturn, 1) := by decide +kernel
theorem dX8_falls_22 : decode cX8_falls 22 = .ok (.aload_n 0, 1) := by decide +kernel
theorem dX8_falls_23 : decode cX8_falls 23 = .ok (.getfield 38, 3) := by decide +kernel
theorem dX8_falls_26 : decode cX8_falls 26 = .ok (.aload_n 0, 1) := by decide +kernel
theorem dX8_falls_27 : decode cX8_falls 27 = .ok (.getfield 31, 3) := by decide +kernel
theorem dX8_falls_30 : decode cX8_falls 30 = .ok (.invokevirtual 174, 3) := by decide +kernel
theorem dX8_falls_33 : decode cX8_falls 33 = .ok (.aload_n 0, 1) := by decide +kernel
theorem dX8_falls_34 : decode cX8_falls 34 = .ok (.getfield 38, 3) := by decide +kernel
theorem dX8_falls_37 : decode cX8_falls 37 = .ok (.sipush 300, 3) := by decide +kernel
theorem dX8_falls_40 : decode cX8_falls 40 = .ok (.invokevirtual 177, 3) := by decide +kernel
theorem dX8_falls_43 : decode cX8_falls 43 = .ok (.aload_n 0, 1) := by decide +kernel
theorem dX8_falls_44 : decode cX8_falls 44 = .ok (.getfield 42, 3) := by decide +kernel
theorem dX8_falls_47 : decode cX8_falls 47 = .ok (.iload_n 1, 1) := by decide +kernel
theorem dX8_falls_48 : decode cX8_falls 48 = .ok (.aload_n 0, 1) := by decide +kernel
theorem dX8_falls_49 : decode cX8_falls 49 = .ok (.getfield 31, 3) := by decide +kernel
theorem dX8_falls_52 : decode cX8_falls 52 = .ok (.invokevirtual 233, 3) := by decide +kernel
theorem dX8_falls_55 : decode cX8_falls 55 = .ok (.aload_n 0, 1) := by decide +kernel
theorem dX8_falls_56 : decode cX8_falls 56 = .ok (.getfield 42, 3) := by decide +kernel
theorem dX8_falls_59 : decode cX8_falls 59 = .ok (.sipush 300, 3) := by decide +kernel
theorem dX8_falls_62 : decode cX8_falls 62 = .ok (.invokevirtual 177, 3) := by decide +kernel
theorem dX8_falls_65 : decode cX8_falls 65 = .ok (.iload_n 2, 1) := by decide +kernel
theorem dX8_falls_66 : decode cX8_falls 66 = .ok (.ifCond .ne 17, 3) := by decide +kernel
theorem dX8_falls_69 : decode cX8_falls 69 = .ok (.aload_n 0, 1) := by decide +kernel
theorem dX8_falls_70 : decode cX8_falls 70 = .ok (.getfield 42, 3) := by decide +kernel
theorem dX8_falls_73 : decode cX8_falls 73 = .ok (.aload_n 0, 1) := by decide +kernel
theorem dX8_falls_74 : decode cX8_falls 74 = .ok (.getfield 38, 3) := by decide +kernel
theorem dX8_falls_77 : decode cX8_falls 77 = .ok (.invokevirtual 236, 3) := by decide +kernel
theorem dX8_falls_80 : decode cX8_falls 80 = .ok (.goto 15, 3) := by decide +kernel
theorem dX8_falls_83 : decode cX8_falls 83 = .ok (.aload_n 0, 1) := by decide +kernel
theorem dX8_falls_84 : decode cX8_falls 84 = .ok (.getfield 42, 3) := by decide +kernel
theorem dX8_falls_87 : decode cX8_falls 87 = .ok (.aload_n 0, 1) := by decide +kernel
theorem dX8_falls_88 : decode cX8_falls 88 = .ok (.getfield 38, 3) := by decide +kernel
theorem dX8_falls_91 : decode cX8_falls 91 = .ok (.iload_n 1, 1) := by decide +kernel
theorem dX8_falls_92 : decode cX8_falls 92 = .ok (.invokevirtual 240, 3) := by decide +kernel
theorem dX8_falls_95 : decode cX8_falls 95 = .ok (.ireturn, 1) := by decide +kernel
theorem dX8_burned_0 : decode cX8_burned 0 = .ok (.iload_n 1, 1) := by decide +kernel
theorem dX8_burned_1 : decode cX8_burned 1 = .ok (.iconst 2, 1) := by decide +kernel
theorem dX8_burned_2 : decode cX8_burned 2 = .ok (.iconst 4, 1) := by decide +kernel
theorem dX8_burned_3 : decode cX8_burned 3 = .ok (.invokestatic 88, 3) := by decide +kernel
theorem dX8_burned_6 : decode cX8_burned 6 = .ok (.ifCond .eq 36, 3) := by decide +kernel
theorem dX8_burned_9 : decode cX8_burned 9 = .ok (.iload_n 2, 1) := by decide +kernel
theorem dX8_burned_10 : decode cX8_burned 10 = .ok (.iconst 1, 1) := by decide +kernel
theorem dX8_burned_11 : decode cX8_burned 11 = .ok (.bipush 12, 2) := by decide +kernel
theorem dX8_burned_13 : decode cX8_burned 13 = .ok (.invokestatic 88, 3) := by decide +kernel
theorem dX8_burned_16 : decode cX8_burned 16 = .ok (.ifCond .eq 26, 3) := by decide +kernel
theorem dX8_burned_19 : decode cX8_burned 19 = .ok (.iload_n 3, 1) := by decide +kernel
theorem dX8_burned_20 : decode cX8_burned 20 = .ok (.iconst 0, 1) := by decide +kernel
theorem dX8_burned_21 : decode cX8_burned 21 = .ok (.sipush 999, 3) := by decide +kernel
theorem dX8_burned_24 : decode cX8_burned 24 = .ok (.invokestatic 88, 3) := by decide +kernel
theorem dX8_burned_27 : decode cX8_burned 27 = .ok (.ifCond .eq 15, 3) := by decide +kernel
theorem dX8_burned_30 : decode cX8_burned 30 = .ok (.iload 4, 2) := by decide +kernel
theorem dX8_burned_32 : decode cX8_burned 32 = .ok (.iconst (-1), 1) := by decide +kernel
theorem dX8_burned_33 : decode cX8_burned 33 = .ok (.iload_n 1, 1) := by decide +kernel
theorem dX8_burned_34 : decode cX8_burned 34 = .ok (.iconst 1, 1) := by decide +kernel
theorem dX8_burned_35 : decode cX8_burned 35 = .ok (.isub, 1) := by decide +kernel
theorem dX8_burned_36 : decode cX8_burned 36 = .ok (.invokestatic 88, 3) := by decide +kernel
theorem dX8_burned_39 : decode cX8_burned 39 = .ok (.ifCond .ne 5, 3) := by decide +kernel
theorem dX8_burned_42 : decode cX8_burned 42 = .ok (.iconst (-1), 1) := by decide +kernel
theorem dX8_burned_43 : decode cX8_burned 43 = .ok (.ireturn, 1) := by decide +kernel
theorem dX8_burned_44 : decode cX8_burned 44 = .ok (.iload_n 1, 1) := by decide +kernel
theorem dX8_burned_45 : decode cX8_burned 45 = .ok (.iconst 1, 1) := by decide +kernel
theorem dX8_burned_46 : decode cX8_burned 46 = .ok (.iload_n 2, 1) := by decide +kernel
theorem dX8_burned_47 : decode cX8_burned 47 = .ok (.iload_n 3, 1) := by decide +kernel
theorem dX8_burned_48 : decode cX8_burned 48 = .ok (.invokestatic 244, 3) := by decide +kernel
theorem dX8_burned_51 : decode cX8_burned 51 = .ok (.istore 5, 2) := by decide +kernel
theorem dX8_burned_53 : decode cX8_burned 53 = .ok (.iload 4, 2) := by decide +kernel
theorem dX8_burned_55 : decode cX8_burned 55 = .ok (.iconst (-1), 1) := by decide +kernel
theorem dX8_burned_56 : decode cX8_burned 56 = .ok (.if_icmp .ne 6, 3) := by decide +kernel
theorem dX8_burned_59 : decode cX8_burned 59 = .ok (.iload 5, 2) := by decide +kernel
theorem dX8_burned_61 : decode cX8_burned 61 = .ok (.ireturn, 1) := by decide +kernel
theorem dX8_burned_62 : decode cX8_burned 62 = .ok (.iload 5, 2) := by decide +kernel
theorem dX8_burned_64 : decode cX8_burned 64 = .ok (.ifCond .ne 8, 3) := by decide +kernel
theorem dX8_burned_67 : decode cX8_burned 67 = .ok (.bipush (-4), 2) := by decide +kernel
theorem dX8_burned_69 : decode cX8_burned 69 = .ok (.goto 11, 3) := by decide +kernel
theorem dX8_burned_72 : decode cX8_burned 72 = .ok (.iload_n 1, 1) := by decide +kernel
theorem dX8_burned_73 : decode cX8_burned 73 = .ok (.iload_n 2, 1) := by decide +kernel
theorem dX8_burned_74 : decode cX8_burned 74 = .ok (.iload_n 3, 1) := by decide +kernel
theorem dX8_burned_75 : decode cX8_burned 75 = .ok (.iload 4, 2) := by decide +kernel
theorem dX8_burned_77 : decode cX8_burned 77 = .ok (.invokestatic 247, 3) := by decide +kernel
theorem dX8_burned_80 : decode cX8_burned 80 = .ok (.ireturn, 1) := by decide +kernel
theorem dX8_drawn_0 : decode cX8_drawn 0 = .ok (.iload_n 1, 1) := by decide +kernel
theorem dX8_drawn_1 : decode cX8_drawn 1 = .ok (.iconst 0, 1) := by decide +kernel
theorem dX8_drawn_2 : decode cX8_drawn 2 = .ok (.sipush 9999, 3) := by decide +kernel
theorem dX8_drawn_5 : decode cX8_drawn 5 = .ok (.invokestatic 88, 3) := by decide +kernel
theorem dX8_drawn_8 : decode cX8_drawn 8 = .ok (.ifCond .eq 22, 3) := by decide +kernel
theorem dX8_drawn_11 : decode cX8_drawn 11 = .ok (.iload_n 2, 1) := by decide +kernel
theorem dX8_drawn_12 : decode cX8_drawn 12 = .ok (.iconst 1, 1) := by decide +kernel
theorem dX8_drawn_13 : decode cX8_drawn 13 = .ok (.bipush 60, 2) := by decide +kernel
theorem dX8_drawn_15 : decode cX8_drawn 15 = .ok (.invokestatic 88, 3) := by decide +kernel
theorem dX8_drawn_18 : decode cX8_drawn 18 = .ok (.ifCond .eq 12, 3) := by decide +kernel
theorem dX8_drawn_21 : decode cX8_drawn 21 = .ok (.iload_n 3, 1) := by decide +kernel
theorem dX8_drawn_22 : decode cX8_drawn 22 = .ok (.iconst 0, 1) := by decide +kernel
theorem dX8_drawn_23 : decode cX8_drawn 23 = .ok (.iconst 1, 1) := by decide +kernel
theorem dX8_drawn_24 : decode cX8_drawn 24 = .ok (.invokestatic 88, 3) := by decide +kernel
theorem dX8_drawn_27 : decode cX8_drawn 27 = .ok (.ifCond .ne 5, 3) := by decide +kernel
theorem dX8_drawn_30 : decode cX8_drawn 30 = .ok (.iconst (-1), 1) := by decide +kernel
theorem dX8_drawn_31 : decode cX8_drawn 31 = .ok (.ireturn, 1) := by decide +kernel
theorem dX8_drawn_32 : decode cX8_drawn 32 = .ok (.aload_n 0, 1) := by decide +kernel
theorem dX8_drawn_33 : decode cX8_drawn 33 = .ok (.getfield 38, 3) := by decide +kernel
theorem dX8_drawn_36 : decode cX8_drawn 36 = .ok (.aload_n 0, 1) := by decide +kernel
theorem dX8_drawn_37 : decode cX8_drawn 37 = .ok (.getfield 31, 3) := by decide +kernel
theorem dX8_drawn_40 : decode cX8_drawn 40 = .ok (.invokevirtual 174, 3) := by decide +kernel
theorem dX8_drawn_43 : decode cX8_drawn 43 = .ok (.iconst 0, 1) := by decide +kernel
theorem dX8_drawn_44 : decode cX8_drawn 44 = .ok (.istore 4, 2) := by decide +kernel
theorem dX8_drawn_46 : decode cX8_drawn 46 = .ok (.iload 4, 2) := by decide +kernel
theorem dX8_drawn_48 : decode cX8_drawn 48 = .ok (.iload_n 2, 1) := by decide +kernel
theorem dX8_drawn_49 : decode cX8_drawn 49 = .ok (.if_icmp .ge 31, 3) := by decide +kernel
theorem dX8_drawn_52 : decode cX8_drawn 52 = .ok (.aload_n 0, 1) := by decide +kernel
theorem dX8_drawn_53 : decode cX8_drawn 53 = .ok (.aload_n 0, 1) := by decide +kernel
theorem dX8_drawn_54 : decode cX8_drawn 54 = .ok (.getfield 38, 3) := by decide +kernel
theorem dX8_drawn_57 : decode cX8_drawn 57 = .ok (.getfield 184, 3) := by decide +kernel
theorem dX8_drawn_60 : decode cX8_drawn 60 = .ok (.iload_n 1, 1) := by decide +kernel
theorem dX8_drawn_61 : decode cX8_drawn 61 = .ok (.iload 4, 2) := by decide +kernel
theorem dX8_drawn_63 : decode cX8_drawn 63 = .ok (.invokevirtual 250, 3) := by decide +kernel
theorem dX8_drawn_66 : decode cX8_drawn 66 = .ok (.aload_n 0, 1) := by decide +kernel
theorem dX8_drawn_67 : decode cX8_drawn 67 = .ok (.getfield 38, 3) := by decide +kernel
theorem dX8_drawn_70 : decode cX8_drawn 70 = .ok (.iconst 1, 1) := by decide +kernel
theorem dX8_drawn_71 : decode cX8_drawn 71 = .ok (.invokevirtual 177, 3) := by decide +kernel
theorem dX8_drawn_74 : decode cX8_drawn 74 = .ok (.iinc 4 1, 3) := by decide +kernel
theorem dX8_drawn_77 : decode cX8_drawn 77 = .ok (.goto (-31), 3) := by decide +kernel
theorem dX8_drawn_80 : decode cX8_drawn 80 = .ok (.iload_n 3, 1) := by decide +kernel
theorem dX8_drawn_81 : decode cX8_drawn 81 = .ok (.ifCond .ne 16, 3) := by decide +kernel
theorem dX8_drawn_84 : decode cX8_drawn 84 = .ok (.aload_n 0, 1) := by decide +kernel
theorem dX8_drawn_85 : decode cX8_drawn 85 = .ok (.getfield 38, 3) := by decide +kernel
theorem dX8_drawn_88 : decode cX8_drawn 88 = .ok (.getfield 184, 3) := by decide +kernel
theorem dX8_drawn_91 : decode cX8_drawn 91 = .ok (.invokevirtual 166, 3) := by decide +kernel
theorem dX8_drawn_94 : decode cX8_drawn 94 = .ok (.goto 13, 3) := by decide +kernel
theorem dX8_drawn_97 : decode cX8_drawn 97 = .ok (.aload_n 0, 1) := by decide +kernel
theorem dX8_drawn_98 : decode cX8_drawn 98 = .ok (.getfield 38, 3) := by decide +kernel
theorem dX8_drawn_101 : decode cX8_drawn 101 = .ok (.getfield 184, 3) := by decide +kernel
theorem dX8_drawn_104 : decode cX8_drawn 104 = .ok (.invokevirtual 254, 3) := by decide +kernel
theorem dX8_drawn_107 : decode cX8_drawn 107 = .ok (.ireturn, 1) := by decide +kernel
theorem dX8_keep_0 : decode cX8_keep 0 = .ok (.aload_n 0, 1) := by decide +kernel
theorem dX8_keep_1 : decode cX8_keep 1 = .ok (.getfield 54, 3) := by decide +kernel
theorem dX8_keep_4 : decode cX8_keep 4 = .ok (.getfield 113, 3) := by decide +kernel
theorem dX8_keep_7 : decode cX8_keep 7 = .ok (.iconst 2, 1) := by decide +kernel
theorem dX8_keep_8 : decode cX8_keep 8 = .ok (.if_icmp .lt 6, 3) := by decide +kernel
theorem dX8_keep_11 : decode cX8_keep 11 = .ok (.bipush (-3), 2) := by decide +kernel
theorem dX8_keep_13 : decode cX8_keep 13 = .ok (.ireturn, 1) := by decide +kernel
theorem dX8_keep_14 : decode cX8_keep 14 = .ok (.aload_n 0, 1) := by decide +kernel
theorem dX8_keep_15 : decode cX8_keep 15 = .ok (.getfield 54, 3) := by decide +kernel
theorem dX8_keep_18 : decode cX8_keep 18 = .ok (.aload_n 0, 1) := by decide +kernel
theorem dX8_keep_19 : decode cX8_keep 19 = .ok (.getfield 31, 3) := by decide +kernel
theorem dX8_keep_22 : decode cX8_keep 22 = .ok (.invokevirtual 154, 3) := by decide +kernel
theorem dX8_keep_25 : decode cX8_keep 25 = .ok (.aload_n 0, 1) := by decide +kernel
theorem dX8_keep_26 : decode cX8_keep 26 = .ok (.getfield 54, 3) := by decide +kernel
theorem dX8_keep_29 : decode cX8_keep 29 = .ok (.getfield 113, 3) := by decide +kernel
theorem dX8_keep_32 : decode cX8_keep 32 = .ok (.ireturn, 1) := by decide +kernel
theorem dX8_back_0 : decode cX8_back 0 = .ok (.aload_n 0, 1) := by decide +kernel
theorem dX8_back_1 : decode cX8_back 1 = .ok (.getfield 54, 3) := by decide +kernel
theorem dX8_back_4 : decode cX8_back 4 = .ok (.aload_n 0, 1) := by decide +kernel
theorem dX8_back_5 : decode cX8_back 5 = .ok (.getfield 31, 3) := by decide +kernel
theorem dX8_back_8 : decode cX8_back 8 = .ok (.invokevirtual 170, 3) := by decide +kernel
theorem dX8_back_11 : decode cX8_back 11 = .ok (.istore_n 1, 1) := by decide +kernel
theorem dX8_back_12 : decode cX8_back 12 = .ok (.iload_n 1, 1) := by decide +kernel
theorem dX8_back_13 : decode cX8_back 13 = .ok (.bipush (-2), 2) := by decide +kernel
theorem dX8_back_15 : decode cX8_back 15 = .ok (.if_icmp .eq 11, 3) := by decide +kernel
theorem dX8_back_18 : decode cX8_back 18 = .ok (.aload_n 0, 1) := by decide +kernel
theorem dX8_back_19 : decode cX8_back 19 = .ok (.getfield 50, 3) := by decide +kernel
theorem dX8_back_22 : decode cX8_back 22 = .ok (.iconst 0, 1) := by decide +kernel
theorem dX8_back_23 : decode cX8_back 23 = .ok (.putfield 113, 3) := by decide +kernel
theorem dX8_back_26 : decode cX8_back 26 = .ok (.iload_n 1, 1) := by decide +kernel
theorem dX8_back_27 : decode cX8_back 27 = .ok (.ireturn, 1) := by decide +kernel
theorem dX8_count_0 : decode cX8_count 0 = .ok (.iload_n 1, 1) := by decide +kernel
theorem dX8_count_1 : decode cX8_count 1 = .ok (.tableswitch 99 0 6 #[43, 51, 59, 67, 75, 83, 91], 43) := by decide +kernel
theorem dX8_count_44 : decode cX8_count 44 = .ok (.aload_n 0, 1) := by decide +kernel
theorem dX8_count_45 : decode cX8_count 45 = .ok (.getfield 19, 3) := by decide +kernel
theorem dX8_count_48 : decode cX8_count 48 = .ok (.getfield 104, 3) := by decide +kernel
theorem dX8_count_51 : decode cX8_count 51 = .ok (.ireturn, 1) := by decide +kernel
theorem dX8_count_52 : decode cX8_count 52 = .ok (.aload_n 0, 1) := by decide +kernel
theorem dX8_count_53 : decode cX8_count 53 = .ok (.getfield 31, 3) := by decide +kernel
theorem dX8_count_56 : decode cX8_count 56 = .ok (.getfield 128, 3) := by decide +kernel
theorem dX8_count_59 : decode cX8_count 59 = .ok (.ireturn, 1) := by decide +kernel
theorem dX8_count_60 : decode cX8_count 60 = .ok (.aload_n 0, 1) := by decide +kernel
theorem dX8_count_61 : decode cX8_count 61 = .ok (.getfield 60, 3) := by decide +kernel
theorem dX8_count_64 : decode cX8_count 64 = .ok (.getfield 110, 3) := by decide +kernel
theorem dX8_count_67 : decode cX8_count 67 = .ok (.ireturn, 1) := by decide +kernel
theorem dX8_count_68 : decode cX8_count 68 = .ok (.aload_n 0, 1) := by decide +kernel
theorem dX8_count_69 : decode cX8_count 69 = .ok (.getfield 50, 3) := by decide +kernel
theorem dX8_count_72 : decode cX8_count 72 = .ok (.getfield 113, 3) := by decide +kernel
theorem dX8_count_75 : decode cX8_count 75 = .ok (.ireturn, 1) := by decide +kernel
theorem dX8_count_76 : decode cX8_count 76 = .ok (.aload_n 0, 1) := by decide +kernel
theorem dX8_count_77 : decode cX8_count 77 = .ok (.getfield 54, 3) := by decide +kernel
theorem dX8_count_80 : decode cX8_count 80 = .ok (.getfield 113, 3) := by decide +kernel
theorem dX8_count_83 : decode cX8_count 83 = .ok (.ireturn, 1) := by decide +kernel
theorem dX8_count_84 : decode cX8_count 84 = .ok (.aload_n 0, 1) := by decide +kernel
theorem dX8_count_85 : decode cX8_count 85 = .ok (.getfield 10, 3) := by decide +kernel
theorem dX8_count_88 : decode cX8_count 88 = .ok (.getfield 92, 3) := by decide +kernel
theorem dX8_count_91 : decode cX8_count 91 = .ok (.ireturn, 1) := by decide +kernel
theorem dX8_count_92 : decode cX8_count 92 = .ok (.aload_n 0, 1) := by decide +kernel
theorem dX8_count_93 : decode cX8_count 93 = .ok (.getfield 31, 3) := by decide +kernel
theorem dX8_count_96 : decode cX8_count 96 = .ok (.getfield 257, 3) := by decide +kernel
theorem dX8_count_99 : decode cX8_count 99 = .ok (.ireturn, 1) := by decide +kernel
theorem dX8_count_100 : decode cX8_count 100 = .ok (.iconst (-1), 1) := by decide +kernel
theorem dX8_count_101 : decode cX8_count 101 = .ok (.ireturn, 1) := by decide +kernel
theorem dX8_isPerson_0 : decode cX8_isPerson 0 = .ok (.iload_n 1, 1) := by decide +kernel
theorem dX8_isPerson_1 : decode cX8_isPerson 1 = .ok (.iconst 0, 1) := by decide +kernel
theorem dX8_isPerson_2 : decode cX8_isPerson 2 = .ok (.aload_n 0, 1) := by decide +kernel
theorem dX8_isPerson_3 : decode cX8_isPerson 3 = .ok (.getfield 19, 3) := by decide +kernel
theorem dX8_isPerson_6 : decode cX8_isPerson 6 = .ok (.getfield 104, 3) := by decide +kernel
theorem dX8_isPerson_9 : decode cX8_isPerson 9 = .ok (.iconst 1, 1) := by decide +kernel
theorem dX8_isPerson_10 : decode cX8_isPerson 10 = .ok (.isub, 1) := by decide +kernel
theorem dX8_isPerson_11 : decode cX8_isPerson 11 = .ok (.invokestatic 88, 3) := by decide +kernel
theorem dX8_isPerson_14 : decode cX8_isPerson 14 = .ok (.ireturn, 1) := by decide +kernel
theorem dX8_within_0 : decode cX8_within 0 = .ok (.iload_n 0, 1) := by decide +kernel
theorem dX8_within_1 : decode cX8_within 1 = .ok (.iload_n 1, 1) := by decide +kernel
theorem dX8_within_2 : decode cX8_within 2 = .ok (.if_icmp .lt 12, 3) := by decide +kernel
theorem dX8_within_5 : decode cX8_within 5 = .ok (.iload_n 0, 1) := by decide +kernel
theorem dX8_within_6 : decode cX8_within 6 = .ok (.iload_n 2, 1) := by decide +kernel
theorem dX8_within_7 : decode cX8_within 7 = .ok (.if_icmp .gt 7, 3) := by decide +kernel
theorem dX8_within_10 : decode cX8_within 10 = .ok (.iconst 1, 1) := by decide +kernel
theorem dX8_within_11 : decode cX8_within 11 = .ok (.goto 4, 3) := by decide +kernel
theorem dX8_within_14 : decode cX8_within 14 = .ok (.iconst 0, 1) := by decide +kernel
theorem dX8_within_15 : decode cX8_within 15 = .ok (.ireturn, 1) := by decide +kernel
theorem dX8_isLoanOf_0 : decode cX8_isLoanOf 0 = .ok (.iload_n 0, 1) := by decide +kernel
theorem dX8_isLoanOf_1 : decode cX8_isLoanOf 1 = .ok (.iconst 1, 1) := by decide +kernel
theorem dX8_isLoanOf_2 : decode cX8_isLoanOf 2 = .ok (.sipush 200, 3) := by decide +kernel
theorem dX8_isLoanOf_5 : decode cX8_isLoanOf 5 = .ok (.invokestatic 88, 3) := by decide +kernel
theorem dX8_isLoanOf_8 : decode cX8_isLoanOf 8 = .ok (.ifCond .eq 18, 3) := by decide +kernel
theorem dX8_isLoanOf_11 : decode cX8_isLoanOf 11 = .ok (.iload_n 1, 1) := by decide +kernel
theorem dX8_isLoanOf_12 : decode cX8_isLoanOf 12 = .ok (.iconst 1, 1) := by decide +kernel
theorem dX8_isLoanOf_13 : decode cX8_isLoanOf 13 = .ok (.sipush 200, 3) := by decide +kernel
theorem dX8_isLoanOf_16 : decode cX8_isLoanOf 16 = .ok (.invokestatic 88, 3) := by decide +kernel
theorem dX8_isLoanOf_19 : decode cX8_isLoanOf 19 = .ok (.ifCond .eq 7, 3) := by decide +kernel
theorem dX8_isLoanOf_22 : decode cX8_isLoanOf 22 = .ok (.iconst 1, 1) := by decide +kernel
theorem dX8_isLoanOf_23 : decode cX8_isLoanOf 23 = .ok (.goto 4, 3) := by decide +kernel
theorem dX8_isLoanOf_26 : decode cX8_isLoanOf 26 = .ok (.iconst 0, 1) := by decide +kernel
theorem dX8_isLoanOf_27 : decode cX8_isLoanOf 27 = .ok (.ireturn, 1) := by decide +kernel
theorem dX8_rowsOf_0 : decode cX8_rowsOf 0 = .ok (.iload_n 0, 1) := by decide +kernel
theorem dX8_rowsOf_1 : decode cX8_rowsOf 1 = .ok (.ifCond .le 8, 3) := by decide +kernel
theorem dX8_rowsOf_4 : decode cX8_rowsOf 4 = .ok (.iload_n 0, 1) := by decide +kernel
theorem dX8_rowsOf_5 : decode cX8_rowsOf 5 = .ok (.iconst 4, 1) := by decide +kernel
theorem dX8_rowsOf_6 : decode cX8_rowsOf 6 = .ok (.if_icmp .le 13, 3) := by decide +kernel
theorem dX8_rowsOf_9 : decode cX8_rowsOf 9 = .ok (.iload_n 3, 1) := by decide +kernel
theorem dX8_rowsOf_10 : decode cX8_rowsOf 10 = .ok (.ifCond .ne 7, 3) := by decide +kernel
theorem dX8_rowsOf_13 : decode cX8_rowsOf 13 = .ok (.iconst 1, 1) := by decide +kernel
theorem dX8_rowsOf_14 : decode cX8_rowsOf 14 = .ok (.goto 4, 3) := by decide +kernel
theorem dX8_rowsOf_17 : decode cX8_rowsOf 17 = .ok (.iconst 0, 1) := by decide +kernel
theorem dX8_rowsOf_18 : decode cX8_rowsOf 18 = .ok (.ireturn, 1) := by decide +kernel
theorem dX8_rowsOf_19 : decode cX8_rowsOf 19 = .ok (.iload_n 3, 1) := by decide +kernel
theorem dX8_rowsOf_20 : decode cX8_rowsOf 20 = .ok (.iload_n 0, 1) := by decide +kernel
theorem dX8_rowsOf_21 : decode cX8_rowsOf 21 = .ok (.iload_n 2, 1) := by decide +kernel
theorem dX8_rowsOf_22 : decode cX8_rowsOf 22 = .ok (.imul, 1) := by decide +kernel
theorem dX8_rowsOf_23 : decode cX8_rowsOf 23 = .ok (.if_icmp .le 5, 3) := by decide +kernel
theorem dX8_rowsOf_26 : decode cX8_rowsOf 26 = .ok (.iconst 0, 1) := by decide +kernel
theorem dX8_rowsOf_27 : decode cX8_rowsOf 27 = .ok (.ireturn, 1) := by decide +kernel
theorem dX8_rowsOf_28 : decode cX8_rowsOf 28 = .ok (.iconst 0, 1) := by decide +kernel
theorem dX8_rowsOf_29 : decode cX8_rowsOf 29 = .ok (.istore 4, 2) := by decide +kernel
theorem dX8_rowsOf_31 : decode cX8_rowsOf 31 = .ok (.iload_n 1, 1) := by decide +kernel
theorem dX8_rowsOf_32 : decode cX8_rowsOf 32 = .ok (.istore 5, 2) := by decide +kernel
theorem dX8_rowsOf_34 : decode cX8_rowsOf 34 = .ok (.iload 5, 2) := by decide +kernel
theorem dX8_rowsOf_36 : decode cX8_rowsOf 36 = .ok (.iload_n 2, 1) := by decide +kernel
theorem dX8_rowsOf_37 : decode cX8_rowsOf 37 = .ok (.if_icmp .gt 35, 3) := by decide +kernel
theorem dX8_rowsOf_40 : decode cX8_rowsOf 40 = .ok (.iload 5, 2) := by decide +kernel
theorem dX8_rowsOf_42 : decode cX8_rowsOf 42 = .ok (.iload_n 0, 1) := by decide +kernel
theorem dX8_rowsOf_43 : decode cX8_rowsOf 43 = .ok (.imul, 1) := by decide +kernel
theorem dX8_rowsOf_44 : decode cX8_rowsOf 44 = .ok (.iload_n 3, 1) := by decide +kernel
theorem dX8_rowsOf_45 : decode cX8_rowsOf 45 = .ok (.if_icmp .gt 27, 3) := by decide +kernel
theorem dX8_rowsOf_48 : decode cX8_rowsOf 48 = .ok (.iload 4, 2) := by decide +kernel
theorem dX8_rowsOf_50 : decode cX8_rowsOf 50 = .ok (.iload_n 0, 1) := by decide +kernel
theorem dX8_rowsOf_51 : decode cX8_rowsOf 51 = .ok (.iconst 1, 1) := by decide +kernel
theorem dX8_rowsOf_52 : decode cX8_rowsOf 52 = .ok (.isub, 1) := by decide +kernel
theorem dX8_rowsOf_53 : decode cX8_rowsOf 53 = .ok (.iload 5, 2) := by decide +kernel
theorem dX8_rowsOf_55 : decode cX8_rowsOf 55 = .ok (.iload_n 2, 1) := by decide +kernel
theorem dX8_rowsOf_56 : decode cX8_rowsOf 56 = .ok (.iload_n 3, 1) := by decide +kernel
theorem dX8_rowsOf_57 : decode cX8_rowsOf 57 = .ok (.iload 5, 2) := by decide +kernel
theorem dX8_rowsOf_59 : decode cX8_rowsOf 59 = .ok (.isub, 1) := by decide +kernel
theorem dX8_rowsOf_60 : decode cX8_rowsOf 60 = .ok (.invokestatic 244, 3) := by decide +kernel
theorem dX8_rowsOf_63 : decode cX8_rowsOf 63 = .ok (.iadd, 1) := by decide +kernel
theorem dX8_rowsOf_64 : decode cX8_rowsOf 64 = .ok (.istore 4, 2) := by decide +kernel
theorem dX8_rowsOf_66 : decode cX8_rowsOf 66 = .ok (.iinc 5 1, 3) := by decide +kernel
theorem dX8_rowsOf_69 : decode cX8_rowsOf 69 = .ok (.goto (-35), 3) := by decide +kernel
theorem dX8_rowsOf_72 : decode cX8_rowsOf 72 = .ok (.iload 4, 2) := by decide +kernel
theorem dX8_rowsOf_74 : decode cX8_rowsOf 74 = .ok (.ireturn, 1) := by decide +kernel
theorem dX8_numberOfFirstRow_0 : decode cX8_numberOfFirstRow 0 = .ok (.iconst 1, 1) := by decide +kernel
theorem dX8_numberOfFirstRow_1 : decode cX8_numberOfFirstRow 1 = .ok (.istore 4, 2) := by decide +kernel
theorem dX8_numberOfFirstRow_3 : decode cX8_numberOfFirstRow 3 = .ok (.iload_n 2, 1) := by decide +kernel
theorem dX8_numberOfFirstRow_4 : decode cX8_numberOfFirstRow 4 = .ok (.istore 5, 2) := by decide +kernel
theorem dX8_numberOfFirstRow_6 : decode cX8_numberOfFirstRow 6 = .ok (.iconst 0, 1) := by decide +kernel
theorem dX8_numberOfFirstRow_7 : decode cX8_numberOfFirstRow 7 = .ok (.istore 6, 2) := by decide +kernel
theorem dX8_numberOfFirstRow_9 : decode cX8_numberOfFirstRow 9 = .ok (.iload 6, 2) := by decide +kernel
theorem dX8_numberOfFirstRow_11 : decode cX8_numberOfFirstRow 11 = .ok (.iload_n 3, 1) := by decide +kernel
theorem dX8_numberOfFirstRow_12 : decode cX8_numberOfFirstRow 12 = .ok (.if_icmp .gt 48, 3) := by decide +kernel
theorem dX8_numberOfFirstRow_15 : decode cX8_numberOfFirstRow 15 = .ok (.iload 4, 2) := by decide +kernel
theorem dX8_numberOfFirstRow_17 : decode cX8_numberOfFirstRow 17 = .ok (.iload_n 1, 1) := by decide +kernel
theorem dX8_numberOfFirstRow_18 : decode cX8_numberOfFirstRow 18 = .ok (.if_icmp .ge 29, 3) := by decide +kernel
theorem dX8_numberOfFirstRow_21 : decode cX8_numberOfFirstRow 21 = .ok (.iload_n 0, 1) := by decide +kernel
theorem dX8_numberOfFirstRow_22 : decode cX8_numberOfFirstRow 22 = .ok (.iload 6, 2) := by decide +kernel
theorem dX8_numberOfFirstRow_24 : decode cX8_numberOfFirstRow 24 = .ok (.isub, 1) := by decide +kernel
theorem dX8_numberOfFirstRow_25 : decode cX8_numberOfFirstRow 25 = .ok (.iconst 1, 1) := by decide +kernel
theorem dX8_numberOfFirstRow_26 : decode cX8_numberOfFirstRow 26 = .ok (.isub, 1) := by decide +kernel
theorem dX8_numberOfFirstRow_27 : decode cX8_numberOfFirstRow 27 = .ok (.iload 4, 2) := by decide +kernel
theorem dX8_numberOfFirstRow_29 : decode cX8_numberOfFirstRow 29 = .ok (.iload_n 1, 1) := by decide +kernel
theorem dX8_numberOfFirstRow_30 : decode cX8_numberOfFirstRow 30 = .ok (.iload 5, 2) := by decide +kernel
theorem dX8_numberOfFirstRow_32 : decode cX8_numberOfFirstRow 32 = .ok (.iload 4, 2) := by decide +kernel
theorem dX8_numberOfFirstRow_34 : decode cX8_numberOfFirstRow 34 = .ok (.isub, 1) := by decide +kernel
theorem dX8_numberOfFirstRow_35 : decode cX8_numberOfFirstRow 35 = .ok (.invokestatic 244, 3) := by decide +kernel
theorem dX8_numberOfFirstRow_38 : decode cX8_numberOfFirstRow 38 = .ok (.ifCond .ne 9, 3) := by decide +kernel
theorem dX8_numberOfFirstRow_41 : decode cX8_numberOfFirstRow 41 = .ok (.iinc 4 1, 3) := by decide +kernel
theorem dX8_numberOfFirstRow_44 : decode cX8_numberOfFirstRow 44 = .ok (.goto (-29), 3) := by decide +kernel
theorem dX8_numberOfFirstRow_47 : decode cX8_numberOfFirstRow 47 = .ok (.iload 5, 2) := by decide +kernel
theorem dX8_numberOfFirstRow_49 : decode cX8_numberOfFirstRow 49 = .ok (.iload 4, 2) := by decide +kernel
theorem dX8_numberOfFirstRow_51 : decode cX8_numberOfFirstRow 51 = .ok (.isub, 1) := by decide +kernel
theorem dX8_numberOfFirstRow_52 : decode cX8_numberOfFirstRow 52 = .ok (.istore 5, 2) := by decide +kernel
theorem dX8_numberOfFirstRow_54 : decode cX8_numberOfFirstRow 54 = .ok (.iinc 6 1, 3) := by decide +kernel
theorem dX8_numberOfFirstRow_57 : decode cX8_numberOfFirstRow 57 = .ok (.goto (-48), 3) := by decide +kernel
theorem dX8_numberOfFirstRow_60 : decode cX8_numberOfFirstRow 60 = .ok (.iload 4, 2) := by decide +kernel
theorem dX8_numberOfFirstRow_62 : decode cX8_numberOfFirstRow 62 = .ok (.ireturn, 1) := by decide +kernel
theorem dX8_lendByDraw_0 : decode cX8_lendByDraw 0 = .ok (.aload_n 0, 1) := by decide +kernel
theorem dX8_lendByDraw_1 : decode cX8_lendByDraw 1 = .ok (.getfield 19, 3) := by decide +kernel
theorem dX8_lendByDraw_4 : decode cX8_lendByDraw 4 = .ok (.getfield 104, 3) := by decide +kernel
theorem dX8_lendByDraw_7 : decode cX8_lendByDraw 7 = .ok (.istore 4, 2) := by decide +kernel
theorem dX8_lendByDraw_9 : decode cX8_lendByDraw 9 = .ok (.iload 4, 2) := by decide +kernel
theorem dX8_lendByDraw_11 : decode cX8_lendByDraw 11 = .ok (.iconst 1, 1) := by decide +kernel
theorem dX8_lendByDraw_12 : decode cX8_lendByDraw 12 = .ok (.if_icmp .ge 4, 3) := by decide +kernel
theorem dX8_lendByDraw_15 : decode cX8_lendByDraw 15 = .ok (.return_, 1) := by decide +kernel
theorem dX8_lendByDraw_16 : decode cX8_lendByDraw 16 = .ok (.iload_n 2, 1) := by decide +kernel
theorem dX8_lendByDraw_17 : decode cX8_lendByDraw 17 = .ok (.iload_n 3, 1) := by decide +kernel
theorem dX8_lendByDraw_18 : decode cX8_lendByDraw 18 = .ok (.iconst 0, 1) := by decide +kernel
theorem dX8_lendByDraw_19 : decode cX8_lendByDraw 19 = .ok (.invokestatic 260, 3) := by decide +kernel
theorem dX8_lendByDraw_22 : decode cX8_lendByDraw 22 = .ok (.iload 4, 2) := by decide +kernel
theorem dX8_lendByDraw_24 : decode cX8_lendByDraw 24 = .ok (.irem, 1) := by decide +kernel
theorem dX8_lendByDraw_25 : decode cX8_lendByDraw 25 = .ok (.istore 5, 2) := by decide +kernel
theorem dX8_lendByDraw_27 : decode cX8_lendByDraw 27 = .ok (.iload_n 2, 1) := by decide +kernel
theorem dX8_lendByDraw_28 : decode cX8_lendByDraw 28 = .ok (.iload_n 3, 1) := by decide +kernel
theorem dX8_lendByDraw_29 : decode cX8_lendByDraw 29 = .ok (.iconst 1, 1) := by decide +kernel
theorem dX8_lendByDraw_30 : decode cX8_lendByDraw 30 = .ok (.invokestatic 260, 3) := by decide +kernel
theorem dX8_lendByDraw_33 : decode cX8_lendByDraw 33 = .ok (.iload 4, 2) := by decide +kernel
theorem dX8_lendByDraw_35 : decode cX8_lendByDraw 35 = .ok (.irem, 1) := by decide +kernel
theorem dX8_lendByDraw_36 : decode cX8_lendByDraw 36 = .ok (.istore 6, 2) := by decide +kernel
theorem dX8_lendByDraw_38 : decode cX8_lendByDraw 38 = .ok (.iconst 1, 1) := by decide +kernel
theorem dX8_lendByDraw_39 : decode cX8_lendByDraw 39 = .ok (.iload_n 2, 1) := by decide +kernel
theorem dX8_lendByDraw_40 : decode cX8_lendByDraw 40 = .ok (.iload_n 3, 1) := by decide +kernel
theorem dX8_lendByDraw_41 : decode cX8_lendByDraw 41 = .ok (.iconst 2, 1) := by decide +kernel
theorem dX8_lendByDraw_42 : decode cX8_lendByDraw 42 = .ok (.invokestatic 260, 3) := by decide +kernel
theorem dX8_lendByDraw_45 : decode cX8_lendByDraw 45 = .ok (.bipush 20, 2) := by decide +kernel
theorem dX8_lendByDraw_47 : decode cX8_lendByDraw 47 = .ok (.irem, 1) := by decide +kernel
theorem dX8_lendByDraw_48 : decode cX8_lendByDraw 48 = .ok (.iadd, 1) := by decide +kernel
theorem dX8_lendByDraw_49 : decode cX8_lendByDraw 49 = .ok (.istore 7, 2) := by decide +kernel
theorem dX8_lendByDraw_51 : decode cX8_lendByDraw 51 = .ok (.iconst 1, 1) := by decide +kernel
theorem dX8_lendByDraw_52 : decode cX8_lendByDraw 52 = .ok (.iload_n 2, 1) := by decide +kernel
theorem dX8_lendByDraw_53 : decode cX8_lendByDraw 53 = .ok (.iload_n 3, 1) := by decide +kernel
theorem dX8_lendByDraw_54 : decode cX8_lendByDraw 54 = .ok (.iconst 3, 1) := by decide +kernel
theorem dX8_lendByDraw_55 : decode cX8_lendByDraw 55 = .ok (.invokestatic 260, 3) := by decide +kernel
theorem dX8_lendByDraw_58 : decode cX8_lendByDraw 58 = .ok (.bipush 30, 2) := by decide +kernel
theorem dX8_lendByDraw_60 : decode cX8_lendByDraw 60 = .ok (.irem, 1) := by decide +kernel
theorem dX8_lendByDraw_61 : decode cX8_lendByDraw 61 = .ok (.iadd, 1) := by decide +kernel
theorem dX8_lendByDraw_62 : decode cX8_lendByDraw 62 = .ok (.istore 8, 2) := by decide +kernel
theorem dX8_lendByDraw_64 : decode cX8_lendByDraw 64 = .ok (.aload_n 1, 1) := by decide +kernel
theorem dX8_lendByDraw_65 : decode cX8_lendByDraw 65 = .ok (.iload 5, 2) := by decide +kernel
theorem dX8_lendByDraw_67 : decode cX8_lendByDraw 67 = .ok (.iload 6, 2) := by decide +kernel
theorem dX8_lendByDraw_69 : decode cX8_lendByDraw 69 = .ok (.iload 7, 2) := by decide +kernel
theorem dX8_lendByDraw_71 : decode cX8_lendByDraw 71 = .ok (.iload 8, 2) := by decide +kernel
theorem dX8_lendByDraw_73 : decode cX8_lendByDraw 73 = .ok (.invokevirtual 150, 3) := by decide +kernel
theorem dX8_lendByDraw_76 : decode cX8_lendByDraw 76 = .ok (.ifCond .ne 15, 3) := by decide +kernel
theorem dX8_lendByDraw_79 : decode cX8_lendByDraw 79 = .ok (.aload_n 1, 1) := by decide +kernel
theorem dX8_lendByDraw_80 : decode cX8_lendByDraw 80 = .ok (.iload 5, 2) := by decide +kernel
theorem dX8_lendByDraw_82 : decode cX8_lendByDraw 82 = .ok (.iload 6, 2) := by decide +kernel
theorem dX8_lendByDraw_84 : decode cX8_lendByDraw 84 = .ok (.iload 7, 2) := by decide +kernel
theorem dX8_lendByDraw_86 : decode cX8_lendByDraw 86 = .ok (.iload 8, 2) := by decide +kernel
theorem dX8_lendByDraw_88 : decode cX8_lendByDraw 88 = .ok (.invokevirtual 158, 3) := by decide +kernel
theorem dX8_lendByDraw_91 : decode cX8_lendByDraw 91 = .ok (.return_, 1) := by decide +kernel
theorem dX8_draw_0 : decode cX8_draw 0 = .ok (.ldc2_w 264, 3) := by decide +kernel
theorem dX8_draw_3 : decode cX8_draw 3 = .ok (.iload_n 0, 1) := by decide +kernel
theorem dX8_draw_4 : decode cX8_draw 4 = .ok (.i2l, 1) := by decide +kernel
theorem dX8_draw_5 : decode cX8_draw 5 = .ok (.lmul, 1) := by decide +kernel
theorem dX8_draw_6 : decode cX8_draw 6 = .ok (.ldc2_w 266, 3) := by decide +kernel
theorem dX8_draw_9 : decode cX8_draw 9 = .ok (.iload_n 1, 1) := by decide +kernel
theorem dX8_draw_10 : decode cX8_draw 10 = .ok (.i2l, 1) := by decide +kernel
theorem dX8_draw_11 : decode cX8_draw 11 = .ok (.lmul, 1) := by decide +kernel
theorem dX8_draw_12 : decode cX8_draw 12 = .ok (.ladd, 1) := by decide +kernel
theorem dX8_draw_13 : decode cX8_draw 13 = .ok (.ldc2_w 268, 3) := by decide +kernel
theorem dX8_draw_16 : decode cX8_draw 16 = .ok (.iload_n 2, 1) := by decide +kernel
theorem dX8_draw_17 : decode cX8_draw 17 = .ok (.i2l, 1) := by decide +kernel
theorem dX8_draw_18 : decode cX8_draw 18 = .ok (.lmul, 1) := by decide +kernel
theorem dX8_draw_19 : decode cX8_draw 19 = .ok (.ladd, 1) := by decide +kernel
theorem dX8_draw_20 : decode cX8_draw 20 = .ok (.lconst 1, 1) := by decide +kernel
theorem dX8_draw_21 : decode cX8_draw 21 = .ok (.ladd, 1) := by decide +kernel
theorem dX8_draw_22 : decode cX8_draw 22 = .ok (.lstore_n 3, 1) := by decide +kernel
theorem dX8_draw_23 : decode cX8_draw 23 = .ok (.lload_n 3, 1) := by decide +kernel
theorem dX8_draw_24 : decode cX8_draw 24 = .ok (.lload_n 3, 1) := by decide +kernel
theorem dX8_draw_25 : decode cX8_draw 25 = .ok (.lmul, 1) := by decide +kernel
theorem dX8_draw_26 : decode cX8_draw 26 = .ok (.ldc2_w 270, 3) := by decide +kernel
theorem dX8_draw_29 : decode cX8_draw 29 = .ok (.lrem, 1) := by decide +kernel
theorem dX8_draw_30 : decode cX8_draw 30 = .ok (.l2i, 1) := by decide +kernel
theorem dX8_draw_31 : decode cX8_draw 31 = .ok (.ireturn, 1) := by decide +kernel
theorem dX9_init_0 : decode cX9_init 0 = .ok (.aload_n 0, 1) := by decide +kernel
theorem dX9_init_1 : decode cX9_init 1 = .ok (.invokespecial 1, 3) := by decide +kernel
theorem dX9_init_4 : decode cX9_init 4 = .ok (.aload_n 0, 1) := by decide +kernel
theorem dX9_init_5 : decode cX9_init 5 = .ok (.sipush 300, 3) := by decide +kernel
theorem dX9_init_8 : decode cX9_init 8 = .ok (.newarray .int, 2) := by decide +kernel
theorem dX9_init_10 : decode cX9_init 10 = .ok (.putfield 7, 3) := by decide +kernel
theorem dX9_init_13 : decode cX9_init 13 = .ok (.aload_n 0, 1) := by decide +kernel
theorem dX9_init_14 : decode cX9_init 14 = .ok (.bipush 10, 2) := by decide +kernel
theorem dX9_init_16 : decode cX9_init 16 = .ok (.newarray .int, 2) := by decide +kernel
theorem dX9_init_18 : decode cX9_init 18 = .ok (.putfield 13, 3) := by decide +kernel
theorem dX9_init_21 : decode cX9_init 21 = .ok (.aload_n 0, 1) := by decide +kernel
theorem dX9_init_22 : decode cX9_init 22 = .ok (.bipush 6, 2) := by decide +kernel
theorem dX9_init_24 : decode cX9_init 24 = .ok (.newarray .int, 2) := by decide +kernel
theorem dX9_init_26 : decode cX9_init 26 = .ok (.putfield 16, 3) := by decide +kernel
theorem dX9_init_29 : decode cX9_init 29 = .ok (.aload_n 0, 1) := by decide +kernel
theorem dX9_init_30 : decode cX9_init 30 = .ok (.bipush 46, 2) := by decide +kernel
theorem dX9_init_32 : decode cX9_init 32 = .ok (.newarray .int, 2) := by decide +kernel
theorem dX9_init_34 : decode cX9_init 34 = .ok (.putfield 19, 3) := by decide +kernel
theorem dX9_init_37 : decode cX9_init 37 = .ok (.aload_n 0, 1) := by decide +kernel
theorem dX9_init_38 : decode cX9_init 38 = .ok (.bipush 46, 2) := by decide +kernel
theorem dX9_init_40 : decode cX9_init 40 = .ok (.newarray .int, 2) := by decide +kernel
theorem dX9_init_42 : decode cX9_init 42 = .ok (.putfield 22, 3) := by decide +kernel
theorem dX9_init_45 : decode cX9_init 45 = .ok (.aload_n 0, 1) := by decide +kernel
theorem dX9_init_46 : decode cX9_init 46 = .ok (.sipush 276, 3) := by decide +kernel
theorem dX9_init_49 : decode cX9_init 49 = .ok (.newarray .int, 2) := by decide +kernel
theorem dX9_init_51 : decode cX9_init 51 = .ok (.putfield 25, 3) := by decide +kernel
theorem dX9_init_54 : decode cX9_init 54 = .ok (.aload_n 0, 1) := by decide +kernel
theorem dX9_init_55 : decode cX9_init 55 = .ok (.bipush 92, 2) := by decide +kernel
theorem dX9_init_57 : decode cX9_init 57 = .ok (.newarray .int, 2) := by decide +kernel
theorem dX9_init_59 : decode cX9_init 59 = .ok (.putfield 28, 3) := by decide +kernel
theorem dX9_init_62 : decode cX9_init 62 = .ok (.aload_n 0, 1) := by decide +kernel
theorem dX9_init_63 : decode cX9_init 63 = .ok (.bipush 48, 2) := by decide +kernel
theorem dX9_init_65 : decode cX9_init 65 = .ok (.newarray .int, 2) := by decide +kernel
theorem dX9_init_67 : decode cX9_init 67 = .ok (.putfield 31, 3) := by decide +kernel
theorem dX9_init_70 : decode cX9_init 70 = .ok (.aload_n 0, 1) := by decide +kernel
theorem dX9_init_71 : decode cX9_init 71 = .ok (.bipush 8, 2) := by decide +kernel
theorem dX9_init_73 : decode cX9_init 73 = .ok (.newarray .int, 2) := by decide +kernel
theorem dX9_init_75 : decode cX9_init 75 = .ok (.putfield 34, 3) := by decide +kernel
theorem dX9_init_78 : decode cX9_init 78 = .ok (.aload_n 0, 1) := by decide +kernel
theorem dX9_init_79 : decode cX9_init 79 = .ok (.bipush 9, 2) := by decide +kernel
theorem dX9_init_81 : decode cX9_init 81 = .ok (.newarray .int, 2) := by decide +kernel
theorem dX9_init_83 : decode cX9_init 83 = .ok (.putfield 37, 3) := by decide +kernel
theorem dX9_init_86 : decode cX9_init 86 = .ok (.aload_n 0, 1) := by decide +kernel
theorem dX9_init_87 : decode cX9_init 87 = .ok (.bipush 8, 2) := by decide +kernel
theorem dX9_init_89 : decode cX9_init 89 = .ok (.newarray .int, 2) := by decide +kernel
theorem dX9_init_91 : decode cX9_init 91 = .ok (.putfield 40, 3) := by decide +kernel
theorem dX9_init_94 : decode cX9_init 94 = .ok (.aload_n 0, 1) := by decide +kernel
theorem dX9_init_95 : decode cX9_init 95 = .ok (.bipush 6, 2) := by decide +kernel
theorem dX9_init_97 : decode cX9_init 97 = .ok (.newarray .int, 2) := by decide +kernel
theorem dX9_init_99 : decode cX9_init 99 = .ok (.putfield 43, 3) := by decide +kernel
theorem dX9_init_102 : decode cX9_init 102 = .ok (.aload_n 0, 1) := by decide +kernel
theorem dX9_init_103 : decode cX9_init 103 = .ok (.bipush 6, 2) := by decide +kernel
theorem dX9_init_105 : decode cX9_init 105 = .ok (.newarray .int, 2) := by decide +kernel
theorem dX9_init_107 : decode cX9_init 107 = .ok (.putfield 46, 3) := by decide +kernel
theorem dX9_init_110 : decode cX9_init 110 = .ok (.aload_n 0, 1) := by decide +kernel
theorem dX9_init_111 : decode cX9_init 111 = .ok (.bipush 36, 2) := by decide +kernel
theorem dX9_init_113 : decode cX9_init 113 = .ok (.newarray .int, 2) := by decide +kernel
theorem dX9_init_115 : decode cX9_init 115 = .ok (.putfield 49, 3) := by decide +kernel
theorem dX9_init_118 : decode cX9_init 118 = .ok (.aload_n 0, 1) := by decide +kernel
theorem dX9_init_119 : decode cX9_init 119 = .ok (.bipush 6, 2) := by decide +kernel
theorem dX9_init_121 : decode cX9_init 121 = .ok (.newarray .int, 2) := by decide +kernel
theorem dX9_init_123 : decode cX9_init 123 = .ok (.putfield 52, 3) := by decide +kernel
theorem dX9_init_126 : decode cX9_init 126 = .ok (.aload_n 0, 1) := by decide +kernel
theorem dX9_init_127 : decode cX9_init 127 = .ok (.iconst 4, 1) := by decide +kernel
theorem dX9_init_128 : decode cX9_init 128 = .ok (.newarray .int, 2) := by decide +kernel
theorem dX9_init_130 : decode cX9_init 130 = .ok (.putfield 55, 3) := by decide +kernel
theorem dX9_init_133 : decode cX9_init 133 = .ok (.aload_n 0, 1) := by decide +kernel
theorem dX9_init_134 : decode cX9_init 134 = .ok (.iconst 2, 1) := by decide +kernel
theorem dX9_init_135 : decode cX9_init 135 = .ok (.putfield 58, 3) := by decide +kernel
theorem dX9_init_138 : decode cX9_init 138 = .ok (.aload_n 0, 1) := by decide +kernel
theorem dX9_init_139 : decode cX9_init 139 = .ok (.getfield 16, 3) := by decide +kernel
theorem dX9_init_142 : decode cX9_init 142 = .ok (.iconst 0, 1) := by decide +kernel
theorem dX9_init_143 : decode cX9_init 143 = .ok (.bipush 50, 2) := by decide +kernel
theorem dX9_init_145 : decode cX9_init 145 = .ok (.iastore, 1) := by decide +kernel
theorem dX9_init_146 : decode cX9_init 146 = .ok (.aload_n 0, 1) := by decide +kernel
theorem dX9_init_147 : decode cX9_init 147 = .ok (.getfield 16, 3) := by decide +kernel
theorem dX9_init_150 : decode cX9_init 150 = .ok (.iconst 1, 1) := by decide +kernel
theorem dX9_init_151 : decode cX9_init 151 = .ok (.bipush 80, 2) := by decide +kernel
theorem dX9_init_153 : decode cX9_init 153 = .ok (.iastore, 1) := by decide +kernel
theorem dX9_init_154 : decode cX9_init 154 = .ok (.aload_n 0, 1) := by decide +kernel
theorem dX9_init_155 : decode cX9_init 155 = .ok (.bipush 10, 2) := by decide +kernel
theorem dX9_init_157 : decode cX9_init 157 = .ok (.putfield 62, 3) := by decide +kernel
theorem dX9_init_160 : decode cX9_init 160 = .ok (.aload_n 0, 1) := by decide +kernel
theorem dX9_init_161 : decode cX9_init 161 = .ok (.invokevirtual 65, 3) := by decide +kernel
theorem dX9_init_164 : decode cX9_init 164 = .ok (.return_, 1) := by decide +kernel
theorem dX9_in_0 : decode cX9_in 0 = .ok (.iload_n 0, 1) := by decide +kernel
theorem dX9_in_1 : decode cX9_in 1 = .ok (.iload_n 1, 1) := by decide +kernel
theorem dX9_in_2 : decode cX9_in 2 = .ok (.if_icmp .lt 12, 3) := by decide +kernel
theorem dX9_in_5 : decode cX9_in 5 = .ok (.iload_n 0, 1) := by decide +kernel
theorem dX9_in_6 : decode cX9_in 6 = .ok (.iload_n 2, 1) := by decide +kernel
theorem dX9_in_7 : decode cX9_in 7 = .ok (.if_icmp .gt 7, 3) := by decide +kernel
theorem dX9_in_10 : decode cX9_in 10 = .ok (.iconst 1, 1) := by decide +kernel
theorem dX9_in_11 : decode cX9_in 11 = .ok (.goto 4, 3) := by decide +kernel
theorem dX9_in_14 : decode cX9_in 14 = .ok (.iconst 0, 1) := by decide +kernel
theorem dX9_in_15 : decode cX9_in 15 = .ok (.ireturn, 1) := by decide +kernel
theorem dX9_lesser_0 : decode cX9_lesser 0 = .ok (.iload_n 0, 1) := by decide +kernel
theorem dX9_lesser_1 : decode cX9_lesser 1 = .ok (.iload_n 1, 1) := by decide +kernel
theorem dX9_lesser_2 : decode cX9_lesser 2 = .ok (.if_icmp .ge 7, 3) := by decide +kernel
theorem dX9_lesser_5 : decode cX9_lesser 5 = .ok (.iload_n 0, 1) := by decide +kernel
theorem dX9_lesser_6 : decode cX9_lesser 6 = .ok (.goto 4, 3) := by decide +kernel
theorem dX9_lesser_9 : decode cX9_lesser 9 = .ok (.iload_n 1, 1) := by decide +kernel
theorem dX9_lesser_10 : decode cX9_lesser 10 = .ok (.ireturn, 1) := by decide +kernel
theorem dX9_write_0 : decode cX9_write 0 = .ok (.aload_n 0, 1) := by decide +kernel
theorem dX9_write_1 : decode cX9_write 1 = .ok (.iconst 0, 1) := by decide +kernel
theorem dX9_write_2 : decode cX9_write 2 = .ok (.putfield 68, 3) := by decide +kernel
theorem dX9_write_5 : decode cX9_write 5 = .ok (.iload_n 1, 1) := by decide +kernel
theorem dX9_write_6 : decode cX9_write 6 = .ok (.iconst 1, 1) := by decide +kernel
theorem dX9_write_7 : decode cX9_write 7 = .ok (.bipush 8, 2) := by decide +kernel
theorem dX9_write_9 : decode cX9_write 9 = .ok (.invokestatic 71, 3) := by decide +kernel
theorem dX9_write_12 : decode cX9_write 12 = .ok (.ifCond .ne 5, 3) := by decide +kernel
theorem dX9_write_15 : decode cX9_write 15 = .ok (.iconst (-1), 1) := by decide +kernel
theorem dX9_write_16 : decode cX9_write 16 = .ok (.ireturn, 1) := by decide +kernel
theorem dX9_write_17 : decode cX9_write 17 = .ok (.aload_n 0, 1) := by decide +kernel
theorem dX9_write_18 : decode cX9_write 18 = .ok (.getfield 75, 3) := by decide +kernel
theorem dX9_write_21 : decode cX9_write 21 = .ok (.iload_n 1, 1) := by decide +kernel
theorem dX9_write_22 : decode cX9_write 22 = .ok (.iadd, 1) := by decide +kernel
theorem dX9_write_23 : decode cX9_write 23 = .ok (.sipush 300, 3) := by decide +kernel
theorem dX9_write_26 : decode cX9_write 26 = .ok (.if_icmp .le 6, 3) := by decide +kernel
theorem dX9_write_29 : decode cX9_write 29 = .ok (.bipush (-3), 2) := by decide +kernel
theorem dX9_write_31 : decode cX9_write 31 = .ok (.ireturn, 1) := by decide +kernel
theorem dX9_write_32 : decode cX9_write 32 = .ok (.iload_n 1, 1) := by decide +kernel
theorem dX9_write_33 : decode cX9_write 33 = .ok (.iconst 1, 1) := by decide +kernel
theorem dX9_write_34 : decode cX9_write 34 = .ok (.isub, 1) := by decide +kernel
theorem dX9_write_35 : decode cX9_write 35 = .ok (.istore 4, 2) := by decide +kernel
theorem dX9_write_37 : decode cX9_write 37 = .ok (.iload 4, 2) := by decide +kernel
theorem dX9_write_39 : decode cX9_write 39 = .ok (.ifCond .lt 40, 3) := by decide +kernel
theorem dX9_write_42 : decode cX9_write 42 = .ok (.aload_n 0, 1) := by decide +kernel
theorem dX9_write_43 : decode cX9_write 43 = .ok (.getfield 7, 3) := by decide +kernel
theorem dX9_write_46 : decode cX9_write 46 = .ok (.aload_n 0, 1) := by decide +kernel
theorem dX9_write_47 : decode cX9_write 47 = .ok (.getfield 75, 3) := by decide +kernel
theorem dX9_write_50 : decode cX9_write 50 = .ok (.lload_n 2, 1) := by decide +kernel
theorem dX9_write_51 : decode cX9_write 51 = .ok (.bipush 8, 2) := by decide +kernel
theorem dX9_write_53 : decode cX9_write 53 = .ok (.iload 4, 2) := by decide +kernel
theorem dX9_write_55 : decode cX9_write 55 = .ok (.imul, 1) := by decide +kernel
theorem dX9_write_56 : decode cX9_write 56 = .ok (.lshr, 1) := by decide +kernel
theorem dX9_write_57 : decode cX9_write 57 = .ok (.ldc2_w 78, 3) := by decide +kernel
theorem dX9_write_60 : decode cX9_write 60 = .ok (.land, 1) := by decide +kernel
theorem dX9_write_61 : decode cX9_write 61 = .ok (.l2i, 1) := by decide +kernel
theorem dX9_write_62 : decode cX9_write 62 = .ok (.iastore, 1) := by decide +kernel
theorem dX9_write_63 : decode cX9_write 63 = .ok (.aload_n 0, 1) := by decide +kernel
theorem dX9_write_64 : decode cX9_write 64 = .ok (.dup, 1) := by decide +kernel
theorem dX9_write_65 : decode cX9_write 65 = .ok (.getfield 75, 3) := by decide +kernel
theorem dX9_write_68 : decode cX9_write 68 = .ok (.iconst 1, 1) := by decide +kernel
theorem dX9_write_69 : decode cX9_write 69 = .ok (.iadd, 1) := by decide +kernel
theorem dX9_write_70 : decode cX9_write 70 = .ok (.putfield 75, 3) := by decide +kernel
theorem dX9_write_73 : decode cX9_write 73 = .ok (.iinc 4 (-1), 3) := by decide +kernel
theorem dX9_write_76 : decode cX9_write 76 = .ok (.goto (-39), 3) := by decide +kernel
theorem dX9_write_79 : decode cX9_write 79 = .ok (.aload_n 0, 1) := by decide +kernel
theorem dX9_write_80 : decode cX9_write 80 = .ok (.getfield 75, 3) := by decide +kernel
theorem dX9_write_83 : decode cX9_write 83 = .ok (.ireturn, 1) := by decide +kernel
theorem dX9_wipe_0 : decode cX9_wipe 0 = .ok (.aload_n 0, 1) := by decide +kernel
theorem dX9_wipe_1 : decode cX9_wipe 1 = .ok (.iconst 0, 1) := by decide +kernel
theorem dX9_wipe_2 : decode cX9_wipe 2 = .ok (.putfield 68, 3) := by decide +kernel
theorem dX9_wipe_5 : decode cX9_wipe 5 = .ok (.aload_n 0, 1) := by decide +kernel
theorem dX9_wipe_6 : decode cX9_wipe 6 = .ok (.getfield 75, 3) := by decide +kernel
theorem dX9_wipe_9 : decode cX9_wipe 9 = .ok (.istore_n 1, 1) := by decide +kernel
theorem dX9_wipe_10 : decode cX9_wipe 10 = .ok (.aload_n 0, 1) := by decide +kernel
theorem dX9_wipe_11 : decode cX9_wipe 11 = .ok (.iconst 0, 1) := by decide +kernel
theorem dX9_wipe_12 : decode cX9_wipe 12 = .ok (.putfield 75, 3) := by decide +kernel
theorem dX9_wipe_15 : decode cX9_wipe 15 = .ok (.iload_n 1, 1) := by decide +kernel
theorem dX9_wipe_16 : decode cX9_wipe 16 = .ok (.ireturn, 1) := by decide +kernel
theorem dX9_byteAt_0 : decode cX9_byteAt 0 = .ok (.iload_n 1, 1) := by decide +kernel
theorem dX9_byteAt_1 : decode cX9_byteAt 1 = .ok (.aload_n 0, 1) := by decide +kernel
theorem dX9_byteAt_2 : decode cX9_byteAt 2 = .ok (.getfield 75, 3) := by decide +kernel
theorem dX9_byteAt_5 : decode cX9_byteAt 5 = .ok (.if_icmp .ge 12, 3) := by decide +kernel
theorem dX9_byteAt_8 : decode cX9_byteAt 8 = .ok (.aload_n 0, 1) := by decide +kernel
theorem dX9_byteAt_9 : decode cX9_byteAt 9 = .ok (.getfield 7, 3) := by decide +kernel
theorem dX9_byteAt_12 : decode cX9_byteAt 12 = .ok (.iload_n 1, 1) := by decide +kernel
theorem dX9_byteAt_13 : decode cX9_byteAt 13 = .ok (.iaload, 1) := by decide +kernel
theorem dX9_byteAt_14 : decode cX9_byteAt 14 = .ok (.goto 4, 3) := by decide +kernel
theorem dX9_byteAt_17 : decode cX9_byteAt 17 = .ok (.iconst (-1), 1) := by decide +kernel
theorem dX9_byteAt_18 : decode cX9_byteAt 18 = .ok (.ireturn, 1) := by decide +kernel
theorem dX9_isWell_0 : decode cX9_isWell 0 = .ok (.iload_n 1, 1) := by decide +kernel
theorem dX9_isWell_1 : decode cX9_isWell 1 = .ok (.bipush 112, 2) := by decide +kernel
theorem dX9_isWell_3 : decode cX9_isWell 3 = .ok (.if_icmp .ne 31, 3) := by decide +kernel
theorem dX9_isWell_6 : decode cX9_isWell 6 = .ok (.iload_n 2, 1) := by decide +kernel
theorem dX9_isWell_7 : decode cX9_isWell 7 = .ok (.iconst 1, 1) := by decide +kernel
theorem dX9_isWell_8 : decode cX9_isWell 8 = .ok (.sipush 999, 3) := by decide +kernel
theorem dX9_isWell_11 : decode cX9_isWell 11 = .ok (.invokestatic 71, 3) := by decide +kernel
theorem dX9_isWell_14 : decode cX9_isWell 14 = .ok (.ifCond .eq 18, 3) := by decide +kernel
theorem dX9_isWell_17 : decode cX9_isWell 17 = .ok (.aload_n 0, 1) := by decide +kernel
theorem dX9_isWell_18 : decode cX9_isWell 18 = .ok (.getfield 13, 3) := by decide +kernel
theorem dX9_isWell_21 : decode cX9_isWell 21 = .ok (.iconst 0, 1) := by decide +kernel
theorem dX9_isWell_22 : decode cX9_isWell 22 = .ok (.iaload, 1) := by decide +kernel
theorem dX9_isWell_23 : decode cX9_isWell 23 = .ok (.bipush 6, 2) := by decide +kernel
theorem dX9_isWell_25 : decode cX9_isWell 25 = .ok (.if_icmp .ge 7, 3) := by decide +kernel
theorem dX9_isWell_28 : decode cX9_isWell 28 = .ok (.iconst 1, 1) := by decide +kernel
theorem dX9_isWell_29 : decode cX9_isWell 29 = .ok (.goto 4, 3) := by decide +kernel
theorem dX9_isWell_32 : decode cX9_isWell 32 = .ok (.iconst 0, 1) := by decide +kernel
theorem dX9_isWell_33 : decode cX9_isWell 33 = .ok (.ireturn, 1) := by decide +kernel
theorem dX9_isWell_34 : decode cX9_isWell 34 = .ok (.iload_n 1, 1) := by decide +kernel
theorem dX9_isWell_35 : decode cX9_isWell 35 = .ok (.bipush 114, 2) := by decide +kernel
theorem dX9_isWell_37 : decode cX9_isWell 37 = .ok (.if_icmp .ne 17, 3) := by decide +kernel
theorem dX9_isWell_40 : decode cX9_isWell 40 = .ok (.iload_n 2, 1) := by decide +kernel
theorem dX9_isWell_41 : decode cX9_isWell 41 = .ok (.bipush 100, 2) := by decide +kernel
theorem dX9_isWell_43 : decode cX9_isWell 43 = .ok (.if_icmp .ge 7, 3) := by decide +kernel
theorem dX9_isWell_46 : decode cX9_isWell 46 = .ok (.iconst 1, 1) := by decide +kernel
theorem dX9_isWell_47 : decode cX9_isWell 47 = .ok (.goto 42, 3) := by decide +kernel
theorem dX9_isWell_50 : decode cX9_isWell 50 = .ok (.iconst 0, 1) := by decide +kernel
theorem dX9_isWell_51 : decode cX9_isWell 51 = .ok (.goto 38, 3) := by decide +kernel
theorem dX9_isWell_54 : decode cX9_isWell 54 = .ok (.iload_n 1, 1) := by decide +kernel
theorem dX9_isWell_55 : decode cX9_isWell 55 = .ok (.bipush 107, 2) := by decide +kernel
theorem dX9_isWell_57 : decode cX9_isWell 57 = .ok (.if_icmp .ne 16, 3) := by decide +kernel
theorem dX9_isWell_60 : decode cX9_isWell 60 = .ok (.iload_n 2, 1) := by decide +kernel
theorem dX9_isWell_61 : decode cX9_isWell 61 = .ok (.iconst 4, 1) := by decide +kernel
theorem dX9_isWell_62 : decode cX9_isWell 62 = .ok (.if_icmp .ge 7, 3) := by decide +kernel
theorem dX9_isWell_65 : decode cX9_isWell 65 = .ok (.iconst 1, 1) := by decide +kernel
theorem dX9_isWell_66 : decode cX9_isWell 66 = .ok (.goto 23, 3) := by decide +kernel
theorem dX9_isWell_69 : decode cX9_isWell 69 = .ok (.iconst 0, 1) := by decide +kernel
theorem dX9_isWell_70 : decode cX9_isWell 70 = .ok (.goto 19, 3) := by decide +kernel
theorem dX9_isWell_73 : decode cX9_isWell 73 = .ok (.iload_n 1, 1) := by decide +kernel
theorem dX9_isWell_74 : decode cX9_isWell 74 = .ok (.bipush 110, 2) := by decide +kernel
theorem dX9_isWell_76 : decode cX9_isWell 76 = .ok (.if_icmp .ne 12, 3) := by decide +kernel
theorem dX9_isWell_79 : decode cX9_isWell 79 = .ok (.iload_n 2, 1) := by decide +kernel
theorem dX9_isWell_80 : decode cX9_isWell 80 = .ok (.iconst 3, 1) := by decide +kernel
theorem dX9_isWell_81 : decode cX9_isWell 81 = .ok (.if_icmp .ge 7, 3) := by decide +kernel
theorem dX9_isWell_84 : decode cX9_isWell 84 = .ok (.iconst 1, 1) := by decide +kernel
theorem dX9_isWell_85 : decode cX9_isWell 85 = .ok (.goto 4, 3) := by decide +kernel
theorem dX9_isWell_88 : decode cX9_isWell 88 = .ok (.iconst 0, 1) := by decide +kernel
theorem dX9_isWell_89 : decode cX9_isWell 89 = .ok (.ireturn, 1) := by decide +kernel
theorem dX9_faultOf_0 : decode cX9_faultOf 0 = .ok (.aload_n 0, 1) := by decide +kernel
theorem dX9_faultOf_1 : decode cX9_faultOf 1 = .ok (.getfield 13, 3) := by decide +kernel
theorem dX9_faultOf_4 : decode cX9_faultOf 4 = .ok (.iconst 0, 1) := by decide +kernel
theorem dX9_faultOf_5 : decode cX9_faultOf 5 = .ok (.iconst 0, 1) := by decide +kernel
theorem dX9_faultOf_6 : decode cX9_faultOf 6 = .ok (.iastore, 1) := by decide +kernel
theorem dX9_faultOf_7 : decode cX9_faultOf 7 = .ok (.aload_n 0, 1) := by decide +kernel
theorem dX9_faultOf_8 : decode cX9_faultOf 8 = .ok (.getfield 13, 3) := by decide +kernel
theorem dX9_faultOf_11 : decode cX9_faultOf 11 = .ok (.bipush 7, 2) := by decide +kernel
theorem dX9_faultOf_13 : decode cX9_faultOf 13 = .ok (.bipush 10, 2) := by decide +kernel
theorem dX9_faultOf_15 : decode cX9_faultOf 15 = .ok (.iastore, 1) := by decide +kernel
theorem dX9_faultOf_16 : decode cX9_faultOf 16 = .ok (.aload_n 0, 1) := by decide +kernel
theorem dX9_faultOf_17 : decode cX9_faultOf 17 = .ok (.getfield 13, 3) := by decide +kernel
theorem dX9_faultOf_20 : decode cX9_faultOf 20 = .ok (.bipush 8, 2) := by decide +kernel
theorem dX9_faultOf_22 : decode cX9_faultOf 22 = .ok (.iconst 0, 1) := by decide +kernel
theorem dX9_faultOf_23 : decode cX9_faultOf 23 = .ok (.iastore, 1) := by decide +kernel
theorem dX9_faultOf_24 : decode cX9_faultOf 24 = .ok (.aload_n 0, 1) := by decide +kernel
theorem dX9_faultOf_25 : decode cX9_faultOf 25 = .ok (.getfield 13, 3) := by decide +kernel
theorem dX9_faultOf_28 : decode cX9_faultOf 28 = .ok (.bipush 9, 2) := by decide +kernel
theorem dX9_faultOf_30 : decode cX9_faultOf 30 = .ok (.iconst 0, 1) := by decide +kernel
theorem dX9_faultOf_31 : decode cX9_faultOf 31 = .ok (.iastore, 1) := by decide +kernel
theorem dX9_faultOf_32 : decode cX9_faultOf 32 = .ok (.iconst 0, 1) := by decide +kernel
theorem dX9_faultOf_33 : decode cX9_faultOf 33 = .ok (.istore_n 1, 1) := by decide +kernel
theorem dX9_faultOf_34 : decode cX9_faultOf 34 = .ok (.iload_n 1, 1) := by decide +kernel
theorem dX9_faultOf_35 : decode cX9_faultOf 35 = .ok (.aload_n 0, 1) := by decide +kernel
theorem dX9_faultOf_36 : decode cX9_faultOf 36 = .ok (.getfield 75, 3) := by decide +kernel
theorem dX9_faultOf_39 : decode cX9_faultOf 39 = .ok (.if_icmp .ge 159, 3) := by decide +kernel
theorem dX9_faultOf_42 : decode cX9_faultOf 42 = .ok (.aload_n 0, 1) := by decide +kernel
theorem dX9_faultOf_43 : decode cX9_faultOf 43 = .ok (.iload_n 1, 1) := by decide +kernel
theorem dX9_faultOf_44 : decode cX9_faultOf 44 = .ok (.invokevirtual 80, 3) := by decide +kernel
theorem dX9_faultOf_47 : decode cX9_faultOf 47 = .ok (.istore_n 2, 1) := by decide +kernel
theorem dX9_faultOf_48 : decode cX9_faultOf 48 = .ok (.iload_n 1, 1) := by decide +kernel
theorem dX9_faultOf_49 : decode cX9_faultOf 49 = .ok (.iconst 1, 1) := by decide +kernel
theorem dX9_faultOf_50 : decode cX9_faultOf 50 = .ok (.iadd, 1) := by decide +kernel
theorem dX9_faultOf_51 : decode cX9_faultOf 51 = .ok (.istore_n 3, 1) := by decide +kernel
theorem dX9_faultOf_52 : decode cX9_faultOf 52 = .ok (.iconst 0, 1) := by decide +kernel
theorem dX9_faultOf_53 : decode cX9_faultOf 53 = .ok (.istore 4, 2) := by decide +kernel
theorem dX9_faultOf_55 : decode cX9_faultOf 55 = .ok (.aload_n 0, 1) := by decide +kernel
theorem dX9_faultOf_56 : decode cX9_faultOf 56 = .ok (.iload_n 3, 1) := by decide +kernel
theorem dX9_faultOf_57 : decode cX9_faultOf 57 = .ok (.invokevirtual 80, 3) := by decide +kernel
theorem dX9_faultOf_60 : decode cX9_faultOf 60 = .ok (.bipush 48, 2) := by decide +kernel
theorem dX9_faultOf_62 : decode cX9_faultOf 62 = .ok (.bipush 57, 2) := by decide +kernel
theorem dX9_faultOf_64 : decode cX9_faultOf 64 = .ok (.invokestatic 71, 3) := by decide +kernel
theorem dX9_faultOf_67 : decode cX9_faultOf 67 = .ok (.ifCond .eq 32, 3) := by decide +kernel
theorem dX9_faultOf_70 : decode cX9_faultOf 70 = .ok (.iload_n 3, 1) := by decide +kernel
theorem dX9_faultOf_71 : decode cX9_faultOf 71 = .ok (.iload_n 1, 1) := by decide +kernel
theorem dX9_faultOf_72 : decode cX9_faultOf 72 = .ok (.iconst 4, 1) := by decide +kernel
theorem dX9_faultOf_73 : decode cX9_faultOf 73 = .ok (.iadd, 1) := by decide +kernel
theorem dX9_faultOf_74 : decode cX9_faultOf 74 = .ok (.if_icmp .ge 25, 3) := by decide +kernel
theorem dX9_faultOf_77 : decode cX9_faultOf 77 = .ok (.bipush 10, 2) := by decide +kernel
theorem dX9_faultOf_79 : decode cX9_faultOf 79 = .ok (.iload 4, 2) := by decide +kernel
theorem dX9_faultOf_81 : decode cX9_faultOf 81 = .ok (.imul, 1) := by decide +kernel
theorem dX9_faultOf_82 : decode cX9_faultOf 82 = .ok (.aload_n 0, 1) := by decide +kernel
theorem dX9_faultOf_83 : decode cX9_faultOf 83 = .ok (.iload_n 3, 1) := by decide +kernel
theorem dX9_faultOf_84 : decode cX9_faultOf 84 = .ok (.invokevirtual 80, 3) := by decide +kernel
theorem dX9_faultOf_87 : decode cX9_faultOf 87 = .ok (.iadd, 1) := by decide +kernel
theorem dX9_faultOf_88 : decode cX9_faultOf 88 = .ok (.bipush 48, 2) := by decide +kernel
theorem dX9_faultOf_90 : decode cX9_faultOf 90 = .ok (.isub, 1) := by decide +kernel
theorem dX9_faultOf_91 : decode cX9_faultOf 91 = .ok (.istore 4, 2) := by decide +kernel
theorem dX9_faultOf_93 : decode cX9_faultOf 93 = .ok (.iinc 3 1, 3) := by decide +kernel
theorem dX9_faultOf_96 : decode cX9_faultOf 96 = .ok (.goto (-41), 3) := by decide +kernel
theorem dX9_faultOf_99 : decode cX9_faultOf 99 = .ok (.iload_n 3, 1) := by decide +kernel
theorem dX9_faultOf_100 : decode cX9_faultOf 100 = .ok (.iload_n 1, 1) := by decide +kernel
theorem dX9_faultOf_101 : decode cX9_faultOf 101 = .ok (.iconst 1, 1) := by decide +kernel
theorem dX9_faultOf_102 : decode cX9_faultOf 102 = .ok (.iadd, 1) := by decide +kernel
theorem dX9_faultOf_103 : decode cX9_faultOf 103 = .ok (.if_icmp .eq 23, 3) := by decide +kernel
theorem dX9_faultOf_106 : decode cX9_faultOf 106 = .ok (.aload_n 0, 1) := by decide +kernel
theorem dX9_faultOf_107 : decode cX9_faultOf 107 = .ok (.iload_n 3, 1) := by decide +kernel
theorem dX9_faultOf_108 : decode cX9_faultOf 108 = .ok (.invokevirtual 80, 3) := by decide +kernel
theorem dX9_faultOf_111 : decode cX9_faultOf 111 = .ok (.bipush 59, 2) := by decide +kernel
theorem dX9_faultOf_113 : decode cX9_faultOf 113 = .ok (.if_icmp .ne 13, 3) := by decide +kernel
theorem dX9_faultOf_116 : decode cX9_faultOf 116 = .ok (.aload_n 0, 1) := by decide +kernel
theorem dX9_faultOf_117 : decode cX9_faultOf 117 = .ok (.iload_n 2, 1) := by decide +kernel
theorem dX9_faultOf_118 : decode cX9_faultOf 118 = .ok (.iload 4, 2) := by decide +kernel
theorem dX9_faultOf_120 : decode cX9_faultOf 120 = .ok (.invokevirtual 84, 3) := by decide +kernel
theorem dX9_faultOf_123 : decode cX9_faultOf 123 = .ok (.ifCond .ne 5, 3) := by decide +kernel
theorem dX9_faultOf_126 : decode cX9_faultOf 126 = .ok (.iload_n 1, 1) := by decide +kernel
theorem dX9_faultOf_127 : decode cX9_faultOf 127 = .ok (.ireturn, 1) := by decide +kernel
theorem dX9_faultOf_128 : decode cX9_faultOf 128 = .ok (.iload_n 2, 1) := by decide +kernel
theorem dX9_faultOf_129 : decode cX9_faultOf 129 = .ok (.bipush 112, 2) := by decide +kernel
theorem dX9_faultOf_131 : decode cX9_faultOf 131 = .ok (.if_icmp .ne 29, 3) := by decide +kernel
theorem dX9_faultOf_134 : decode cX9_faultOf 134 = .ok (.aload_n 0, 1) := by decide +kernel
theorem dX9_faultOf_135 : decode cX9_faultOf 135 = .ok (.getfield 13, 3) := by decide +kernel
theorem dX9_faultOf_138 : decode cX9_faultOf 138 = .ok (.iconst 0, 1) := by decide +kernel
theorem dX9_faultOf_139 : decode cX9_faultOf 139 = .ok (.dup2, 1) := by decide +kernel
theorem dX9_faultOf_140 : decode cX9_faultOf 140 = .ok (.iaload, 1) := by decide +kernel
theorem dX9_faultOf_141 : decode cX9_faultOf 141 = .ok (.iconst 1, 1) := by decide +kernel
theorem dX9_faultOf_142 : decode cX9_faultOf 142 = .ok (.iadd, 1) := by decide +kernel
theorem dX9_faultOf_143 : decode cX9_faultOf 143 = .ok (.iastore, 1) := by decide +kernel
theorem dX9_faultOf_144 : decode cX9_faultOf 144 = .ok (.aload_n 0, 1) := by decide +kernel
theorem dX9_faultOf_145 : decode cX9_faultOf 145 = .ok (.getfield 13, 3) := by decide +kernel
theorem dX9_faultOf_148 : decode cX9_faultOf 148 = .ok (.aload_n 0, 1) := by decide +kernel
theorem dX9_faultOf_149 : decode cX9_faultOf 149 = .ok (.getfield 13, 3) := by decide +kernel
theorem dX9_faultOf_152 : decode cX9_faultOf 152 = .ok (.iconst 0, 1) := by decide +kernel
theorem dX9_faultOf_153 : decode cX9_faultOf 153 = .ok (.iaload, 1) := by decide +kernel
theorem dX9_faultOf_154 : decode cX9_faultOf 154 = .ok (.iload 4, 2) := by decide +kernel
theorem dX9_faultOf_156 : decode cX9_faultOf 156 = .ok (.iastore, 1) := by decide +kernel
theorem dX9_faultOf_157 : decode cX9_faultOf 157 = .ok (.goto 34, 3) := by decide +kernel
theorem dX9_faultOf_160 : decode cX9_faultOf 160 = .ok (.aload_n 0, 1) := by decide +kernel
theorem dX9_faultOf_161 : decode cX9_faultOf 161 = .ok (.getfield 13, 3) := by decide +kernel
theorem dX9_faultOf_164 : decode cX9_faultOf 164 = .ok (.iload_n 2, 1) := by decide +kernel
theorem dX9_faultOf_165 : decode cX9_faultOf 165 = .ok (.bipush 114, 2) := by decide +kernel
theorem dX9_faultOf_167 : decode cX9_faultOf 167 = .ok (.if_icmp .ne 8, 3) := by decide +kernel
theorem dX9_faultOf_170 : decode cX9_faultOf 170 = .ok (.bipush 7, 2) := by decide +kernel
theorem dX9_faultOf_172 : decode cX9_faultOf 172 = .ok (.goto 16, 3) := by decide +kernel
theorem dX9_faultOf_175 : decode cX9_faultOf 175 = .ok (.iload_n 2, 1) := by decide +kernel
theorem dX9_faultOf_176 : decode cX9_faultOf 176 = .ok (.bipush 107, 2) := by decide +kernel
theorem dX9_faultOf_178 : decode cX9_faultOf 178 = .ok (.if_icmp .ne 8, 3) := by decide +kernel
theorem dX9_faultOf_181 : decode cX9_faultOf 181 = .ok (.bipush 8, 2) := by decide +kernel
theorem dX9_faultOf_183 : decode cX9_faultOf 183 = .ok (.goto 5, 3) := by decide +kernel
theorem dX9_faultOf_186 : decode cX9_faultOf 186 = .ok (.bipush 9, 2) := by decide +kernel
theorem dX9_faultOf_188 : decode cX9_faultOf 188 = .ok (.iload 4, 2) := by decide +kernel
theorem dX9_faultOf_190 : decode cX9_faultOf 190 = .ok (.iastore, 1) := by decide +kernel
theorem dX9_faultOf_191 : decode cX9_faultOf 191 = .ok (.iload_n 3, 1) := by decide +kernel
theorem dX9_faultOf_192 : decode cX9_faultOf 192 = .ok (.iconst 1, 1) := by decide +kernel
theorem dX9_faultOf_193 : decode cX9_faultOf 193 = .ok (.iadd, 1) := by decide +kernel
theorem dX9_faultOf_194 : decode cX9_faultOf 194 = .ok (.istore_n 1, 1) := by decide +kernel
theorem dX9_faultOf_195 : decode cX9_faultOf 195 = .ok (.goto (-161), 3) := by decide +kernel
theorem dX9_faultOf_198 : decode cX9_faultOf 198 = .ok (.bipush (-4), 2) := by decide +kernel
theorem dX9_faultOf_200 : decode cX9_faultOf 200 = .ok (.ireturn, 1) := by decide +kernel
theorem dX9_fault_0 : decode cX9_fault 0 = .ok (.aload_n 0, 1) := by decide +kernel
theorem dX9_fault_1 : decode cX9_fault 1 = .ok (.iconst 0, 1) := by decide +kernel
theorem dX9_fault_2 : decode cX9_fault 2 = .ok (.putfield 68, 3) := by decide +kernel
theorem dX9_fault_5 : decode cX9_fault 5 = .ok (.aload_n 0, 1) := by decide +kernel
theorem dX9_fault_6 : decode cX9_fault 6 = .ok (.invokevirtual 88, 3) := by decide +kernel
theorem dX9_fault_9 : decode cX9_fault 9 = .ok (.ireturn, 1) := by decide +kernel
theorem dX9_begins_0 : decode cX9_begins 0 = .ok (.iconst 0, 1) := by decide +kernel
theorem dX9_begins_1 : decode cX9_begins 1 = .ok (.istore_n 1, 1) := by decide +kernel
theorem dX9_begins_2 : decode cX9_begins 2 = .ok (.iload_n 1, 1) := by decide +kernel
theorem dX9_begins_3 : decode cX9_begins 3 = .ok (.bipush 46, 2) := by decide +kernel
theorem dX9_begins_5 : decode cX9_begins 5 = .ok (.if_icmp .ge 33, 3) := by decide +kernel
theorem dX9_begins_8 : decode cX9_begins 8 = .ok (.aload_n 0, 1) := by decide +kernel
theorem dX9_begins_9 : decode cX9_begins 9 = .ok (.getfield 19, 3) := by decide +kernel
theorem dX9_begins_12 : decode cX9_begins 12 = .ok (.iload_n 1, 1) := by decide +kernel
theorem dX9_begins_13 : decode cX9_begins 13 = .ok (.iload_n 1, 1) := by decide +kernel
theorem dX9_begins_14 : decode cX9_begins 14 = .ok (.aload_n 0, 1) := by decide +kernel
theorem dX9_begins_15 : decode cX9_begins 15 = .ok (.getfield 58, 3) := by decide +kernel
theorem dX9_begins_18 : decode cX9_begins 18 = .ok (.if_icmp .ge 12, 3) := by decide +kernel
theorem dX9_begins_21 : decode cX9_begins 21 = .ok (.aload_n 0, 1) := by decide +kernel
theorem dX9_begins_22 : decode cX9_begins 22 = .ok (.getfield 16, 3) := by decide +kernel
theorem dX9_begins_25 : decode cX9_begins 25 = .ok (.iload_n 1, 1) := by decide +kernel
theorem dX9_begins_26 : decode cX9_begins 26 = .ok (.iaload, 1) := by decide +kernel
theorem dX9_begins_27 : decode cX9_begins 27 = .ok (.goto 4, 3) := by decide +kernel
theorem dX9_begins_30 : decode cX9_begins 30 = .ok (.iconst 0, 1) := by decide +kernel
theorem dX9_begins_31 : decode cX9_begins 31 = .ok (.iastore, 1) := by decide +kernel
theorem dX9_begins_32 : decode cX9_begins 32 = .ok (.iinc 1 1, 3) := by decide +kernel
theorem dX9_begins_35 : decode cX9_begins 35 = .ok (.goto (-33), 3) := by decide +kernel
theorem dX9_begins_38 : decode cX9_begins 38 = .ok (.aload_n 0, 1) := by decide +kernel
theorem dX9_begins_39 : decode cX9_begins 39 = .ok (.iconst 0, 1) := by decide +kernel
theorem dX9_begins_40 : decode cX9_begins 40 = .ok (.putfield 92, 3) := by decide +kernel
theorem dX9_begins_43 : decode cX9_begins 43 = .ok (.aload_n 0, 1) := by decide +kernel
theorem dX9_begins_44 : decode cX9_begins 44 = .ok (.iconst 0, 1) := by decide +kernel
theorem dX9_begins_45 : decode cX9_begins 45 = .ok (.putfield 95, 3) := by decide +kernel
theorem dX9_begins_48 : decode cX9_begins 48 = .ok (.aload_n 0, 1) := by decide +kernel
theorem dX9_begins_49 : decode cX9_begins 49 = .ok (.iconst 0, 1) := by decide +kernel
theorem dX9_begins_50 : decode cX9_begins 50 = .ok (.putfield 98, 3) := by decide +kernel
theorem dX9_begins_53 : decode cX9_begins 53 = .ok (.return_, 1) := by decide +kernel
theorem dX9_lay_0 : decode cX9_lay 0 = .ok (.aload_n 0, 1) := by decide +kernel
theorem dX9_lay_1 : decode cX9_lay 1 = .ok (.iconst 0, 1) := by decide +kernel
theorem dX9_lay_2 : decode cX9_lay 2 = .ok (.putfield 68, 3) := by decide +kernel
theorem dX9_lay_5 : decode cX9_lay 5 = .ok (.aload_n 0, 1) := by decide +kernel
theorem dX9_lay_6 : decode cX9_lay 6 = .ok (.invokevirtual 88, 3) := by decide +kernel
theorem dX9_lay_9 : decode cX9_lay 9 = .ok (.bipush (-4), 2) := by decide +kernel
theorem dX9_lay_11 : decode cX9_lay 11 = .ok (.if_icmp .ne 12, 3) := by decide +kernel
theorem dX9_lay_14 : decode cX9_lay 14 = .ok (.aload_n 0, 1) := by decide +kernel
theorem dX9_lay_15 : decode cX9_lay 15 = .ok (.getfield 13, 3) := by decide +kernel
theorem dX9_lay_18 : decode cX9_lay 18 = .ok (.iconst 0, 1) := by decide +kernel
theorem dX9_lay_19 : decode cX9_lay 19 = .ok (.iaload, 1) := by decide +kernel
theorem dX9_lay_20 : decode cX9_lay 20 = .ok (.ifCond .ne 6, 3) := by decide +kernel
theorem dX9_lay_23 : decode cX9_lay 23 = .ok (.bipush (-2), 2) := by decide +kernel
theorem dX9_lay_25 : decode cX9_lay 25 = .ok (.ireturn, 1) := by decide +kernel
theorem dX9_lay_26 : decode cX9_lay 26 = .ok (.aload_n 0, 1) := by decide +kernel
theorem dX9_lay_27 : decode cX9_lay 27 = .ok (.aload_n 0, 1) := by decide +kernel
theorem dX9_lay_28 : decode cX9_lay 28 = .ok (.getfield 13, 3) := by decide +kernel
theorem dX9_lay_31 : decode cX9_lay 31 = .ok (.iconst 0, 1) := by decide +kernel
theorem dX9_lay_32 : decode cX9_lay 32 = .ok (.iaload, 1) := by decide +kernel
theorem dX9_lay_33 : decode cX9_lay 33 = .ok (.putfield 58, 3) := by decide +kernel
theorem dX9_lay_36 : decode cX9_lay 36 = .ok (.iconst 0, 1) := by decide +kernel
theorem dX9_lay_37 : decode cX9_lay 37 = .ok (.istore_n 1, 1) := by decide +kernel
theorem dX9_lay_38 : decode cX9_lay 38 = .ok (.iload_n 1, 1) := by decide +kernel
theorem dX9_lay_39 : decode cX9_lay 39 = .ok (.bipush 6, 2) := by decide +kernel
theorem dX9_lay_41 : decode cX9_lay 41 = .ok (.if_icmp .ge 35, 3) := by decide +kernel
theorem dX9_lay_44 : decode cX9_lay 44 = .ok (.aload_n 0, 1) := by decide +kernel
theorem dX9_lay_45 : decode cX9_lay 45 = .ok (.getfield 16, 3) := by decide +kernel
theorem dX9_lay_48 : decode cX9_lay 48 = .ok (.iload_n 1, 1) := by decide +kernel
theorem dX9_lay_49 : decode cX9_lay 49 = .ok (.iload_n 1, 1) := by decide +kernel
theorem dX9_lay_50 : decode cX9_lay 50 = .ok (.aload_n 0, 1) := by decide +kernel
theorem dX9_lay_51 : decode cX9_lay 51 = .ok (.getfield 58, 3) := by decide +kernel
theorem dX9_lay_54 : decode cX9_lay 54 = .ok (.if_icmp .ge 14, 3) := by decide +kernel
theorem dX9_lay_57 : decode cX9_lay 57 = .ok (.aload_n 0, 1) := by decide +kernel
theorem dX9_lay_58 : decode cX9_lay 58 = .ok (.getfield 13, 3) := by decide +kernel
theorem dX9_lay_61 : decode cX9_lay 61 = .ok (.iconst 1, 1) := by decide +kernel
theorem dX9_lay_62 : decode cX9_lay 62 = .ok (.iload_n 1, 1) := by decide +kernel
theorem dX9_lay_63 : decode cX9_lay 63 = .ok (.iadd, 1) := by decide +kernel
theorem dX9_lay_64 : decode cX9_lay 64 = .ok (.iaload, 1) := by decide +kernel
theorem dX9_lay_65 : decode cX9_lay 65 = .ok (.goto 4, 3) := by decide +kernel
theorem dX9_lay_68 : decode cX9_lay 68 = .ok (.iconst 0, 1) := by decide +kernel
theorem dX9_lay_69 : decode cX9_lay 69 = .ok (.iastore, 1) := by decide +kernel
theorem dX9_lay_70 : decode cX9_lay 70 = .ok (.iinc 1 1, 3) := by decide +kernel
theorem dX9_lay_73 : decode cX9_lay 73 = .ok (.goto (-35), 3) := by decide +kernel
theorem dX9_lay_76 : decode cX9_lay 76 = .ok (.aload_n 0, 1) := by decide +kernel
theorem dX9_lay_77 : decode cX9_lay 77 = .ok (.aload_n 0, 1) := by decide +kernel
theorem dX9_lay_78 : decode cX9_lay 78 = .ok (.getfield 13, 3) := by decide +kernel
theorem dX9_lay_81 : decode cX9_lay 81 = .ok (.bipush 7, 2) := by decide +kernel
theorem dX9_lay_83 : decode cX9_lay 83 = .ok (.iaload, 1) := by decide +kernel
theorem dX9_lay_84 : decode cX9_lay 84 = .ok (.putfield 62, 3) := by decide +kernel
theorem dX9_lay_87 : decode cX9_lay 87 = .ok (.aload_n 0, 1) := by decide +kernel
theorem dX9_lay_88 : decode cX9_lay 88 = .ok (.aload_n 0, 1) := by decide +kernel
theorem dX9_lay_89 : decode cX9_lay 89 = .ok (.getfield 13, 3) := by decide +kernel
theorem dX9_lay_92 : decode cX9_lay 92 = .ok (.bipush 8, 2) := by decide +kernel
theorem dX9_lay_94 : decode cX9_lay 94 = .ok (.iaload, 1) := by decide +kernel
theorem dX9_lay_95 : decode cX9_lay 95 = .ok (.putfield 101, 3) := by decide +kernel
theorem dX9_lay_98 : decode cX9_lay 98 = .ok (.aload_n 0, 1) := by decide +kernel
theorem dX9_lay_99 : decode cX9_lay 99 = .ok (.aload_n 0, 1) := by decide +kernel
theorem dX9_lay_100 : decode cX9_lay 100 = .ok (.getfield 13, 3) := by decide +kernel
theorem dX9_lay_103 : decode cX9_lay 103 = .ok (.bipush 9, 2) := by decide +kernel
theorem dX9_lay_105 : decode cX9_lay 105 = .ok (.iaload, 1) := by decide +kernel
theorem dX9_lay_106 : decode cX9_lay 106 = .ok (.putfield 104, 3) := by decide +kernel
theorem dX9_lay_109 : decode cX9_lay 109 = .ok (.aload_n 0, 1) := by decide +kernel
theorem dX9_lay_110 : decode cX9_lay 110 = .ok (.invokevirtual 65, 3) := by decide +kernel
theorem dX9_lay_113 : decode cX9_lay 113 = .ok (.aload_n 0, 1) := by decide +kernel
theorem dX9_lay_114 : decode cX9_lay 114 = .ok (.getfield 58, 3) := by decide +kernel
theorem dX9_lay_117 : decode cX9_lay 117 = .ok (.ireturn, 1) := by decide +kernel
theorem dX9_isPerson_0 : decode cX9_isPerson 0 = .ok (.iload_n 1, 1) := by decide +kernel
theorem dX9_isPerson_1 : decode cX9_isPerson 1 = .ok (.iconst 0, 1) := by decide +kernel
theorem dX9_isPerson_2 : decode cX9_isPerson 2 = .ok (.aload_n 0, 1) := by decide +kernel
theorem dX9_isPerson_3 : decode cX9_isPerson 3 = .ok (.getfield 58, 3) := by decide +kernel
theorem dX9_isPerson_6 : decode cX9_isPerson 6 = .ok (.iconst 1, 1) := by decide +kernel
theorem dX9_isPerson_7 : decode cX9_isPerson 7 = .ok (.isub, 1) := by decide +kernel
theorem dX9_isPerson_8 : decode cX9_isPerson 8 = .ok (.invokestatic 71, 3) := by decide +kernel
theorem dX9_isPerson_11 : decode cX9_isPerson 11 = .ok (.ireturn, 1) := by decide +kernel
theorem dX9_owesAll_0 : decode cX9_owesAll 0 = .ok (.iconst 0, 1) := by decide +kernel
theorem dX9_owesAll_1 : decode cX9_owesAll 1 = .ok (.istore_n 2, 1) := by decide +kernel
theorem dX9_owesAll_2 : decode cX9_owesAll 2 = .ok (.iconst 0, 1) := by decide +kernel
theorem dX9_owesAll_3 : decode cX9_owesAll 3 = .ok (.istore_n 3, 1) := by decide +kernel
theorem dX9_owesAll_4 : decode cX9_owesAll 4 = .ok (.iload_n 3, 1) := by decide +kernel
theorem dX9_owesAll_5 : decode cX9_owesAll 5 = .ok (.aload_n 0, 1) := by decide +kernel
theorem dX9_owesAll_6 : decode cX9_owesAll 6 = .ok (.getfield 19, 3) := by decide +kernel
theorem dX9_owesAll_9 : decode cX9_owesAll 9 = .ok (.bipush 12, 2) := by decide +kernel
theorem dX9_owesAll_11 : decode cX9_owesAll 11 = .ok (.iaload, 1) := by decide +kernel
theorem dX9_owesAll_12 : decode cX9_owesAll 12 = .ok (.if_icmp .ge 46, 3) := by decide +kernel
theorem dX9_owesAll_15 : decode cX9_owesAll 15 = .ok (.iload_n 2, 1) := by decide +kernel
theorem dX9_owesAll_16 : decode cX9_owesAll 16 = .ok (.aload_n 0, 1) := by decide +kernel
theorem dX9_owesAll_17 : decode cX9_owesAll 17 = .ok (.getfield 19, 3) := by decide +kernel
theorem dX9_owesAll_20 : decode cX9_owesAll 20 = .ok (.bipush 13, 2) := by decide +kernel
theorem dX9_owesAll_22 : decode cX9_owesAll 22 = .ok (.iconst 4, 1) := by decide +kernel
theorem dX9_owesAll_23 : decode cX9_owesAll 23 = .ok (.iload_n 3, 1) := by decide +kernel
theorem dX9_owesAll_24 : decode cX9_owesAll 24 = .ok (.imul, 1) := by decide +kernel
theorem dX9_owesAll_25 : decode cX9_owesAll 25 = .ok (.iadd, 1) := by decide +kernel
theorem dX9_owesAll_26 : decode cX9_owesAll 26 = .ok (.iconst 1, 1) := by decide +kernel
theorem dX9_owesAll_27 : decode cX9_owesAll 27 = .ok (.iadd, 1) := by decide +kernel
theorem dX9_owesAll_28 : decode cX9_owesAll 28 = .ok (.iaload, 1) := by decide +kernel
theorem dX9_owesAll_29 : decode cX9_owesAll 29 = .ok (.iload_n 1, 1) := by decide +kernel
theorem dX9_owesAll_30 : decode cX9_owesAll 30 = .ok (.if_icmp .ne 19, 3) := by decide +kernel
theorem dX9_owesAll_33 : decode cX9_owesAll 33 = .ok (.aload_n 0, 1) := by decide +kernel
theorem dX9_owesAll_34 : decode cX9_owesAll 34 = .ok (.getfield 19, 3) := by decide +kernel
theorem dX9_owesAll_37 : decode cX9_owesAll 37 = .ok (.bipush 13, 2) := by decide +kernel
theorem dX9_owesAll_39 : decode cX9_owesAll 39 = .ok (.iconst 4, 1) := by decide +kernel
theorem dX9_owesAll_40 : decode cX9_owesAll 40 = .ok (.iload_n 3, 1) := by decide +kernel
theorem dX9_owesAll_41 : decode cX9_owesAll 41 = .ok (.imul, 1) := by decide +kernel
theorem dX9_owesAll_42 : decode cX9_owesAll 42 = .ok (.iadd, 1) := by decide +kernel
theorem dX9_owesAll_43 : decode cX9_owesAll 43 = .ok (.iconst 2, 1) := by decide +kernel
theorem dX9_owesAll_44 : decode cX9_owesAll 44 = .ok (.iadd, 1) := by decide +kernel
theorem dX9_owesAll_45 : decode cX9_owesAll 45 = .ok (.iaload, 1) := by decide +kernel
theorem dX9_owesAll_46 : decode cX9_owesAll 46 = .ok (.goto 4, 3) := by decide +kernel
theorem dX9_owesAll_49 : decode cX9_owesAll 49 = .ok (.iconst 0, 1) := by decide +kernel
theorem dX9_owesAll_50 : decode cX9_owesAll 50 = .ok (.iadd, 1) := by decide +kernel
theorem dX9_owesAll_51 : decode cX9_owesAll 51 = .ok (.istore_n 2, 1) := by decide +kernel
theorem dX9_owesAll_52 : decode cX9_owesAll 52 = .ok (.iinc 3 1, 3) := by decide +kernel
theorem dX9_owesAll_55 : decode cX9_owesAll 55 = .ok (.goto (-51), 3) := by decide +kernel
theorem dX9_owesAll_58 : decode cX9_owesAll 58 = .ok (.iload_n 2, 1) := by decide +kernel
theorem dX9_owesAll_59 : decode cX9_owesAll 59 = .ok (.ireturn, 1) := by decide +kernel
theorem dX9_person_0 : decode cX9_person 0 = .ok (.aload_n 0, 1) := by decide +kernel
theorem dX9_person_1 : decode cX9_person 1 = .ok (.iconst 0, 1) := by decide +kernel
theorem dX9_person_2 : decode cX9_person 2 = .ok (.putfield 68, 3) := by decide +kernel
theorem dX9_person_5 : decode cX9_person 5 = .ok (.aload_n 0, 1) := by decide +kernel
