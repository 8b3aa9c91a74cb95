theorem dX0_init_0 : decode cX0_init 0 = .ok (.aload_n 0, 1) := by decide +kernel
theorem dX0_init_1 : decode cX0_init 1 = .ok (.invokespecial 3, 3) := by decide +kernel
theorem dX0_init_4 : decode cX0_init 4 = .ok (.aload_n 0, 1) := by decide +kernel
theorem dX0_init_5 : decode cX0_init 5 = .ok (.bipush 6, 2) := by decide +kernel
theorem dX0_init_7 : decode cX0_init 7 = .ok (.newarray .int, 2) := by decide +kernel
theorem dX0_init_9 : decode cX0_init 9 = .ok (.putfield 9, 3) := by decide +kernel
theorem dX0_init_12 : decode cX0_init 12 = .ok (.aload_n 0, 1) := by decide +kernel
theorem dX0_init_13 : decode cX0_init 13 = .ok (.bipush 6, 2) := by decide +kernel
theorem dX0_init_15 : decode cX0_init 15 = .ok (.newarray .int, 2) := by decide +kernel
theorem dX0_init_17 : decode cX0_init 17 = .ok (.putfield 15, 3) := by decide +kernel
theorem dX0_init_20 : decode cX0_init 20 = .ok (.aload_n 0, 1) := by decide +kernel
theorem dX0_init_21 : decode cX0_init 21 = .ok (.bipush 8, 2) := by decide +kernel
theorem dX0_init_23 : decode cX0_init 23 = .ok (.newarray .int, 2) := by decide +kernel
theorem dX0_init_25 : decode cX0_init 25 = .ok (.putfield 18, 3) := by decide +kernel
theorem dX0_init_28 : decode cX0_init 28 = .ok (.aload_n 0, 1) := by decide +kernel
theorem dX0_init_29 : decode cX0_init 29 = .ok (.bipush 8, 2) := by decide +kernel
theorem dX0_init_31 : decode cX0_init 31 = .ok (.newarray .int, 2) := by decide +kernel
theorem dX0_init_33 : decode cX0_init 33 = .ok (.putfield 21, 3) := by decide +kernel
theorem dX0_init_36 : decode cX0_init 36 = .ok (.aload_n 0, 1) := by decide +kernel
theorem dX0_init_37 : decode cX0_init 37 = .ok (.bipush 8, 2) := by decide +kernel
theorem dX0_init_39 : decode cX0_init 39 = .ok (.newarray .int, 2) := by decide +kernel
theorem dX0_init_41 : decode cX0_init 41 = .ok (.putfield 24, 3) := by decide +kernel
theorem dX0_init_44 : decode cX0_init 44 = .ok (.aload_n 0, 1) := by decide +kernel
theorem dX0_init_45 : decode cX0_init 45 = .ok (.bipush 8, 2) := by decide +kernel
theorem dX0_init_47 : decode cX0_init 47 = .ok (.newarray .int, 2) := by decide +kernel
theorem dX0_init_49 : decode cX0_init 49 = .ok (.putfield 27, 3) := by decide +kernel
theorem dX0_init_52 : decode cX0_init 52 = .ok (.aload_n 0, 1) := by decide +kernel
theorem dX0_init_53 : decode cX0_init 53 = .ok (.bipush 8, 2) := by decide +kernel
theorem dX0_init_55 : decode cX0_init 55 = .ok (.newarray .int, 2) := by decide +kernel
theorem dX0_init_57 : decode cX0_init 57 = .ok (.putfield 30, 3) := by decide +kernel
theorem dX0_init_60 : decode cX0_init 60 = .ok (.aload_n 0, 1) := by decide +kernel
theorem dX0_init_61 : decode cX0_init 61 = .ok (.bipush 8, 2) := by decide +kernel
theorem dX0_init_63 : decode cX0_init 63 = .ok (.newarray .int, 2) := by decide +kernel
theorem dX0_init_65 : decode cX0_init 65 = .ok (.putfield 33, 3) := by decide +kernel
theorem dX0_init_68 : decode cX0_init 68 = .ok (.aload_n 0, 1) := by decide +kernel
theorem dX0_init_69 : decode cX0_init 69 = .ok (.aload_n 1, 1) := by decide +kernel
theorem dX0_init_70 : decode cX0_init 70 = .ok (.putfield 36, 3) := by decide +kernel
theorem dX0_init_73 : decode cX0_init 73 = .ok (.return_, 1) := by decide +kernel
theorem dX0_open_0 : decode cX0_open 0 = .ok (.iconst 0, 1) := by decide +kernel
theorem dX0_open_1 : decode cX0_open 1 = .ok (.istore_n 1, 1) := by decide +kernel
theorem dX0_open_2 : decode cX0_open 2 = .ok (.iload_n 1, 1) := by decide +kernel
theorem dX0_open_3 : decode cX0_open 3 = .ok (.bipush 6, 2) := by decide +kernel
theorem dX0_open_5 : decode cX0_open 5 = .ok (.if_icmp .ge 46, 3) := by decide +kernel
theorem dX0_open_8 : decode cX0_open 8 = .ok (.aload_n 0, 1) := by decide +kernel
theorem dX0_open_9 : decode cX0_open 9 = .ok (.getfield 9, 3) := by decide +kernel
theorem dX0_open_12 : decode cX0_open 12 = .ok (.iload_n 1, 1) := by decide +kernel
theorem dX0_open_13 : decode cX0_open 13 = .ok (.iload_n 1, 1) := by decide +kernel
theorem dX0_open_14 : decode cX0_open 14 = .ok (.aload_n 0, 1) := by decide +kernel
theorem dX0_open_15 : decode cX0_open 15 = .ok (.getfield 36, 3) := by decide +kernel
theorem dX0_open_18 : decode cX0_open 18 = .ok (.getfield 40, 3) := by decide +kernel
theorem dX0_open_21 : decode cX0_open 21 = .ok (.if_icmp .ge 15, 3) := by decide +kernel
theorem dX0_open_24 : decode cX0_open 24 = .ok (.aload_n 0, 1) := by decide +kernel
theorem dX0_open_25 : decode cX0_open 25 = .ok (.getfield 36, 3) := by decide +kernel
theorem dX0_open_28 : decode cX0_open 28 = .ok (.getfield 46, 3) := by decide +kernel
theorem dX0_open_31 : decode cX0_open 31 = .ok (.iload_n 1, 1) := by decide +kernel
theorem dX0_open_32 : decode cX0_open 32 = .ok (.iaload, 1) := by decide +kernel
theorem dX0_open_33 : decode cX0_open 33 = .ok (.goto 4, 3) := by decide +kernel
theorem dX0_open_36 : decode cX0_open 36 = .ok (.iconst 0, 1) := by decide +kernel
theorem dX0_open_37 : decode cX0_open 37 = .ok (.iastore, 1) := by decide +kernel
theorem dX0_open_38 : decode cX0_open 38 = .ok (.aload_n 0, 1) := by decide +kernel
theorem dX0_open_39 : decode cX0_open 39 = .ok (.getfield 15, 3) := by decide +kernel
theorem dX0_open_42 : decode cX0_open 42 = .ok (.iload_n 1, 1) := by decide +kernel
theorem dX0_open_43 : decode cX0_open 43 = .ok (.iconst 0, 1) := by decide +kernel
theorem dX0_open_44 : decode cX0_open 44 = .ok (.iastore, 1) := by decide +kernel
theorem dX0_open_45 : decode cX0_open 45 = .ok (.iinc 1 1, 3) := by decide +kernel
theorem dX0_open_48 : decode cX0_open 48 = .ok (.goto (-46), 3) := by decide +kernel
theorem dX0_open_51 : decode cX0_open 51 = .ok (.aload_n 0, 1) := by decide +kernel
theorem dX0_open_52 : decode cX0_open 52 = .ok (.iconst 0, 1) := by decide +kernel
theorem dX0_open_53 : decode cX0_open 53 = .ok (.putfield 49, 3) := by decide +kernel
theorem dX0_open_56 : decode cX0_open 56 = .ok (.aload_n 0, 1) := by decide +kernel
theorem dX0_open_57 : decode cX0_open 57 = .ok (.iconst 0, 1) := by decide +kernel
theorem dX0_open_58 : decode cX0_open 58 = .ok (.putfield 52, 3) := by decide +kernel
theorem dX0_open_61 : decode cX0_open 61 = .ok (.return_, 1) := by decide +kernel
theorem dX0_copyFrom_0 : decode cX0_copyFrom 0 = .ok (.aload_n 1, 1) := by decide +kernel
theorem dX0_copyFrom_1 : decode cX0_copyFrom 1 = .ok (.getfield 9, 3) := by decide +kernel
theorem dX0_copyFrom_4 : decode cX0_copyFrom 4 = .ok (.iconst 0, 1) := by decide +kernel
theorem dX0_copyFrom_5 : decode cX0_copyFrom 5 = .ok (.aload_n 0, 1) := by decide +kernel
theorem dX0_copyFrom_6 : decode cX0_copyFrom 6 = .ok (.getfield 9, 3) := by decide +kernel
theorem dX0_copyFrom_9 : decode cX0_copyFrom 9 = .ok (.iconst 0, 1) := by decide +kernel
theorem dX0_copyFrom_10 : decode cX0_copyFrom 10 = .ok (.bipush 6, 2) := by decide +kernel
theorem dX0_copyFrom_12 : decode cX0_copyFrom 12 = .ok (.invokestatic 55, 3) := by decide +kernel
theorem dX0_copyFrom_15 : decode cX0_copyFrom 15 = .ok (.aload_n 1, 1) := by decide +kernel
theorem dX0_copyFrom_16 : decode cX0_copyFrom 16 = .ok (.getfield 15, 3) := by decide +kernel
theorem dX0_copyFrom_19 : decode cX0_copyFrom 19 = .ok (.iconst 0, 1) := by decide +kernel
theorem dX0_copyFrom_20 : decode cX0_copyFrom 20 = .ok (.aload_n 0, 1) := by decide +kernel
theorem dX0_copyFrom_21 : decode cX0_copyFrom 21 = .ok (.getfield 15, 3) := by decide +kernel
theorem dX0_copyFrom_24 : decode cX0_copyFrom 24 = .ok (.iconst 0, 1) := by decide +kernel
theorem dX0_copyFrom_25 : decode cX0_copyFrom 25 = .ok (.bipush 6, 2) := by decide +kernel
theorem dX0_copyFrom_27 : decode cX0_copyFrom 27 = .ok (.invokestatic 55, 3) := by decide +kernel
theorem dX0_copyFrom_30 : decode cX0_copyFrom 30 = .ok (.aload_n 1, 1) := by decide +kernel
theorem dX0_copyFrom_31 : decode cX0_copyFrom 31 = .ok (.getfield 18, 3) := by decide +kernel
theorem dX0_copyFrom_34 : decode cX0_copyFrom 34 = .ok (.iconst 0, 1) := by decide +kernel
theorem dX0_copyFrom_35 : decode cX0_copyFrom 35 = .ok (.aload_n 0, 1) := by decide +kernel
theorem dX0_copyFrom_36 : decode cX0_copyFrom 36 = .ok (.getfield 18, 3) := by decide +kernel
theorem dX0_copyFrom_39 : decode cX0_copyFrom 39 = .ok (.iconst 0, 1) := by decide +kernel
theorem dX0_copyFrom_40 : decode cX0_copyFrom 40 = .ok (.bipush 8, 2) := by decide +kernel
theorem dX0_copyFrom_42 : decode cX0_copyFrom 42 = .ok (.invokestatic 55, 3) := by decide +kernel
theorem dX0_copyFrom_45 : decode cX0_copyFrom 45 = .ok (.aload_n 1, 1) := by decide +kernel
theorem dX0_copyFrom_46 : decode cX0_copyFrom 46 = .ok (.getfield 21, 3) := by decide +kernel
theorem dX0_copyFrom_49 : decode cX0_copyFrom 49 = .ok (.iconst 0, 1) := by decide +kernel
theorem dX0_copyFrom_50 : decode cX0_copyFrom 50 = .ok (.aload_n 0, 1) := by decide +kernel
theorem dX0_copyFrom_51 : decode cX0_copyFrom 51 = .ok (.getfield 21, 3) := by decide +kernel
theorem dX0_copyFrom_54 : decode cX0_copyFrom 54 = .ok (.iconst 0, 1) := by decide +kernel
theorem dX0_copyFrom_55 : decode cX0_copyFrom 55 = .ok (.bipush 8, 2) := by decide +kernel
theorem dX0_copyFrom_57 : decode cX0_copyFrom 57 = .ok (.invokestatic 55, 3) := by decide +kernel
theorem dX0_copyFrom_60 : decode cX0_copyFrom 60 = .ok (.aload_n 1, 1) := by decide +kernel
theorem dX0_copyFrom_61 : decode cX0_copyFrom 61 = .ok (.getfield 24, 3) := by decide +kernel
theorem dX0_copyFrom_64 : decode cX0_copyFrom 64 = .ok (.iconst 0, 1) := by decide +kernel
theorem dX0_copyFrom_65 : decode cX0_copyFrom 65 = .ok (.aload_n 0, 1) := by decide +kernel
theorem dX0_copyFrom_66 : decode cX0_copyFrom 66 = .ok (.getfield 24, 3) := by decide +kernel
theorem dX0_copyFrom_69 : decode cX0_copyFrom 69 = .ok (.iconst 0, 1) := by decide +kernel
theorem dX0_copyFrom_70 : decode cX0_copyFrom 70 = .ok (.bipush 8, 2) := by decide +kernel
theorem dX0_copyFrom_72 : decode cX0_copyFrom 72 = .ok (.invokestatic 55, 3) := by decide +kernel
theorem dX0_copyFrom_75 : decode cX0_copyFrom 75 = .ok (.aload_n 1, 1) := by decide +kernel
theorem dX0_copyFrom_76 : decode cX0_copyFrom 76 = .ok (.getfield 27, 3) := by decide +kernel
theorem dX0_copyFrom_79 : decode cX0_copyFrom 79 = .ok (.iconst 0, 1) := by decide +kernel
theorem dX0_copyFrom_80 : decode cX0_copyFrom 80 = .ok (.aload_n 0, 1) := by decide +kernel
theorem dX0_copyFrom_81 : decode cX0_copyFrom 81 = .ok (.getfield 27, 3) := by decide +kernel
theorem dX0_copyFrom_84 : decode cX0_copyFrom 84 = .ok (.iconst 0, 1) := by decide +kernel
theorem dX0_copyFrom_85 : decode cX0_copyFrom 85 = .ok (.bipush 8, 2) := by decide +kernel
theorem dX0_copyFrom_87 : decode cX0_copyFrom 87 = .ok (.invokestatic 55, 3) := by decide +kernel
theorem dX0_copyFrom_90 : decode cX0_copyFrom 90 = .ok (.aload_n 0, 1) := by decide +kernel
theorem dX0_copyFrom_91 : decode cX0_copyFrom 91 = .ok (.aload_n 1, 1) := by decide +kernel
theorem dX0_copyFrom_92 : decode cX0_copyFrom 92 = .ok (.getfield 49, 3) := by decide +kernel
theorem dX0_copyFrom_95 : decode cX0_copyFrom 95 = .ok (.putfield 49, 3) := by decide +kernel
theorem dX0_copyFrom_98 : decode cX0_copyFrom 98 = .ok (.aload_n 0, 1) := by decide +kernel
theorem dX0_copyFrom_99 : decode cX0_copyFrom 99 = .ok (.aload_n 1, 1) := by decide +kernel
theorem dX0_copyFrom_100 : decode cX0_copyFrom 100 = .ok (.getfield 52, 3) := by decide +kernel
theorem dX0_copyFrom_103 : decode cX0_copyFrom 103 = .ok (.putfield 52, 3) := by decide +kernel
theorem dX0_copyFrom_106 : decode cX0_copyFrom 106 = .ok (.return_, 1) := by decide +kernel
theorem dX0_markLoans_0 : decode cX0_markLoans 0 = .ok (.iconst 0, 1) := by decide +kernel
theorem dX0_markLoans_1 : decode cX0_markLoans 1 = .ok (.istore_n 1, 1) := by decide +kernel
theorem dX0_markLoans_2 : decode cX0_markLoans 2 = .ok (.iload_n 1, 1) := by decide +kernel
theorem dX0_markLoans_3 : decode cX0_markLoans 3 = .ok (.bipush 8, 2) := by decide +kernel
theorem dX0_markLoans_5 : decode cX0_markLoans 5 = .ok (.if_icmp .ge 23, 3) := by decide +kernel
theorem dX0_markLoans_8 : decode cX0_markLoans 8 = .ok (.aload_n 0, 1) := by decide +kernel
theorem dX0_markLoans_9 : decode cX0_markLoans 9 = .ok (.getfield 30, 3) := by decide +kernel
theorem dX0_markLoans_12 : decode cX0_markLoans 12 = .ok (.iload_n 1, 1) := by decide +kernel
theorem dX0_markLoans_13 : decode cX0_markLoans 13 = .ok (.iload_n 1, 1) := by decide +kernel
theorem dX0_markLoans_14 : decode cX0_markLoans 14 = .ok (.iastore, 1) := by decide +kernel
theorem dX0_markLoans_15 : decode cX0_markLoans 15 = .ok (.aload_n 0, 1) := by decide +kernel
theorem dX0_markLoans_16 : decode cX0_markLoans 16 = .ok (.getfield 33, 3) := by decide +kernel
theorem dX0_markLoans_19 : decode cX0_markLoans 19 = .ok (.iload_n 1, 1) := by decide +kernel
theorem dX0_markLoans_20 : decode cX0_markLoans 20 = .ok (.iconst 0, 1) := by decide +kernel
theorem dX0_markLoans_21 : decode cX0_markLoans 21 = .ok (.iastore, 1) := by decide +kernel
theorem dX0_markLoans_22 : decode cX0_markLoans 22 = .ok (.iinc 1 1, 3) := by decide +kernel
theorem dX0_markLoans_25 : decode cX0_markLoans 25 = .ok (.goto (-23), 3) := by decide +kernel
theorem dX0_markLoans_28 : decode cX0_markLoans 28 = .ok (.return_, 1) := by decide +kernel
theorem dX0_isAlive_0 : decode cX0_isAlive 0 = .ok (.iload_n 1, 1) := by decide +kernel
theorem dX0_isAlive_1 : decode cX0_isAlive 1 = .ok (.iconst 0, 1) := by decide +kernel
theorem dX0_isAlive_2 : decode cX0_isAlive 2 = .ok (.aload_n 0, 1) := by decide +kernel
theorem dX0_isAlive_3 : decode cX0_isAlive 3 = .ok (.getfield 36, 3) := by decide +kernel
theorem dX0_isAlive_6 : decode cX0_isAlive 6 = .ok (.getfield 40, 3) := by decide +kernel
theorem dX0_isAlive_9 : decode cX0_isAlive 9 = .ok (.iconst 1, 1) := by decide +kernel
theorem dX0_isAlive_10 : decode cX0_isAlive 10 = .ok (.isub, 1) := by decide +kernel
theorem dX0_isAlive_11 : decode cX0_isAlive 11 = .ok (.invokestatic 61, 3) := by decide +kernel
theorem dX0_isAlive_14 : decode cX0_isAlive 14 = .ok (.ifCond .eq 16, 3) := by decide +kernel
theorem dX0_isAlive_17 : decode cX0_isAlive 17 = .ok (.aload_n 0, 1) := by decide +kernel
theorem dX0_isAlive_18 : decode cX0_isAlive 18 = .ok (.getfield 9, 3) := by decide +kernel
theorem dX0_isAlive_21 : decode cX0_isAlive 21 = .ok (.iload_n 1, 1) := by decide +kernel
theorem dX0_isAlive_22 : decode cX0_isAlive 22 = .ok (.iaload, 1) := by decide +kernel
theorem dX0_isAlive_23 : decode cX0_isAlive 23 = .ok (.ifCond .le 7, 3) := by decide +kernel
theorem dX0_isAlive_26 : decode cX0_isAlive 26 = .ok (.iconst 1, 1) := by decide +kernel
theorem dX0_isAlive_27 : decode cX0_isAlive 27 = .ok (.goto 4, 3) := by decide +kernel
theorem dX0_isAlive_30 : decode cX0_isAlive 30 = .ok (.iconst 0, 1) := by decide +kernel
theorem dX0_isAlive_31 : decode cX0_isAlive 31 = .ok (.ireturn, 1) := by decide +kernel
theorem dX0_living_0 : decode cX0_living 0 = .ok (.iconst 0, 1) := by decide +kernel
theorem dX0_living_1 : decode cX0_living 1 = .ok (.istore_n 1, 1) := by decide +kernel
theorem dX0_living_2 : decode cX0_living 2 = .ok (.iconst 0, 1) := by decide +kernel
theorem dX0_living_3 : decode cX0_living 3 = .ok (.istore_n 2, 1) := by decide +kernel
theorem dX0_living_4 : decode cX0_living 4 = .ok (.iload_n 2, 1) := by decide +kernel
theorem dX0_living_5 : decode cX0_living 5 = .ok (.aload_n 0, 1) := by decide +kernel
theorem dX0_living_6 : decode cX0_living 6 = .ok (.getfield 36, 3) := by decide +kernel
theorem dX0_living_9 : decode cX0_living 9 = .ok (.getfield 40, 3) := by decide +kernel
theorem dX0_living_12 : decode cX0_living 12 = .ok (.if_icmp .ge 25, 3) := by decide +kernel
theorem dX0_living_15 : decode cX0_living 15 = .ok (.iload_n 1, 1) := by decide +kernel
theorem dX0_living_16 : decode cX0_living 16 = .ok (.aload_n 0, 1) := by decide +kernel
theorem dX0_living_17 : decode cX0_living 17 = .ok (.iload_n 2, 1) := by decide +kernel
theorem dX0_living_18 : decode cX0_living 18 = .ok (.invokevirtual 65, 3) := by decide +kernel
theorem dX0_living_21 : decode cX0_living 21 = .ok (.ifCond .eq 7, 3) := by decide +kernel
theorem dX0_living_24 : decode cX0_living 24 = .ok (.iconst 1, 1) := by decide +kernel
theorem dX0_living_25 : decode cX0_living 25 = .ok (.goto 4, 3) := by decide +kernel
theorem dX0_living_28 : decode cX0_living 28 = .ok (.iconst 0, 1) := by decide +kernel
theorem dX0_living_29 : decode cX0_living 29 = .ok (.iadd, 1) := by decide +kernel
theorem dX0_living_30 : decode cX0_living 30 = .ok (.istore_n 1, 1) := by decide +kernel
theorem dX0_living_31 : decode cX0_living 31 = .ok (.iinc 2 1, 3) := by decide +kernel
theorem dX0_living_34 : decode cX0_living 34 = .ok (.goto (-30), 3) := by decide +kernel
theorem dX0_living_37 : decode cX0_living 37 = .ok (.iload_n 1, 1) := by decide +kernel
theorem dX0_living_38 : decode cX0_living 38 = .ok (.ireturn, 1) := by decide +kernel
theorem dX0_lostByAll_0 : decode cX0_lostByAll 0 = .ok (.iconst 0, 1) := by decide +kernel
theorem dX0_lostByAll_1 : decode cX0_lostByAll 1 = .ok (.istore_n 1, 1) := by decide +kernel
theorem dX0_lostByAll_2 : decode cX0_lostByAll 2 = .ok (.iconst 0, 1) := by decide +kernel
theorem dX0_lostByAll_3 : decode cX0_lostByAll 3 = .ok (.istore_n 2, 1) := by decide +kernel
theorem dX0_lostByAll_4 : decode cX0_lostByAll 4 = .ok (.iload_n 2, 1) := by decide +kernel
theorem dX0_lostByAll_5 : decode cX0_lostByAll 5 = .ok (.aload_n 0, 1) := by decide +kernel
theorem dX0_lostByAll_6 : decode cX0_lostByAll 6 = .ok (.getfield 36, 3) := by decide +kernel
theorem dX0_lostByAll_9 : decode cX0_lostByAll 9 = .ok (.getfield 40, 3) := by decide +kernel
theorem dX0_lostByAll_12 : decode cX0_lostByAll 12 = .ok (.if_icmp .ge 18, 3) := by decide +kernel
theorem dX0_lostByAll_15 : decode cX0_lostByAll 15 = .ok (.iload_n 1, 1) := by decide +kernel
theorem dX0_lostByAll_16 : decode cX0_lostByAll 16 = .ok (.aload_n 0, 1) := by decide +kernel
theorem dX0_lostByAll_17 : decode cX0_lostByAll 17 = .ok (.getfield 15, 3) := by decide +kernel
theorem dX0_lostByAll_20 : decode cX0_lostByAll 20 = .ok (.iload_n 2, 1) := by decide +kernel
theorem dX0_lostByAll_21 : decode cX0_lostByAll 21 = .ok (.iaload, 1) := by decide +kernel
theorem dX0_lostByAll_22 : decode cX0_lostByAll 22 = .ok (.iadd, 1) := by decide +kernel
theorem dX0_lostByAll_23 : decode cX0_lostByAll 23 = .ok (.istore_n 1, 1) := by decide +kernel
theorem dX0_lostByAll_24 : decode cX0_lostByAll 24 = .ok (.iinc 2 1, 3) := by decide +kernel
theorem dX0_lostByAll_27 : decode cX0_lostByAll 27 = .ok (.goto (-23), 3) := by decide +kernel
theorem dX0_lostByAll_30 : decode cX0_lostByAll 30 = .ok (.iload_n 1, 1) := by decide +kernel
theorem dX0_lostByAll_31 : decode cX0_lostByAll 31 = .ok (.ireturn, 1) := by decide +kernel
theorem dX0_owedToAll_0 : decode cX0_owedToAll 0 = .ok (.iconst 0, 1) := by decide +kernel
theorem dX0_owedToAll_1 : decode cX0_owedToAll 1 = .ok (.istore_n 2, 1) := by decide +kernel
theorem dX0_owedToAll_2 : decode cX0_owedToAll 2 = .ok (.iconst 0, 1) := by decide +kernel
theorem dX0_owedToAll_3 : decode cX0_owedToAll 3 = .ok (.istore_n 3, 1) := by decide +kernel
theorem dX0_owedToAll_4 : decode cX0_owedToAll 4 = .ok (.iload_n 3, 1) := by decide +kernel
theorem dX0_owedToAll_5 : decode cX0_owedToAll 5 = .ok (.aload_n 0, 1) := by decide +kernel
theorem dX0_owedToAll_6 : decode cX0_owedToAll 6 = .ok (.getfield 49, 3) := by decide +kernel
theorem dX0_owedToAll_9 : decode cX0_owedToAll 9 = .ok (.if_icmp .ge 32, 3) := by decide +kernel
theorem dX0_owedToAll_12 : decode cX0_owedToAll 12 = .ok (.iload_n 2, 1) := by decide +kernel
theorem dX0_owedToAll_13 : decode cX0_owedToAll 13 = .ok (.aload_n 0, 1) := by decide +kernel
theorem dX0_owedToAll_14 : decode cX0_owedToAll 14 = .ok (.getfield 21, 3) := by decide +kernel
theorem dX0_owedToAll_17 : decode cX0_owedToAll 17 = .ok (.iload_n 3, 1) := by decide +kernel
theorem dX0_owedToAll_18 : decode cX0_owedToAll 18 = .ok (.iaload, 1) := by decide +kernel
theorem dX0_owedToAll_19 : decode cX0_owedToAll 19 = .ok (.iload_n 1, 1) := by decide +kernel
theorem dX0_owedToAll_20 : decode cX0_owedToAll 20 = .ok (.if_icmp .ne 12, 3) := by decide +kernel
theorem dX0_owedToAll_23 : decode cX0_owedToAll 23 = .ok (.aload_n 0, 1) := by decide +kernel
theorem dX0_owedToAll_24 : decode cX0_owedToAll 24 = .ok (.getfield 24, 3) := by decide +kernel
theorem dX0_owedToAll_27 : decode cX0_owedToAll 27 = .ok (.iload_n 3, 1) := by decide +kernel
theorem dX0_owedToAll_28 : decode cX0_owedToAll 28 = .ok (.iaload, 1) := by decide +kernel
theorem dX0_owedToAll_29 : decode cX0_owedToAll 29 = .ok (.goto 4, 3) := by decide +kernel
theorem dX0_owedToAll_32 : decode cX0_owedToAll 32 = .ok (.iconst 0, 1) := by decide +kernel
theorem dX0_owedToAll_33 : decode cX0_owedToAll 33 = .ok (.iadd, 1) := by decide +kernel
theorem dX0_owedToAll_34 : decode cX0_owedToAll 34 = .ok (.istore_n 2, 1) := by decide +kernel
theorem dX0_owedToAll_35 : decode cX0_owedToAll 35 = .ok (.iinc 3 1, 3) := by decide +kernel
theorem dX0_owedToAll_38 : decode cX0_owedToAll 38 = .ok (.goto (-34), 3) := by decide +kernel
theorem dX0_owedToAll_41 : decode cX0_owedToAll 41 = .ok (.iload_n 2, 1) := by decide +kernel
theorem dX0_owedToAll_42 : decode cX0_owedToAll 42 = .ok (.ireturn, 1) := by decide +kernel
theorem dX0_isFit_0 : decode cX0_isFit 0 = .ok (.iload_n 1, 1) := by decide +kernel
theorem dX0_isFit_1 : decode cX0_isFit 1 = .ok (.iload_n 2, 1) := by decide +kernel
theorem dX0_isFit_2 : decode cX0_isFit 2 = .ok (.if_icmp .eq 32, 3) := by decide +kernel
theorem dX0_isFit_5 : decode cX0_isFit 5 = .ok (.aload_n 0, 1) := by decide +kernel
theorem dX0_isFit_6 : decode cX0_isFit 6 = .ok (.iload_n 1, 1) := by decide +kernel
theorem dX0_isFit_7 : decode cX0_isFit 7 = .ok (.invokevirtual 65, 3) := by decide +kernel
theorem dX0_isFit_10 : decode cX0_isFit 10 = .ok (.ifCond .eq 24, 3) := by decide +kernel
theorem dX0_isFit_13 : decode cX0_isFit 13 = .ok (.aload_n 0, 1) := by decide +kernel
theorem dX0_isFit_14 : decode cX0_isFit 14 = .ok (.iload_n 2, 1) := by decide +kernel
theorem dX0_isFit_15 : decode cX0_isFit 15 = .ok (.invokevirtual 65, 3) := by decide +kernel
theorem dX0_isFit_18 : decode cX0_isFit 18 = .ok (.ifCond .eq 16, 3) := by decide +kernel
theorem dX0_isFit_21 : decode cX0_isFit 21 = .ok (.iload_n 3, 1) := by decide +kernel
theorem dX0_isFit_22 : decode cX0_isFit 22 = .ok (.iload 4, 2) := by decide +kernel
theorem dX0_isFit_24 : decode cX0_isFit 24 = .ok (.invokestatic 69, 3) := by decide +kernel
theorem dX0_isFit_27 : decode cX0_isFit 27 = .ok (.ifCond .eq 7, 3) := by decide +kernel
theorem dX0_isFit_30 : decode cX0_isFit 30 = .ok (.iconst 1, 1) := by decide +kernel
theorem dX0_isFit_31 : decode cX0_isFit 31 = .ok (.goto 4, 3) := by decide +kernel
theorem dX0_isFit_34 : decode cX0_isFit 34 = .ok (.iconst 0, 1) := by decide +kernel
theorem dX0_isFit_35 : decode cX0_isFit 35 = .ok (.ireturn, 1) := by decide +kernel
theorem dX0_isGranted_0 : decode cX0_isGranted 0 = .ok (.aload_n 0, 1) := by decide +kernel
theorem dX0_isGranted_1 : decode cX0_isGranted 1 = .ok (.getfield 36, 3) := by decide +kernel
theorem dX0_isGranted_4 : decode cX0_isGranted 4 = .ok (.getfield 73, 3) := by decide +kernel
theorem dX0_isGranted_7 : decode cX0_isGranted 7 = .ok (.lookupswitch 84 #[(0, 25), (1, 68)], 25) := by decide +kernel
theorem dX0_isGranted_32 : decode cX0_isGranted 32 = .ok (.aload_n 0, 1) := by decide +kernel
theorem dX0_isGranted_33 : decode cX0_isGranted 33 = .ok (.getfield 9, 3) := by decide +kernel
theorem dX0_isGranted_36 : decode cX0_isGranted 36 = .ok (.iload_n 1, 1) := by decide +kernel
theorem dX0_isGranted_37 : decode cX0_isGranted 37 = .ok (.iaload, 1) := by decide +kernel
theorem dX0_isGranted_38 : decode cX0_isGranted 38 = .ok (.iload_n 3, 1) := by decide +kernel
theorem dX0_isGranted_39 : decode cX0_isGranted 39 = .ok (.if_icmp .le 34, 3) := by decide +kernel
theorem dX0_isGranted_42 : decode cX0_isGranted 42 = .ok (.aload_n 0, 1) := by decide +kernel
theorem dX0_isGranted_43 : decode cX0_isGranted 43 = .ok (.getfield 9, 3) := by decide +kernel
theorem dX0_isGranted_46 : decode cX0_isGranted 46 = .ok (.iload_n 2, 1) := by decide +kernel
theorem dX0_isGranted_47 : decode cX0_isGranted 47 = .ok (.iaload, 1) := by decide +kernel
theorem dX0_isGranted_48 : decode cX0_isGranted 48 = .ok (.iload_n 3, 1) := by decide +kernel
theorem dX0_isGranted_49 : decode cX0_isGranted 49 = .ok (.iadd, 1) := by decide +kernel
theorem dX0_isGranted_50 : decode cX0_isGranted 50 = .ok (.iload 4, 2) := by decide +kernel
theorem dX0_isGranted_52 : decode cX0_isGranted 52 = .ok (.isub, 1) := by decide +kernel
theorem dX0_isGranted_53 : decode cX0_isGranted 53 = .ok (.aload_n 0, 1) := by decide +kernel
theorem dX0_isGranted_54 : decode cX0_isGranted 54 = .ok (.iload_n 2, 1) := by decide +kernel
theorem dX0_isGranted_55 : decode cX0_isGranted 55 = .ok (.iload 4, 2) := by decide +kernel
theorem dX0_isGranted_57 : decode cX0_isGranted 57 = .ok (.invokevirtual 76, 3) := by decide +kernel
theorem dX0_isGranted_60 : decode cX0_isGranted 60 = .ok (.isub, 1) := by decide +kernel
theorem dX0_isGranted_61 : decode cX0_isGranted 61 = .ok (.aload_n 0, 1) := by decide +kernel
theorem dX0_isGranted_62 : decode cX0_isGranted 62 = .ok (.iload_n 3, 1) := by decide +kernel
theorem dX0_isGranted_63 : decode cX0_isGranted 63 = .ok (.invokevirtual 80, 3) := by decide +kernel
theorem dX0_isGranted_66 : decode cX0_isGranted 66 = .ok (.if_icmp .le 7, 3) := by decide +kernel
theorem dX0_isGranted_69 : decode cX0_isGranted 69 = .ok (.iconst 1, 1) := by decide +kernel
theorem dX0_isGranted_70 : decode cX0_isGranted 70 = .ok (.goto 4, 3) := by decide +kernel
theorem dX0_isGranted_73 : decode cX0_isGranted 73 = .ok (.iconst 0, 1) := by decide +kernel
theorem dX0_isGranted_74 : decode cX0_isGranted 74 = .ok (.ireturn, 1) := by decide +kernel
theorem dX0_isGranted_75 : decode cX0_isGranted 75 = .ok (.aload_n 0, 1) := by decide +kernel
theorem dX0_isGranted_76 : decode cX0_isGranted 76 = .ok (.getfield 9, 3) := by decide +kernel
theorem dX0_isGranted_79 : decode cX0_isGranted 79 = .ok (.iload_n 1, 1) := by decide +kernel
theorem dX0_isGranted_80 : decode cX0_isGranted 80 = .ok (.iaload, 1) := by decide +kernel
theorem dX0_isGranted_81 : decode cX0_isGranted 81 = .ok (.iload_n 3, 1) := by decide +kernel
theorem dX0_isGranted_82 : decode cX0_isGranted 82 = .ok (.if_icmp .le 7, 3) := by decide +kernel
theorem dX0_isGranted_85 : decode cX0_isGranted 85 = .ok (.iconst 1, 1) := by decide +kernel
theorem dX0_isGranted_86 : decode cX0_isGranted 86 = .ok (.goto 4, 3) := by decide +kernel
theorem dX0_isGranted_89 : decode cX0_isGranted 89 = .ok (.iconst 0, 1) := by decide +kernel
theorem dX0_isGranted_90 : decode cX0_isGranted 90 = .ok (.ireturn, 1) := by decide +kernel
theorem dX0_isGranted_91 : decode cX0_isGranted 91 = .ok (.iconst 0, 1) := by decide +kernel
theorem dX0_isGranted_92 : decode cX0_isGranted 92 = .ok (.ireturn, 1) := by decide +kernel
theorem dX0_hindrance_0 : decode cX0_hindrance 0 = .ok (.aload_n 0, 1) := by decide +kernel
theorem dX0_hindrance_1 : decode cX0_hindrance 1 = .ok (.iload_n 1, 1) := by decide +kernel
theorem dX0_hindrance_2 : decode cX0_hindrance 2 = .ok (.iload_n 2, 1) := by decide +kernel
theorem dX0_hindrance_3 : decode cX0_hindrance 3 = .ok (.iload_n 3, 1) := by decide +kernel
theorem dX0_hindrance_4 : decode cX0_hindrance 4 = .ok (.iload 4, 2) := by decide +kernel
theorem dX0_hindrance_6 : decode cX0_hindrance 6 = .ok (.invokevirtual 84, 3) := by decide +kernel
theorem dX0_hindrance_9 : decode cX0_hindrance 9 = .ok (.ifCond .ne 5, 3) := by decide +kernel
theorem dX0_hindrance_12 : decode cX0_hindrance 12 = .ok (.iconst (-1), 1) := by decide +kernel
theorem dX0_hindrance_13 : decode cX0_hindrance 13 = .ok (.ireturn, 1) := by decide +kernel
theorem dX0_hindrance_14 : decode cX0_hindrance 14 = .ok (.aload_n 0, 1) := by decide +kernel
theorem dX0_hindrance_15 : decode cX0_hindrance 15 = .ok (.iload_n 1, 1) := by decide +kernel
theorem dX0_hindrance_16 : decode cX0_hindrance 16 = .ok (.iload_n 2, 1) := by decide +kernel
theorem dX0_hindrance_17 : decode cX0_hindrance 17 = .ok (.iload_n 3, 1) := by decide +kernel
theorem dX0_hindrance_18 : decode cX0_hindrance 18 = .ok (.iload 4, 2) := by decide +kernel
theorem dX0_hindrance_20 : decode cX0_hindrance 20 = .ok (.invokevirtual 88, 3) := by decide +kernel
theorem dX0_hindrance_23 : decode cX0_hindrance 23 = .ok (.ifCond .ne 6, 3) := by decide +kernel
theorem dX0_hindrance_26 : decode cX0_hindrance 26 = .ok (.bipush (-2), 2) := by decide +kernel
theorem dX0_hindrance_28 : decode cX0_hindrance 28 = .ok (.ireturn, 1) := by decide +kernel
theorem dX0_hindrance_29 : decode cX0_hindrance 29 = .ok (.aload_n 0, 1) := by decide +kernel
theorem dX0_hindrance_30 : decode cX0_hindrance 30 = .ok (.getfield 49, 3) := by decide +kernel
theorem dX0_hindrance_33 : decode cX0_hindrance 33 = .ok (.bipush 8, 2) := by decide +kernel
theorem dX0_hindrance_35 : decode cX0_hindrance 35 = .ok (.if_icmp .lt 8, 3) := by decide +kernel
theorem dX0_hindrance_38 : decode cX0_hindrance 38 = .ok (.bipush (-3), 2) := by decide +kernel
theorem dX0_hindrance_40 : decode cX0_hindrance 40 = .ok (.goto 4, 3) := by decide +kernel
theorem dX0_hindrance_43 : decode cX0_hindrance 43 = .ok (.iconst 0, 1) := by decide +kernel
theorem dX0_hindrance_44 : decode cX0_hindrance 44 = .ok (.ireturn, 1) := by decide +kernel
theorem dX0_addLoan_0 : decode cX0_addLoan 0 = .ok (.aload_n 0, 1) := by decide +kernel
theorem dX0_addLoan_1 : decode cX0_addLoan 1 = .ok (.getfield 49, 3) := by decide +kernel
theorem dX0_addLoan_4 : decode cX0_addLoan 4 = .ok (.bipush 8, 2) := by decide +kernel
theorem dX0_addLoan_6 : decode cX0_addLoan 6 = .ok (.if_icmp .lt 4, 3) := by decide +kernel
theorem dX0_addLoan_9 : decode cX0_addLoan 9 = .ok (.return_, 1) := by decide +kernel
theorem dX0_addLoan_10 : decode cX0_addLoan 10 = .ok (.aload_n 0, 1) := by decide +kernel
theorem dX0_addLoan_11 : decode cX0_addLoan 11 = .ok (.getfield 18, 3) := by decide +kernel
theorem dX0_addLoan_14 : decode cX0_addLoan 14 = .ok (.aload_n 0, 1) := by decide +kernel
theorem dX0_addLoan_15 : decode cX0_addLoan 15 = .ok (.getfield 49, 3) := by decide +kernel
theorem dX0_addLoan_18 : decode cX0_addLoan 18 = .ok (.iload_n 1, 1) := by decide +kernel
theorem dX0_addLoan_19 : decode cX0_addLoan 19 = .ok (.iastore, 1) := by decide +kernel
theorem dX0_addLoan_20 : decode cX0_addLoan 20 = .ok (.aload_n 0, 1) := by decide +kernel
theorem dX0_addLoan_21 : decode cX0_addLoan 21 = .ok (.getfield 21, 3) := by decide +kernel
theorem dX0_addLoan_24 : decode cX0_addLoan 24 = .ok (.aload_n 0, 1) := by decide +kernel
theorem dX0_addLoan_25 : decode cX0_addLoan 25 = .ok (.getfield 49, 3) := by decide +kernel
theorem dX0_addLoan_28 : decode cX0_addLoan 28 = .ok (.iload_n 2, 1) := by decide +kernel
theorem dX0_addLoan_29 : decode cX0_addLoan 29 = .ok (.iastore, 1) := by decide +kernel
theorem dX0_addLoan_30 : decode cX0_addLoan 30 = .ok (.aload_n 0, 1) := by decide +kernel
theorem dX0_addLoan_31 : decode cX0_addLoan 31 = .ok (.getfield 24, 3) := by decide +kernel
theorem dX0_addLoan_34 : decode cX0_addLoan 34 = .ok (.aload_n 0, 1) := by decide +kernel
theorem dX0_addLoan_35 : decode cX0_addLoan 35 = .ok (.getfield 49, 3) := by decide +kernel
theorem dX0_addLoan_38 : decode cX0_addLoan 38 = .ok (.iload_n 3, 1) := by decide +kernel
theorem dX0_addLoan_39 : decode cX0_addLoan 39 = .ok (.iastore, 1) := by decide +kernel
theorem dX0_addLoan_40 : decode cX0_addLoan 40 = .ok (.aload_n 0, 1) := by decide +kernel
theorem dX0_addLoan_41 : decode cX0_addLoan 41 = .ok (.getfield 27, 3) := by decide +kernel
theorem dX0_addLoan_44 : decode cX0_addLoan 44 = .ok (.aload_n 0, 1) := by decide +kernel
theorem dX0_addLoan_45 : decode cX0_addLoan 45 = .ok (.getfield 49, 3) := by decide +kernel
theorem dX0_addLoan_48 : decode cX0_addLoan 48 = .ok (.iload 4, 2) := by decide +kernel
theorem dX0_addLoan_50 : decode cX0_addLoan 50 = .ok (.iastore, 1) := by decide +kernel
theorem dX0_addLoan_51 : decode cX0_addLoan 51 = .ok (.aload_n 0, 1) := by decide +kernel
theorem dX0_addLoan_52 : decode cX0_addLoan 52 = .ok (.dup, 1) := by decide +kernel
theorem dX0_addLoan_53 : decode cX0_addLoan 53 = .ok (.getfield 49, 3) := by decide +kernel
theorem dX0_addLoan_56 : decode cX0_addLoan 56 = .ok (.iconst 1, 1) := by decide +kernel
theorem dX0_addLoan_57 : decode cX0_addLoan 57 = .ok (.iadd, 1) := by decide +kernel
theorem dX0_addLoan_58 : decode cX0_addLoan 58 = .ok (.putfield 49, 3) := by decide +kernel
theorem dX0_addLoan_61 : decode cX0_addLoan 61 = .ok (.aload_n 0, 1) := by decide +kernel
theorem dX0_addLoan_62 : decode cX0_addLoan 62 = .ok (.getfield 9, 3) := by decide +kernel
theorem dX0_addLoan_65 : decode cX0_addLoan 65 = .ok (.iload_n 1, 1) := by decide +kernel
theorem dX0_addLoan_66 : decode cX0_addLoan 66 = .ok (.dup2, 1) := by decide +kernel
theorem dX0_addLoan_67 : decode cX0_addLoan 67 = .ok (.iaload, 1) := by decide +kernel
theorem dX0_addLoan_68 : decode cX0_addLoan 68 = .ok (.iload_n 3, 1) := by decide +kernel
theorem dX0_addLoan_69 : decode cX0_addLoan 69 = .ok (.isub, 1) := by decide +kernel
theorem dX0_addLoan_70 : decode cX0_addLoan 70 = .ok (.iastore, 1) := by decide +kernel
theorem dX0_addLoan_71 : decode cX0_addLoan 71 = .ok (.aload_n 0, 1) := by decide +kernel
theorem dX0_addLoan_72 : decode cX0_addLoan 72 = .ok (.getfield 9, 3) := by decide +kernel
theorem dX0_addLoan_75 : decode cX0_addLoan 75 = .ok (.iload_n 2, 1) := by decide +kernel
theorem dX0_addLoan_76 : decode cX0_addLoan 76 = .ok (.dup2, 1) := by decide +kernel
theorem dX0_addLoan_77 : decode cX0_addLoan 77 = .ok (.iaload, 1) := by decide +kernel
theorem dX0_addLoan_78 : decode cX0_addLoan 78 = .ok (.iload_n 3, 1) := by decide +kernel
theorem dX0_addLoan_79 : decode cX0_addLoan 79 = .ok (.iadd, 1) := by decide +kernel
theorem dX0_addLoan_80 : decode cX0_addLoan 80 = .ok (.iastore, 1) := by decide +kernel
theorem dX0_addLoan_81 : decode cX0_addLoan 81 = .ok (.return_, 1) := by decide +kernel
theorem dX0_dueOn_0 : decode cX0_dueOn 0 = .ok (.iload_n 1, 1) := by decide +kernel
theorem dX0_dueOn_1 : decode cX0_dueOn 1 = .ok (.aload_n 0, 1) := by decide +kernel
theorem dX0_dueOn_2 : decode cX0_dueOn 2 = .ok (.getfield 36, 3) := by decide +kernel
theorem dX0_dueOn_5 : decode cX0_dueOn 5 = .ok (.iload_n 1, 1) := by decide +kernel
theorem dX0_dueOn_6 : decode cX0_dueOn 6 = .ok (.invokevirtual 91, 3) := by decide +kernel
theorem dX0_dueOn_9 : decode cX0_dueOn 9 = .ok (.iadd, 1) := by decide +kernel
theorem dX0_dueOn_10 : decode cX0_dueOn 10 = .ok (.ireturn, 1) := by decide +kernel
theorem dX0_dueFrom_0 : decode cX0_dueFrom 0 = .ok (.iconst 0, 1) := by decide +kernel
theorem dX0_dueFrom_1 : decode cX0_dueFrom 1 = .ok (.istore_n 3, 1) := by decide +kernel
theorem dX0_dueFrom_2 : decode cX0_dueFrom 2 = .ok (.iconst 0, 1) := by decide +kernel
theorem dX0_dueFrom_3 : decode cX0_dueFrom 3 = .ok (.istore 4, 2) := by decide +kernel
theorem dX0_dueFrom_5 : decode cX0_dueFrom 5 = .ok (.iload 4, 2) := by decide +kernel
theorem dX0_dueFrom_7 : decode cX0_dueFrom 7 = .ok (.aload_n 0, 1) := by decide +kernel
theorem dX0_dueFrom_8 : decode cX0_dueFrom 8 = .ok (.getfield 49, 3) := by decide +kernel
theorem dX0_dueFrom_11 : decode cX0_dueFrom 11 = .ok (.if_icmp .ge 49, 3) := by decide +kernel
theorem dX0_dueFrom_14 : decode cX0_dueFrom 14 = .ok (.iload_n 3, 1) := by decide +kernel
theorem dX0_dueFrom_15 : decode cX0_dueFrom 15 = .ok (.aload_n 0, 1) := by decide +kernel
theorem dX0_dueFrom_16 : decode cX0_dueFrom 16 = .ok (.getfield 21, 3) := by decide +kernel
theorem dX0_dueFrom_19 : decode cX0_dueFrom 19 = .ok (.iload 4, 2) := by decide +kernel
theorem dX0_dueFrom_21 : decode cX0_dueFrom 21 = .ok (.iaload, 1) := by decide +kernel
theorem dX0_dueFrom_22 : decode cX0_dueFrom 22 = .ok (.iload_n 1, 1) := by decide +kernel
theorem dX0_dueFrom_23 : decode cX0_dueFrom 23 = .ok (.if_icmp .ne 28, 3) := by decide +kernel
theorem dX0_dueFrom_26 : decode cX0_dueFrom 26 = .ok (.aload_n 0, 1) := by decide +kernel
theorem dX0_dueFrom_27 : decode cX0_dueFrom 27 = .ok (.getfield 27, 3) := by decide +kernel
theorem dX0_dueFrom_30 : decode cX0_dueFrom 30 = .ok (.iload 4, 2) := by decide +kernel
theorem dX0_dueFrom_32 : decode cX0_dueFrom 32 = .ok (.iaload, 1) := by decide +kernel
theorem dX0_dueFrom_33 : decode cX0_dueFrom 33 = .ok (.iload_n 2, 1) := by decide +kernel
theorem dX0_dueFrom_34 : decode cX0_dueFrom 34 = .ok (.if_icmp .gt 17, 3) := by decide +kernel
theorem dX0_dueFrom_37 : decode cX0_dueFrom 37 = .ok (.aload_n 0, 1) := by decide +kernel
theorem dX0_dueFrom_38 : decode cX0_dueFrom 38 = .ok (.aload_n 0, 1) := by decide +kernel
theorem dX0_dueFrom_39 : decode cX0_dueFrom 39 = .ok (.getfield 24, 3) := by decide +kernel
theorem dX0_dueFrom_42 : decode cX0_dueFrom 42 = .ok (.iload 4, 2) := by decide +kernel
theorem dX0_dueFrom_44 : decode cX0_dueFrom 44 = .ok (.iaload, 1) := by decide +kernel
theorem dX0_dueFrom_45 : decode cX0_dueFrom 45 = .ok (.invokevirtual 80, 3) := by decide +kernel
theorem dX0_dueFrom_48 : decode cX0_dueFrom 48 = .ok (.goto 4, 3) := by decide +kernel
theorem dX0_dueFrom_51 : decode cX0_dueFrom 51 = .ok (.iconst 0, 1) := by decide +kernel
theorem dX0_dueFrom_52 : decode cX0_dueFrom 52 = .ok (.iadd, 1) := by decide +kernel
theorem dX0_dueFrom_53 : decode cX0_dueFrom 53 = .ok (.istore_n 3, 1) := by decide +kernel
theorem dX0_dueFrom_54 : decode cX0_dueFrom 54 = .ok (.iinc 4 1, 3) := by decide +kernel
theorem dX0_dueFrom_57 : decode cX0_dueFrom 57 = .ok (.goto (-52), 3) := by decide +kernel
theorem dX0_dueFrom_60 : decode cX0_dueFrom 60 = .ok (.iload_n 3, 1) := by decide +kernel
theorem dX0_dueFrom_61 : decode cX0_dueFrom 61 = .ok (.ireturn, 1) := by decide +kernel
theorem dX0_weeksToNextDue_0 : decode cX0_weeksToNextDue 0 = .ok (.iload_n 1, 1) := by decide +kernel
theorem dX0_weeksToNextDue_1 : decode cX0_weeksToNextDue 1 = .ok (.istore_n 2, 1) := by decide +kernel
theorem dX0_weeksToNextDue_2 : decode cX0_weeksToNextDue 2 = .ok (.iconst 0, 1) := by decide +kernel
theorem dX0_weeksToNextDue_3 : decode cX0_weeksToNextDue 3 = .ok (.istore_n 3, 1) := by decide +kernel
theorem dX0_weeksToNextDue_4 : decode cX0_weeksToNextDue 4 = .ok (.iload_n 3, 1) := by decide +kernel
theorem dX0_weeksToNextDue_5 : decode cX0_weeksToNextDue 5 = .ok (.aload_n 0, 1) := by decide +kernel
theorem dX0_weeksToNextDue_6 : decode cX0_weeksToNextDue 6 = .ok (.getfield 49, 3) := by decide +kernel
theorem dX0_weeksToNextDue_9 : decode cX0_weeksToNextDue 9 = .ok (.if_icmp .ge 20, 3) := by decide +kernel
theorem dX0_weeksToNextDue_12 : decode cX0_weeksToNextDue 12 = .ok (.iload_n 2, 1) := by decide +kernel
theorem dX0_weeksToNextDue_13 : decode cX0_weeksToNextDue 13 = .ok (.aload_n 0, 1) := by decide +kernel
theorem dX0_weeksToNextDue_14 : decode cX0_weeksToNextDue 14 = .ok (.getfield 27, 3) := by decide +kernel
theorem dX0_weeksToNextDue_17 : decode cX0_weeksToNextDue 17 = .ok (.iload_n 3, 1) := by decide +kernel
theorem dX0_weeksToNextDue_18 : decode cX0_weeksToNextDue 18 = .ok (.iaload, 1) := by decide +kernel
theorem dX0_weeksToNextDue_19 : decode cX0_weeksToNextDue 19 = .ok (.invokestatic 94, 3) := by decide +kernel
theorem dX0_weeksToNextDue_22 : decode cX0_weeksToNextDue 22 = .ok (.istore_n 2, 1) := by decide +kernel
theorem dX0_weeksToNextDue_23 : decode cX0_weeksToNextDue 23 = .ok (.iinc 3 1, 3) := by decide +kernel
theorem dX0_weeksToNextDue_26 : decode cX0_weeksToNextDue 26 = .ok (.goto (-22), 3) := by decide +kernel
theorem dX0_weeksToNextDue_29 : decode cX0_weeksToNextDue 29 = .ok (.iconst 1, 1) := by decide +kernel
theorem dX0_weeksToNextDue_30 : decode cX0_weeksToNextDue 30 = .ok (.iload_n 2, 1) := by decide +kernel
theorem dX0_weeksToNextDue_31 : decode cX0_weeksToNextDue 31 = .ok (.invokestatic 99, 3) := by decide +kernel
theorem dX0_weeksToNextDue_34 : decode cX0_weeksToNextDue 34 = .ok (.ireturn, 1) := by decide +kernel
theorem dX0_pass_0 : decode cX0_pass 0 = .ok (.iconst 0, 1) := by decide +kernel
theorem dX0_pass_1 : decode cX0_pass 1 = .ok (.istore_n 2, 1) := by decide +kernel
theorem dX0_pass_2 : decode cX0_pass 2 = .ok (.iload_n 2, 1) := by decide +kernel
theorem dX0_pass_3 : decode cX0_pass 3 = .ok (.aload_n 0, 1) := by decide +kernel
theorem dX0_pass_4 : decode cX0_pass 4 = .ok (.getfield 36, 3) := by decide +kernel
theorem dX0_pass_7 : decode cX0_pass 7 = .ok (.getfield 40, 3) := by decide +kernel
theorem dX0_pass_10 : decode cX0_pass 10 = .ok (.if_icmp .ge 27, 3) := by decide +kernel
theorem dX0_pass_13 : decode cX0_pass 13 = .ok (.aload_n 0, 1) := by decide +kernel
theorem dX0_pass_14 : decode cX0_pass 14 = .ok (.getfield 9, 3) := by decide +kernel
theorem dX0_pass_17 : decode cX0_pass 17 = .ok (.iload_n 2, 1) := by decide +kernel
theorem dX0_pass_18 : decode cX0_pass 18 = .ok (.iconst 0, 1) := by decide +kernel
theorem dX0_pass_19 : decode cX0_pass 19 = .ok (.aload_n 0, 1) := by decide +kernel
theorem dX0_pass_20 : decode cX0_pass 20 = .ok (.getfield 9, 3) := by decide +kernel
theorem dX0_pass_23 : decode cX0_pass 23 = .ok (.iload_n 2, 1) := by decide +kernel
theorem dX0_pass_24 : decode cX0_pass 24 = .ok (.iaload, 1) := by decide +kernel
theorem dX0_pass_25 : decode cX0_pass 25 = .ok (.iload_n 1, 1) := by decide +kernel
theorem dX0_pass_26 : decode cX0_pass 26 = .ok (.isub, 1) := by decide +kernel
theorem dX0_pass_27 : decode cX0_pass 27 = .ok (.invokestatic 99, 3) := by decide +kernel
theorem dX0_pass_30 : decode cX0_pass 30 = .ok (.iastore, 1) := by decide +kernel
theorem dX0_pass_31 : decode cX0_pass 31 = .ok (.iinc 2 1, 3) := by decide +kernel
theorem dX0_pass_34 : decode cX0_pass 34 = .ok (.goto (-32), 3) := by decide +kernel
theorem dX0_pass_37 : decode cX0_pass 37 = .ok (.iconst 0, 1) := by decide +kernel
theorem dX0_pass_38 : decode cX0_pass 38 = .ok (.istore_n 2, 1) := by decide +kernel
theorem dX0_pass_39 : decode cX0_pass 39 = .ok (.iload_n 2, 1) := by decide +kernel
theorem dX0_pass_40 : decode cX0_pass 40 = .ok (.aload_n 0, 1) := by decide +kernel
theorem dX0_pass_41 : decode cX0_pass 41 = .ok (.getfield 49, 3) := by decide +kernel
theorem dX0_pass_44 : decode cX0_pass 44 = .ok (.if_icmp .ge 19, 3) := by decide +kernel
theorem dX0_pass_47 : decode cX0_pass 47 = .ok (.aload_n 0, 1) := by decide +kernel
theorem dX0_pass_48 : decode cX0_pass 48 = .ok (.getfield 27, 3) := by decide +kernel
theorem dX0_pass_51 : decode cX0_pass 51 = .ok (.iload_n 2, 1) := by decide +kernel
theorem dX0_pass_52 : decode cX0_pass 52 = .ok (.dup2, 1) := by decide +kernel
theorem dX0_pass_53 : decode cX0_pass 53 = .ok (.iaload, 1) := by decide +kernel
theorem dX0_pass_54 : decode cX0_pass 54 = .ok (.iload_n 1, 1) := by decide +kernel
theorem dX0_pass_55 : decode cX0_pass 55 = .ok (.isub, 1) := by decide +kernel
theorem dX0_pass_56 : decode cX0_pass 56 = .ok (.iastore, 1) := by decide +kernel
theorem dX0_pass_57 : decode cX0_pass 57 = .ok (.iinc 2 1, 3) := by decide +kernel
theorem dX0_pass_60 : decode cX0_pass 60 = .ok (.goto (-21), 3) := by decide +kernel
theorem dX0_pass_63 : decode cX0_pass 63 = .ok (.aload_n 0, 1) := by decide +kernel
theorem dX0_pass_64 : decode cX0_pass 64 = .ok (.invokevirtual 102, 3) := by decide +kernel
theorem dX0_pass_67 : decode cX0_pass 67 = .ok (.aload_n 0, 1) := by decide +kernel
theorem dX0_pass_68 : decode cX0_pass 68 = .ok (.invokevirtual 105, 3) := by decide +kernel
theorem dX0_pass_71 : decode cX0_pass 71 = .ok (.aload_n 0, 1) := by decide +kernel
theorem dX0_pass_72 : decode cX0_pass 72 = .ok (.dup, 1) := by decide +kernel
theorem dX0_pass_73 : decode cX0_pass 73 = .ok (.getfield 52, 3) := by decide +kernel
theorem dX0_pass_76 : decode cX0_pass 76 = .ok (.iload_n 1, 1) := by decide +kernel
theorem dX0_pass_77 : decode cX0_pass 77 = .ok (.iadd, 1) := by decide +kernel
theorem dX0_pass_78 : decode cX0_pass 78 = .ok (.putfield 52, 3) := by decide +kernel
theorem dX0_pass_81 : decode cX0_pass 81 = .ok (.return_, 1) := by decide +kernel
theorem dX0_payThoseDue_0 : decode cX0_payThoseDue 0 = .ok (.aload_n 0, 1) := by decide +kernel
theorem dX0_payThoseDue_1 : decode cX0_payThoseDue 1 = .ok (.getfield 36, 3) := by decide +kernel
theorem dX0_payThoseDue_4 : decode cX0_payThoseDue 4 = .ok (.getfield 108, 3) := by decide +kernel
theorem dX0_payThoseDue_7 : decode cX0_payThoseDue 7 = .ok (.iconst 2, 1) := by decide +kernel
theorem dX0_payThoseDue_8 : decode cX0_payThoseDue 8 = .ok (.if_icmp .ne 10, 3) := by decide +kernel
theorem dX0_payThoseDue_11 : decode cX0_payThoseDue 11 = .ok (.aload_n 0, 1) := by decide +kernel
theorem dX0_payThoseDue_12 : decode cX0_payThoseDue 12 = .ok (.invokevirtual 111, 3) := by decide +kernel
theorem dX0_payThoseDue_15 : decode cX0_payThoseDue 15 = .ok (.goto 5, 3) := by decide +kernel
theorem dX0_payThoseDue_18 : decode cX0_payThoseDue 18 = .ok (.bipush (-4), 2) := by decide +kernel
theorem dX0_payThoseDue_20 : decode cX0_payThoseDue 20 = .ok (.istore_n 1, 1) := by decide +kernel
theorem dX0_payThoseDue_21 : decode cX0_payThoseDue 21 = .ok (.iload_n 1, 1) := by decide +kernel
theorem dX0_payThoseDue_22 : decode cX0_payThoseDue 22 = .ok (.bipush (-4), 2) := by decide +kernel
theorem dX0_payThoseDue_24 : decode cX0_payThoseDue 24 = .ok (.if_icmp .eq 8, 3) := by decide +kernel
theorem dX0_payThoseDue_27 : decode cX0_payThoseDue 27 = .ok (.aload_n 0, 1) := by decide +kernel
theorem dX0_payThoseDue_28 : decode cX0_payThoseDue 28 = .ok (.iload_n 1, 1) := by decide +kernel
theorem dX0_payThoseDue_29 : decode cX0_payThoseDue 29 = .ok (.invokevirtual 115, 3) := by decide +kernel
theorem dX0_payThoseDue_32 : decode cX0_payThoseDue 32 = .ok (.iconst 0, 1) := by decide +kernel
theorem dX0_payThoseDue_33 : decode cX0_payThoseDue 33 = .ok (.istore_n 2, 1) := by decide +kernel
theorem dX0_payThoseDue_34 : decode cX0_payThoseDue 34 = .ok (.iload_n 2, 1) := by decide +kernel
theorem dX0_payThoseDue_35 : decode cX0_payThoseDue 35 = .ok (.aload_n 0, 1) := by decide +kernel
theorem dX0_payThoseDue_36 : decode cX0_payThoseDue 36 = .ok (.getfield 49, 3) := by decide +kernel
theorem dX0_payThoseDue_39 : decode cX0_payThoseDue 39 = .ok (.if_icmp .ge 27, 3) := by decide +kernel
theorem dX0_payThoseDue_42 : decode cX0_payThoseDue 42 = .ok (.aload_n 0, 1) := by decide +kernel
theorem dX0_payThoseDue_43 : decode cX0_payThoseDue 43 = .ok (.iload_n 2, 1) := by decide +kernel
theorem dX0_payThoseDue_44 : decode cX0_payThoseDue 44 = .ok (.invokevirtual 119, 3) := by decide +kernel
theorem dX0_payThoseDue_47 : decode cX0_payThoseDue 47 = .ok (.ifCond .eq 13, 3) := by decide +kernel
theorem dX0_payThoseDue_50 : decode cX0_payThoseDue 50 = .ok (.iload_n 2, 1) := by decide +kernel
theorem dX0_payThoseDue_51 : decode cX0_payThoseDue 51 = .ok (.iload_n 1, 1) := by decide +kernel
theorem dX0_payThoseDue_52 : decode cX0_payThoseDue 52 = .ok (.if_icmp .eq 8, 3) := by decide +kernel
theorem dX0_payThoseDue_55 : decode cX0_payThoseDue 55 = .ok (.aload_n 0, 1) := by decide +kernel
theorem dX0_payThoseDue_56 : decode cX0_payThoseDue 56 = .ok (.iload_n 2, 1) := by decide +kernel
theorem dX0_payThoseDue_57 : decode cX0_payThoseDue 57 = .ok (.invokevirtual 115, 3) := by decide +kernel
theorem dX0_payThoseDue_60 : decode cX0_payThoseDue 60 = .ok (.iinc 2 1, 3) := by decide +kernel
theorem dX0_payThoseDue_63 : decode cX0_payThoseDue 63 = .ok (.goto (-29), 3) := by decide +kernel
theorem dX0_payThoseDue_66 : decode cX0_payThoseDue 66 = .ok (.return_, 1) := by decide +kernel
theorem dX0_isDue_0 : decode cX0_isDue 0 = .ok (.aload_n 0, 1) := by decide +kernel
theorem dX0_isDue_1 : decode cX0_isDue 1 = .ok (.getfield 27, 3) := by decide +kernel
theorem dX0_isDue_4 : decode cX0_isDue 4 = .ok (.iload_n 1, 1) := by decide +kernel
theorem dX0_isDue_5 : decode cX0_isDue 5 = .ok (.iaload, 1) := by decide +kernel
theorem dX0_isDue_6 : decode cX0_isDue 6 = .ok (.ifCond .gt 7, 3) := by decide +kernel
theorem dX0_isDue_9 : decode cX0_isDue 9 = .ok (.iconst 1, 1) := by decide +kernel
theorem dX0_isDue_10 : decode cX0_isDue 10 = .ok (.goto 4, 3) := by decide +kernel
theorem dX0_isDue_13 : decode cX0_isDue 13 = .ok (.iconst 0, 1) := by decide +kernel
theorem dX0_isDue_14 : decode cX0_isDue 14 = .ok (.ireturn, 1) := by decide +kernel
theorem dX0_greatestDue_0 : decode cX0_greatestDue 0 = .ok (.bipush (-4), 2) := by decide +kernel
theorem dX0_greatestDue_2 : decode cX0_greatestDue 2 = .ok (.istore_n 1, 1) := by decide +kernel
theorem dX0_greatestDue_3 : decode cX0_greatestDue 3 = .ok (.iconst 0, 1) := by decide +kernel
theorem dX0_greatestDue_4 : decode cX0_greatestDue 4 = .ok (.istore_n 2, 1) := by decide +kernel
theorem dX0_greatestDue_5 : decode cX0_greatestDue 5 = .ok (.iload_n 2, 1) := by decide +kernel
theorem dX0_greatestDue_6 : decode cX0_greatestDue 6 = .ok (.aload_n 0, 1) := by decide +kernel
theorem dX0_greatestDue_7 : decode cX0_greatestDue 7 = .ok (.getfield 49, 3) := by decide +kernel
theorem dX0_greatestDue_10 : decode cX0_greatestDue 10 = .ok (.if_icmp .ge 40, 3) := by decide +kernel
theorem dX0_greatestDue_13 : decode cX0_greatestDue 13 = .ok (.aload_n 0, 1) := by decide +kernel
theorem dX0_greatestDue_14 : decode cX0_greatestDue 14 = .ok (.iload_n 2, 1) := by decide +kernel
theorem dX0_greatestDue_15 : decode cX0_greatestDue 15 = .ok (.invokevirtual 119, 3) := by decide +kernel
theorem dX0_greatestDue_18 : decode cX0_greatestDue 18 = .ok (.ifCond .eq 26, 3) := by decide +kernel
theorem dX0_greatestDue_21 : decode cX0_greatestDue 21 = .ok (.iload_n 1, 1) := by decide +kernel
theorem dX0_greatestDue_22 : decode cX0_greatestDue 22 = .ok (.bipush (-4), 2) := by decide +kernel
theorem dX0_greatestDue_24 : decode cX0_greatestDue 24 = .ok (.if_icmp .eq 18, 3) := by decide +kernel
theorem dX0_greatestDue_27 : decode cX0_greatestDue 27 = .ok (.aload_n 0, 1) := by decide +kernel
theorem dX0_greatestDue_28 : decode cX0_greatestDue 28 = .ok (.getfield 24, 3) := by decide +kernel
theorem dX0_greatestDue_31 : decode cX0_greatestDue 31 = .ok (.iload_n 2, 1) := by decide +kernel
theorem dX0_greatestDue_32 : decode cX0_greatestDue 32 = .ok (.iaload, 1) := by decide +kernel
theorem dX0_greatestDue_33 : decode cX0_greatestDue 33 = .ok (.aload_n 0, 1) := by decide +kernel
theorem dX0_greatestDue_34 : decode cX0_greatestDue 34 = .ok (.getfield 24, 3) := by decide +kernel
theorem dX0_greatestDue_37 : decode cX0_greatestDue 37 = .ok (.iload_n 1, 1) := by decide +kernel
theorem dX0_greatestDue_38 : decode cX0_greatestDue 38 = .ok (.iaload, 1) := by decide +kernel
theorem dX0_greatestDue_39 : decode cX0_greatestDue 39 = .ok (.if_icmp .le 5, 3) := by decide +kernel
theorem dX0_greatestDue_42 : decode cX0_greatestDue 42 = .ok (.iload_n 2, 1) := by decide +kernel
theorem dX0_greatestDue_43 : decode cX0_greatestDue 43 = .ok (.istore_n 1, 1) := by decide +kernel
theorem dX0_greatestDue_44 : decode cX0_greatestDue 44 = .ok (.iinc 2 1, 3) := by decide +kernel
theorem dX0_greatestDue_47 : decode cX0_greatestDue 47 = .ok (.goto (-42), 3) := by decide +kernel
theorem dX0_greatestDue_50 : decode cX0_greatestDue 50 = .ok (.iload_n 1, 1) := by decide +kernel
theorem dX0_greatestDue_51 : decode cX0_greatestDue 51 = .ok (.ireturn, 1) := by decide +kernel
theorem dX0_pay_0 : decode cX0_pay 0 = .ok (.aload_n 0, 1) := by decide +kernel
theorem dX0_pay_1 : decode cX0_pay 1 = .ok (.getfield 18, 3) := by decide +kernel
theorem dX0_pay_4 : decode cX0_pay 4 = .ok (.iload_n 1, 1) := by decide +kernel
theorem dX0_pay_5 : decode cX0_pay 5 = .ok (.iaload, 1) := by decide +kernel
theorem dX0_pay_6 : decode cX0_pay 6 = .ok (.istore_n 2, 1) := by decide +kernel
theorem dX0_pay_7 : decode cX0_pay 7 = .ok (.aload_n 0, 1) := by decide +kernel
theorem dX0_pay_8 : decode cX0_pay 8 = .ok (.getfield 21, 3) := by decide +kernel
theorem dX0_pay_11 : decode cX0_pay 11 = .ok (.iload_n 1, 1) := by decide +kernel
theorem dX0_pay_12 : decode cX0_pay 12 = .ok (.iaload, 1) := by decide +kernel
theorem dX0_pay_13 : decode cX0_pay 13 = .ok (.istore_n 3, 1) := by decide +kernel
theorem dX0_pay_14 : decode cX0_pay 14 = .ok (.aload_n 0, 1) := by decide +kernel
theorem dX0_pay_15 : decode cX0_pay 15 = .ok (.iload_n 2, 1) := by decide +kernel
theorem dX0_pay_16 : decode cX0_pay 16 = .ok (.invokevirtual 65, 3) := by decide +kernel
theorem dX0_pay_19 : decode cX0_pay 19 = .ok (.ifCond .ne 4, 3) := by decide +kernel
theorem dX0_pay_22 : decode cX0_pay 22 = .ok (.return_, 1) := by decide +kernel
theorem dX0_pay_23 : decode cX0_pay 23 = .ok (.aload_n 0, 1) := by decide +kernel
theorem dX0_pay_24 : decode cX0_pay 24 = .ok (.aload_n 0, 1) := by decide +kernel
theorem dX0_pay_25 : decode cX0_pay 25 = .ok (.getfield 24, 3) := by decide +kernel
theorem dX0_pay_28 : decode cX0_pay 28 = .ok (.iload_n 1, 1) := by decide +kernel
theorem dX0_pay_29 : decode cX0_pay 29 = .ok (.iaload, 1) := by decide +kernel
theorem dX0_pay_30 : decode cX0_pay 30 = .ok (.invokevirtual 80, 3) := by decide +kernel
theorem dX0_pay_33 : decode cX0_pay 33 = .ok (.istore 4, 2) := by decide +kernel
theorem dX0_pay_35 : decode cX0_pay 35 = .ok (.aload_n 0, 1) := by decide +kernel
theorem dX0_pay_36 : decode cX0_pay 36 = .ok (.iload_n 3, 1) := by decide +kernel
theorem dX0_pay_37 : decode cX0_pay 37 = .ok (.iload_n 2, 1) := by decide +kernel
theorem dX0_pay_38 : decode cX0_pay 38 = .ok (.aload_n 0, 1) := by decide +kernel
theorem dX0_pay_39 : decode cX0_pay 39 = .ok (.getfield 36, 3) := by decide +kernel
theorem dX0_pay_42 : decode cX0_pay 42 = .ok (.getfield 108, 3) := by decide +kernel
theorem dX0_pay_45 : decode cX0_pay 45 = .ok (.iconst 1, 1) := by decide +kernel
theorem dX0_pay_46 : decode cX0_pay 46 = .ok (.if_icmp .ne 18, 3) := by decide +kernel
theorem dX0_pay_49 : decode cX0_pay 49 = .ok (.aload_n 0, 1) := by decide +kernel
theorem dX0_pay_50 : decode cX0_pay 50 = .ok (.getfield 9, 3) := by decide +kernel
theorem dX0_pay_53 : decode cX0_pay 53 = .ok (.iload_n 3, 1) := by decide +kernel
theorem dX0_pay_54 : decode cX0_pay 54 = .ok (.iaload, 1) := by decide +kernel
theorem dX0_pay_55 : decode cX0_pay 55 = .ok (.iload 4, 2) := by decide +kernel
theorem dX0_pay_57 : decode cX0_pay 57 = .ok (.if_icmp .gt 7, 3) := by decide +kernel
theorem dX0_pay_60 : decode cX0_pay 60 = .ok (.iconst 0, 1) := by decide +kernel
theorem dX0_pay_61 : decode cX0_pay 61 = .ok (.goto 5, 3) := by decide +kernel
theorem dX0_pay_64 : decode cX0_pay 64 = .ok (.iload 4, 2) := by decide +kernel
theorem dX0_pay_66 : decode cX0_pay 66 = .ok (.invokevirtual 122, 3) := by decide +kernel
theorem dX0_pay_69 : decode cX0_pay 69 = .ok (.istore 5, 2) := by decide +kernel
theorem dX0_pay_71 : decode cX0_pay 71 = .ok (.aload_n 0, 1) := by decide +kernel
theorem dX0_pay_72 : decode cX0_pay 72 = .ok (.getfield 36, 3) := by decide +kernel
theorem dX0_pay_75 : decode cX0_pay 75 = .ok (.getfield 108, 3) := by decide +kernel
theorem dX0_pay_78 : decode cX0_pay 78 = .ok (.iconst 3, 1) := by decide +kernel
theorem dX0_pay_79 : decode cX0_pay 79 = .ok (.if_icmp .ne 24, 3) := by decide +kernel
theorem dX0_pay_82 : decode cX0_pay 82 = .ok (.iload 5, 2) := by decide +kernel
theorem dX0_pay_84 : decode cX0_pay 84 = .ok (.aload_n 0, 1) := by decide +kernel
theorem dX0_pay_85 : decode cX0_pay 85 = .ok (.aload_n 0, 1) := by decide +kernel
theorem dX0_pay_86 : decode cX0_pay 86 = .ok (.iload_n 2, 1) := by decide +kernel
theorem dX0_pay_87 : decode cX0_pay 87 = .ok (.iload_n 3, 1) := by decide +kernel
theorem dX0_pay_88 : decode cX0_pay 88 = .ok (.invokevirtual 126, 3) := by decide +kernel
theorem dX0_pay_91 : decode cX0_pay 91 = .ok (.iload_n 2, 1) := by decide +kernel
theorem dX0_pay_92 : decode cX0_pay 92 = .ok (.iload 4, 2) := by decide +kernel
theorem dX0_pay_94 : decode cX0_pay 94 = .ok (.iload 5, 2) := by decide +kernel
theorem dX0_pay_96 : decode cX0_pay 96 = .ok (.isub, 1) := by decide +kernel
theorem dX0_pay_97 : decode cX0_pay 97 = .ok (.invokevirtual 122, 3) := by decide +kernel
theorem dX0_pay_100 : decode cX0_pay 100 = .ok (.iadd, 1) := by decide +kernel
theorem dX0_pay_101 : decode cX0_pay 101 = .ok (.istore 5, 2) := by decide +kernel
theorem dX0_pay_103 : decode cX0_pay 103 = .ok (.aload_n 0, 1) := by decide +kernel
theorem dX0_pay_104 : decode cX0_pay 104 = .ok (.getfield 33, 3) := by decide +kernel
theorem dX0_pay_107 : decode cX0_pay 107 = .ok (.aload_n 0, 1) := by decide +kernel
theorem dX0_pay_108 : decode cX0_pay 108 = .ok (.getfield 30, 3) := by decide +kernel
theorem dX0_pay_111 : decode cX0_pay 111 = .ok (.iload_n 1, 1) := by decide +kernel
theorem dX0_pay_112 : decode cX0_pay 112 = .ok (.iaload, 1) := by decide +kernel
theorem dX0_pay_113 : decode cX0_pay 113 = .ok (.iload 5, 2) := by decide +kernel
theorem dX0_pay_115 : decode cX0_pay 115 = .ok (.iastore, 1) := by decide +kernel
theorem dX0_pay_116 : decode cX0_pay 116 = .ok (.aload_n 0, 1) := by decide +kernel
theorem dX0_pay_117 : decode cX0_pay 117 = .ok (.getfield 15, 3) := by decide +kernel
theorem dX0_pay_120 : decode cX0_pay 120 = .ok (.iload_n 2, 1) := by decide +kernel
theorem dX0_pay_121 : decode cX0_pay 121 = .ok (.dup2, 1) := by decide +kernel
theorem dX0_pay_122 : decode cX0_pay 122 = .ok (.iaload, 1) := by decide +kernel
theorem dX0_pay_123 : decode cX0_pay 123 = .ok (.iload 4, 2) := by decide +kernel
theorem dX0_pay_125 : decode cX0_pay 125 = .ok (.iload 5, 2) := by decide +kernel
theorem dX0_pay_127 : decode cX0_pay 127 = .ok (.isub, 1) := by decide +kernel
theorem dX0_pay_128 : decode cX0_pay 128 = .ok (.iadd, 1) := by decide +kernel
theorem dX0_pay_129 : decode cX0_pay 129 = .ok (.iastore, 1) := by decide +kernel
theorem dX0_pay_130 : decode cX0_pay 130 = .ok (.return_, 1) := by decide +kernel
theorem dX0_give_0 : decode cX0_give 0 = .ok (.aload_n 0, 1) := by decide +kernel
theorem dX0_give_1 : decode cX0_give 1 = .ok (.iload_n 1, 1) := by decide +kernel
theorem dX0_give_2 : decode cX0_give 2 = .ok (.invokevirtual 65, 3) := by decide +kernel
theorem dX0_give_5 : decode cX0_give 5 = .ok (.ifCond .ne 5, 3) := by decide +kernel
theorem dX0_give_8 : decode cX0_give 8 = .ok (.iconst 0, 1) := by decide +kernel
theorem dX0_give_9 : decode cX0_give 9 = .ok (.ireturn, 1) := by decide +kernel
theorem dX0_give_10 : decode cX0_give 10 = .ok (.iload_n 3, 1) := by decide +kernel
theorem dX0_give_11 : decode cX0_give 11 = .ok (.aload_n 0, 1) := by decide +kernel
theorem dX0_give_12 : decode cX0_give 12 = .ok (.getfield 9, 3) := by decide +kernel
theorem dX0_give_15 : decode cX0_give 15 = .ok (.iload_n 1, 1) := by decide +kernel
theorem dX0_give_16 : decode cX0_give 16 = .ok (.iaload, 1) := by decide +kernel
theorem dX0_give_17 : decode cX0_give 17 = .ok (.iconst 1, 1) := by decide +kernel
theorem dX0_give_18 : decode cX0_give 18 = .ok (.isub, 1) := by decide +kernel
theorem dX0_give_19 : decode cX0_give 19 = .ok (.invokestatic 94, 3) := by decide +kernel
theorem dX0_give_22 : decode cX0_give 22 = .ok (.istore 4, 2) := by decide +kernel
theorem dX0_give_24 : decode cX0_give 24 = .ok (.aload_n 0, 1) := by decide +kernel
theorem dX0_give_25 : decode cX0_give 25 = .ok (.getfield 9, 3) := by decide +kernel
theorem dX0_give_28 : decode cX0_give 28 = .ok (.iload_n 1, 1) := by decide +kernel
theorem dX0_give_29 : decode cX0_give 29 = .ok (.dup2, 1) := by decide +kernel
theorem dX0_give_30 : decode cX0_give 30 = .ok (.iaload, 1) := by decide +kernel
theorem dX0_give_31 : decode cX0_give 31 = .ok (.iload 4, 2) := by decide +kernel
theorem dX0_give_33 : decode cX0_give 33 = .ok (.isub, 1) := by decide +kernel
theorem dX0_give_34 : decode cX0_give 34 = .ok (.iastore, 1) := by decide +kernel
theorem dX0_give_35 : decode cX0_give 35 = .ok (.aload_n 0, 1) := by decide +kernel
theorem dX0_give_36 : decode cX0_give 36 = .ok (.getfield 9, 3) := by decide +kernel
theorem dX0_give_39 : decode cX0_give 39 = .ok (.iload_n 2, 1) := by decide +kernel
theorem dX0_give_40 : decode cX0_give 40 = .ok (.dup2, 1) := by decide +kernel
theorem dX0_give_41 : decode cX0_give 41 = .ok (.iaload, 1) := by decide +kernel
theorem dX0_give_42 : decode cX0_give 42 = .ok (.iload 4, 2) := by decide +kernel
theorem dX0_give_44 : decode cX0_give 44 = .ok (.iadd, 1) := by decide +kernel
theorem dX0_give_45 : decode cX0_give 45 = .ok (.iastore, 1) := by decide +kernel
theorem dX0_give_46 : decode cX0_give 46 = .ok (.iload 4, 2) := by decide +kernel
theorem dX0_give_48 : decode cX0_give 48 = .ok (.ireturn, 1) := by decide +kernel
theorem dX0_lowestOther_0 : decode cX0_lowestOther 0 = .ok (.iconst 0, 1) := by decide +kernel
theorem dX0_lowestOther_1 : decode cX0_lowestOther 1 = .ok (.istore_n 3, 1) := by decide +kernel
theorem dX0_lowestOther_2 : decode cX0_lowestOther 2 = .ok (.iload_n 3, 1) := by decide +kernel
theorem dX0_lowestOther_3 : decode cX0_lowestOther 3 = .ok (.aload_n 0, 1) := by decide +kernel
theorem dX0_lowestOther_4 : decode cX0_lowestOther 4 = .ok (.getfield 36, 3) := by decide +kernel
theorem dX0_lowestOther_7 : decode cX0_lowestOther 7 = .ok (.getfield 40, 3) := by decide +kernel
theorem dX0_lowestOther_10 : decode cX0_lowestOther 10 = .ok (.if_icmp .ge 29, 3) := by decide +kernel
theorem dX0_lowestOther_13 : decode cX0_lowestOther 13 = .ok (.iload_n 3, 1) := by decide +kernel
theorem dX0_lowestOther_14 : decode cX0_lowestOther 14 = .ok (.iload_n 1, 1) := by decide +kernel
theorem dX0_lowestOther_15 : decode cX0_lowestOther 15 = .ok (.if_icmp .eq 18, 3) := by decide +kernel
theorem dX0_lowestOther_18 : decode cX0_lowestOther 18 = .ok (.iload_n 3, 1) := by decide +kernel
theorem dX0_lowestOther_19 : decode cX0_lowestOther 19 = .ok (.iload_n 2, 1) := by decide +kernel
theorem dX0_lowestOther_20 : decode cX0_lowestOther 20 = .ok (.if_icmp .eq 13, 3) := by decide +kernel
theorem dX0_lowestOther_23 : decode cX0_lowestOther 23 = .ok (.aload_n 0, 1) := by decide +kernel
theorem dX0_lowestOther_24 : decode cX0_lowestOther 24 = .ok (.iload_n 3, 1) := by decide +kernel
theorem dX0_lowestOther_25 : decode cX0_lowestOther 25 = .ok (.invokevirtual 65, 3) := by decide +kernel
theorem dX0_lowestOther_28 : decode cX0_lowestOther 28 = .ok (.ifCond .eq 5, 3) := by decide +kernel
theorem dX0_lowestOther_31 : decode cX0_lowestOther 31 = .ok (.iload_n 3, 1) := by decide +kernel
theorem dX0_lowestOther_32 : decode cX0_lowestOther 32 = .ok (.ireturn, 1) := by decide +kernel
theorem dX0_lowestOther_33 : decode cX0_lowestOther 33 = .ok (.iinc 3 1, 3) := by decide +kernel
theorem dX0_lowestOther_36 : decode cX0_lowestOther 36 = .ok (.goto (-34), 3) := by decide +kernel
theorem dX0_lowestOther_39 : decode cX0_lowestOther 39 = .ok (.bipush (-4), 2) := by decide +kernel
theorem dX0_lowestOther_41 : decode cX0_lowestOther 41 = .ok (.ireturn, 1) := by decide +kernel
theorem dX0_dropThoseDue_0 : decode cX0_dropThoseDue 0 = .ok (.iconst 0, 1) := by decide +kernel
theorem dX0_dropThoseDue_1 : decode cX0_dropThoseDue 1 = .ok (.istore_n 1, 1) := by decide +kernel
theorem dX0_dropThoseDue_2 : decode cX0_dropThoseDue 2 = .ok (.iconst 0, 1) := by decide +kernel
theorem dX0_dropThoseDue_3 : decode cX0_dropThoseDue 3 = .ok (.istore_n 2, 1) := by decide +kernel
theorem dX0_dropThoseDue_4 : decode cX0_dropThoseDue 4 = .ok (.iload_n 2, 1) := by decide +kernel
theorem dX0_dropThoseDue_5 : decode cX0_dropThoseDue 5 = .ok (.aload_n 0, 1) := by decide +kernel
theorem dX0_dropThoseDue_6 : decode cX0_dropThoseDue 6 = .ok (.getfield 49, 3) := by decide +kernel
theorem dX0_dropThoseDue_9 : decode cX0_dropThoseDue 9 = .ok (.if_icmp .ge 80, 3) := by decide +kernel
theorem dX0_dropThoseDue_12 : decode cX0_dropThoseDue 12 = .ok (.aload_n 0, 1) := by decide +kernel
theorem dX0_dropThoseDue_13 : decode cX0_dropThoseDue 13 = .ok (.iload_n 2, 1) := by decide +kernel
theorem dX0_dropThoseDue_14 : decode cX0_dropThoseDue 14 = .ok (.invokevirtual 119, 3) := by decide +kernel
theorem dX0_dropThoseDue_17 : decode cX0_dropThoseDue 17 = .ok (.ifCond .ne 66, 3) := by decide +kernel
theorem dX0_dropThoseDue_20 : decode cX0_dropThoseDue 20 = .ok (.aload_n 0, 1) := by decide +kernel
theorem dX0_dropThoseDue_21 : decode cX0_dropThoseDue 21 = .ok (.getfield 18, 3) := by decide +kernel
theorem dX0_dropThoseDue_24 : decode cX0_dropThoseDue 24 = .ok (.iload_n 1, 1) := by decide +kernel
theorem dX0_dropThoseDue_25 : decode cX0_dropThoseDue 25 = .ok (.aload_n 0, 1) := by decide +kernel
theorem dX0_dropThoseDue_26 : decode cX0_dropThoseDue 26 = .ok (.getfield 18, 3) := by decide +kernel
theorem dX0_dropThoseDue_29 : decode cX0_dropThoseDue 29 = .ok (.iload_n 2, 1) := by decide +kernel
theorem dX0_dropThoseDue_30 : decode cX0_dropThoseDue 30 = .ok (.iaload, 1) := by decide +kernel
theorem dX0_dropThoseDue_31 : decode cX0_dropThoseDue 31 = .ok (.iastore, 1) := by decide +kernel
theorem dX0_dropThoseDue_32 : decode cX0_dropThoseDue 32 = .ok (.aload_n 0, 1) := by decide +kernel
theorem dX0_dropThoseDue_33 : decode cX0_dropThoseDue 33 = .ok (.getfield 21, 3) := by decide +kernel
theorem dX0_dropThoseDue_36 : decode cX0_dropThoseDue 36 = .ok (.iload_n 1, 1) := by decide +kernel
theorem dX0_dropThoseDue_37 : decode cX0_dropThoseDue 37 = .ok (.aload_n 0, 1) := by decide +kernel
theorem dX0_dropThoseDue_38 : decode cX0_dropThoseDue 38 = .ok (.getfield 21, 3) := by decide +kernel
theorem dX0_dropThoseDue_41 : decode cX0_dropThoseDue 41 = .ok (.iload_n 2, 1) := by decide +kernel
theorem dX0_dropThoseDue_42 : decode cX0_dropThoseDue 42 = .ok (.iaload, 1) := by decide +kernel
theorem dX0_dropThoseDue_43 : decode cX0_dropThoseDue 43 = .ok (.iastore, 1) := by decide +kernel
theorem dX0_dropThoseDue_44 : decode cX0_dropThoseDue 44 = .ok (.aload_n 0, 1) := by decide +kernel
theorem dX0_dropThoseDue_45 : decode cX0_dropThoseDue 45 = .ok (.getfield 24, 3) := by decide +kernel
theorem dX0_dropThoseDue_48 : decode cX0_dropThoseDue 48 = .ok (.iload_n 1, 1) := by decide +kernel
theorem dX0_dropThoseDue_49 : decode cX0_dropThoseDue 49 = .ok (.aload_n 0, 1) := by decide +kernel
theorem dX0_dropThoseDue_50 : decode cX0_dropThoseDue 50 = .ok (.getfield 24, 3) := by decide +kernel
theorem dX0_dropThoseDue_53 : decode cX0_dropThoseDue 53 = .ok (.iload_n 2, 1) := by decide +kernel
theorem dX0_dropThoseDue_54 : decode cX0_dropThoseDue 54 = .ok (.iaload, 1) := by decide +kernel
theorem dX0_dropThoseDue_55 : decode cX0_dropThoseDue 55 = .ok (.iastore, 1) := by decide +kernel
theorem dX0_dropThoseDue_56 : decode cX0_dropThoseDue 56 = .ok (.aload_n 0, 1) := by decide +kernel
theorem dX0_dropThoseDue_57 : decode cX0_dropThoseDue 57 = .ok (.getfield 27, 3) := by decide +kernel
theorem dX0_dropThoseDue_60 : decode cX0_dropThoseDue 60 = .ok (.iload_n 1, 1) := by decide +kernel
theorem dX0_dropThoseDue_61 : decode cX0_dropThoseDue 61 = .ok (.aload_n 0, 1) := by decide +kernel
theorem dX0_dropThoseDue_62 : decode cX0_dropThoseDue 62 = .ok (.getfield 27, 3) := by decide +kernel
theorem dX0_dropThoseDue_65 : decode cX0_dropThoseDue 65 = .ok (.iload_n 2, 1) := by decide +kernel
theorem dX0_dropThoseDue_66 : decode cX0_dropThoseDue 66 = .ok (.iaload, 1) := by decide +kernel
theorem dX0_dropThoseDue_67 : decode cX0_dropThoseDue 67 = .ok (.iastore, 1) := by decide +kernel
theorem dX0_dropThoseDue_68 : decode cX0_dropThoseDue 68 = .ok (.aload_n 0, 1) := by decide +kernel
theorem dX0_dropThoseDue_69 : decode cX0_dropThoseDue 69 = .ok (.getfield 30, 3) := by decide +kernel
theorem dX0_dropThoseDue_72 : decode cX0_dropThoseDue 72 = .ok (.iload_n 1, 1) := by decide +kernel
theorem dX0_dropThoseDue_73 : decode cX0_dropThoseDue 73 = .ok (.aload_n 0, 1) := by decide +kernel
theorem dX0_dropThoseDue_74 : decode cX0_dropThoseDue 74 = .ok (.getfield 30, 3) := by decide +kernel
theorem dX0_dropThoseDue_77 : decode cX0_dropThoseDue 77 = .ok (.iload_n 2, 1) := by decide +kernel
theorem dX0_dropThoseDue_78 : decode cX0_dropThoseDue 78 = .ok (.iaload, 1) := by decide +kernel
theorem dX0_dropThoseDue_79 : decode cX0_dropThoseDue 79 = .ok (.iastore, 1) := by decide +kernel
theorem dX0_dropThoseDue_80 : decode cX0_dropThoseDue 80 = .ok (.iinc 1 1, 3) := by decide +kernel
theorem dX0_dropThoseDue_83 : decode cX0_dropThoseDue 83 = .ok (.iinc 2 1, 3) := by decide +kernel
theorem dX0_dropThoseDue_86 : decode cX0_dropThoseDue 86 = .ok (.goto (-82), 3) := by decide +kernel
theorem dX0_dropThoseDue_89 : decode cX0_dropThoseDue 89 = .ok (.aload_n 0, 1) := by decide +kernel
theorem dX0_dropThoseDue_90 : decode cX0_dropThoseDue 90 = .ok (.iload_n 1, 1) := by decide +kernel
theorem dX0_dropThoseDue_91 : decode cX0_dropThoseDue 91 = .ok (.putfield 49, 3) := by decide +kernel
theorem dX0_dropThoseDue_94 : decode cX0_dropThoseDue 94 = .ok (.return_, 1) := by decide +kernel
theorem dX1_init_0 : decode cX1_init 0 = .ok (.aload_n 0, 1) := by decide +kernel
theorem dX1_init_1 : decode cX1_init 1 = .ok (.invokespecial 3, 3) := by decide +kernel
theorem dX1_init_4 : decode cX1_init 4 = .ok (.aload_n 0, 1) := by decide +kernel
theorem dX1_init_5 : decode cX1_init 5 = .ok (.bipush 6, 2) := by decide +kernel
theorem dX1_init_7 : decode cX1_init 7 = .ok (.newarray .int, 2) := by decide +kernel
theorem dX1_init_9 : decode cX1_init 9 = .ok (.putfield 9, 3) := by decide +kernel
theorem dX1_init_12 : decode cX1_init 12 = .ok (.aload_n 0, 1) := by decide +kernel
theorem dX1_init_13 : decode cX1_init 13 = .ok (.bipush 6, 2) := by decide +kernel
theorem dX1_init_15 : decode cX1_init 15 = .ok (.newarray .int, 2) := by decide +kernel
theorem dX1_init_17 : decode cX1_init 17 = .ok (.putfield 15, 3) := by decide +kernel
theorem dX1_init_20 : decode cX1_init 20 = .ok (.return_, 1) := by decide +kernel
theorem dX1_share_0 : decode cX1_share 0 = .ok (.iconst 0, 1) := by decide +kernel
theorem dX1_share_1 : decode cX1_share 1 = .ok (.istore_n 3, 1) := by decide +kernel
theorem dX1_share_2 : decode cX1_share 2 = .ok (.iconst 0, 1) := by decide +kernel
theorem dX1_share_3 : decode cX1_share 3 = .ok (.istore 4, 2) := by decide +kernel
theorem dX1_share_5 : decode cX1_share 5 = .ok (.iload 4, 2) := by decide +kernel
theorem dX1_share_7 : decode cX1_share 7 = .ok (.bipush 6, 2) := by decide +kernel
theorem dX1_share_9 : decode cX1_share 9 = .ok (.if_icmp .ge 48, 3) := by decide +kernel
theorem dX1_share_12 : decode cX1_share 12 = .ok (.aload_n 0, 1) := by decide +kernel
theorem dX1_share_13 : decode cX1_share 13 = .ok (.getfield 9, 3) := by decide +kernel
theorem dX1_share_16 : decode cX1_share 16 = .ok (.iload 4, 2) := by decide +kernel
theorem dX1_share_18 : decode cX1_share 18 = .ok (.iconst 0, 1) := by decide +kernel
theorem dX1_share_19 : decode cX1_share 19 = .ok (.iastore, 1) := by decide +kernel
theorem dX1_share_20 : decode cX1_share 20 = .ok (.aload_n 0, 1) := by decide +kernel
theorem dX1_share_21 : decode cX1_share 21 = .ok (.getfield 15, 3) := by decide +kernel
theorem dX1_share_24 : decode cX1_share 24 = .ok (.iload 4, 2) := by decide +kernel
theorem dX1_share_26 : decode cX1_share 26 = .ok (.iconst 0, 1) := by decide +kernel
theorem dX1_share_27 : decode cX1_share 27 = .ok (.iastore, 1) := by decide +kernel
theorem dX1_share_28 : decode cX1_share 28 = .ok (.iload_n 3, 1) := by decide +kernel
theorem dX1_share_29 : decode cX1_share 29 = .ok (.aload_n 2, 1) := by decide +kernel
theorem dX1_share_30 : decode cX1_share 30 = .ok (.iload 4, 2) := by decide +kernel
theorem dX1_share_32 : decode cX1_share 32 = .ok (.invokevirtual 18, 3) := by decide +kernel
theorem dX1_share_35 : decode cX1_share 35 = .ok (.ifCond .eq 13, 3) := by decide +kernel
theorem dX1_share_38 : decode cX1_share 38 = .ok (.aload_n 2, 1) := by decide +kernel
theorem dX1_share_39 : decode cX1_share 39 = .ok (.getfield 24, 3) := by decide +kernel
theorem dX1_share_42 : decode cX1_share 42 = .ok (.iload 4, 2) := by decide +kernel
theorem dX1_share_44 : decode cX1_share 44 = .ok (.iaload, 1) := by decide +kernel
theorem dX1_share_45 : decode cX1_share 45 = .ok (.goto 4, 3) := by decide +kernel
theorem dX1_share_48 : decode cX1_share 48 = .ok (.iconst 0, 1) := by decide +kernel
theorem dX1_share_49 : decode cX1_share 49 = .ok (.iadd, 1) := by decide +kernel
theorem dX1_share_50 : decode cX1_share 50 = .ok (.istore_n 3, 1) := by decide +kernel
theorem dX1_share_51 : decode cX1_share 51 = .ok (.iinc 4 1, 3) := by decide +kernel
theorem dX1_share_54 : decode cX1_share 54 = .ok (.goto (-49), 3) := by decide +kernel
theorem dX1_share_57 : decode cX1_share 57 = .ok (.iload_n 3, 1) := by decide +kernel
theorem dX1_share_58 : decode cX1_share 58 = .ok (.iconst 1, 1) := by decide +kernel
theorem dX1_share_59 : decode cX1_share 59 = .ok (.if_icmp .ge 4, 3) := by decide +kernel
theorem dX1_share_62 : decode cX1_share 62 = .ok (.return_, 1) := by decide +kernel
theorem dX1_share_63 : decode cX1_share 63 = .ok (.iload_n 1, 1) := by decide +kernel
theorem dX1_share_64 : decode cX1_share 64 = .ok (.istore 4, 2) := by decide +kernel
theorem dX1_share_66 : decode cX1_share 66 = .ok (.iconst 0, 1) := by decide +kernel
theorem dX1_share_67 : decode cX1_share 67 = .ok (.istore 5, 2) := by decide +kernel
theorem dX1_share_69 : decode cX1_share 69 = .ok (.iload 5, 2) := by decide +kernel
theorem dX1_share_71 : decode cX1_share 71 = .ok (.bipush 6, 2) := by decide +kernel
theorem dX1_share_73 : decode cX1_share 73 = .ok (.if_icmp .ge 66, 3) := by decide +kernel
theorem dX1_share_76 : decode cX1_share 76 = .ok (.aload_n 2, 1) := by decide +kernel
theorem dX1_share_77 : decode cX1_share 77 = .ok (.iload 5, 2) := by decide +kernel
theorem dX1_share_79 : decode cX1_share 79 = .ok (.invokevirtual 18, 3) := by decide +kernel
theorem dX1_share_82 : decode cX1_share 82 = .ok (.ifCond .eq 51, 3) := by decide +kernel
theorem dX1_share_85 : decode cX1_share 85 = .ok (.aload_n 0, 1) := by decide +kernel
theorem dX1_share_86 : decode cX1_share 86 = .ok (.getfield 9, 3) := by decide +kernel
theorem dX1_share_89 : decode cX1_share 89 = .ok (.iload 5, 2) := by decide +kernel
theorem dX1_share_91 : decode cX1_share 91 = .ok (.iload_n 1, 1) := by decide +kernel
theorem dX1_share_92 : decode cX1_share 92 = .ok (.aload_n 2, 1) := by decide +kernel
theorem dX1_share_93 : decode cX1_share 93 = .ok (.getfield 24, 3) := by decide +kernel
theorem dX1_share_96 : decode cX1_share 96 = .ok (.iload 5, 2) := by decide +kernel
theorem dX1_share_98 : decode cX1_share 98 = .ok (.iaload, 1) := by decide +kernel
theorem dX1_share_99 : decode cX1_share 99 = .ok (.imul, 1) := by decide +kernel
theorem dX1_share_100 : decode cX1_share 100 = .ok (.iload_n 3, 1) := by decide +kernel
theorem dX1_share_101 : decode cX1_share 101 = .ok (.idiv, 1) := by decide +kernel
theorem dX1_share_102 : decode cX1_share 102 = .ok (.iastore, 1) := by decide +kernel
theorem dX1_share_103 : decode cX1_share 103 = .ok (.aload_n 0, 1) := by decide +kernel
theorem dX1_share_104 : decode cX1_share 104 = .ok (.getfield 15, 3) := by decide +kernel
theorem dX1_share_107 : decode cX1_share 107 = .ok (.iload 5, 2) := by decide +kernel
theorem dX1_share_109 : decode cX1_share 109 = .ok (.iload_n 1, 1) := by decide +kernel
theorem dX1_share_110 : decode cX1_share 110 = .ok (.aload_n 2, 1) := by decide +kernel
theorem dX1_share_111 : decode cX1_share 111 = .ok (.getfield 24, 3) := by decide +kernel
theorem dX1_share_114 : decode cX1_share 114 = .ok (.iload 5, 2) := by decide +kernel
theorem dX1_share_116 : decode cX1_share 116 = .ok (.iaload, 1) := by decide +kernel
theorem dX1_share_117 : decode cX1_share 117 = .ok (.imul, 1) := by decide +kernel
theorem dX1_share_118 : decode cX1_share 118 = .ok (.iload_n 3, 1) := by decide +kernel
theorem dX1_share_119 : decode cX1_share 119 = .ok (.irem, 1) := by decide +kernel
theorem dX1_share_120 : decode cX1_share 120 = .ok (.iastore, 1) := by decide +kernel
theorem dX1_share_121 : decode cX1_share 121 = .ok (.iload 4, 2) := by decide +kernel
theorem dX1_share_123 : decode cX1_share 123 = .ok (.aload_n 0, 1) := by decide +kernel
theorem dX1_share_124 : decode cX1_share 124 = .ok (.getfield 9, 3) := by decide +kernel
theorem dX1_share_127 : decode cX1_share 127 = .ok (.iload 5, 2) := by decide +kernel
theorem dX1_share_129 : decode cX1_share 129 = .ok (.iaload, 1) := by decide +kernel
theorem dX1_share_130 : decode cX1_share 130 = .ok (.isub, 1) := by decide +kernel
theorem dX1_share_131 : decode cX1_share 131 = .ok (.istore 4, 2) := by decide +kernel
theorem dX1_share_133 : decode cX1_share 133 = .ok (.iinc 5 1, 3) := by decide +kernel
theorem dX1_share_136 : decode cX1_share 136 = .ok (.goto (-67), 3) := by decide +kernel
theorem dX1_share_139 : decode cX1_share 139 = .ok (.iconst 0, 1) := by decide +kernel
theorem dX1_share_140 : decode cX1_share 140 = .ok (.istore 5, 2) := by decide +kernel
theorem dX1_share_142 : decode cX1_share 142 = .ok (.iload 5, 2) := by decide +kernel
theorem dX1_share_144 : decode cX1_share 144 = .ok (.iload 4, 2) := by decide +kernel
theorem dX1_share_146 : decode cX1_share 146 = .ok (.if_icmp .ge 20, 3) := by decide +kernel
theorem dX1_share_149 : decode cX1_share 149 = .ok (.iload 5, 2) := by decide +kernel
theorem dX1_share_151 : decode cX1_share 151 = .ok (.bipush 6, 2) := by decide +kernel
theorem dX1_share_153 : decode cX1_share 153 = .ok (.if_icmp .ge 13, 3) := by decide +kernel
theorem dX1_share_156 : decode cX1_share 156 = .ok (.aload_n 0, 1) := by decide +kernel
theorem dX1_share_157 : decode cX1_share 157 = .ok (.invokevirtual 27, 3) := by decide +kernel
theorem dX1_share_160 : decode cX1_share 160 = .ok (.iinc 5 1, 3) := by decide +kernel
theorem dX1_share_163 : decode cX1_share 163 = .ok (.goto (-21), 3) := by decide +kernel
theorem dX1_share_166 : decode cX1_share 166 = .ok (.return_, 1) := by decide +kernel
theorem dX1_addToGreatestRest_0 : decode cX1_addToGreatestRest 0 = .ok (.iconst 0, 1) := by decide +kernel
theorem dX1_addToGreatestRest_1 : decode cX1_addToGreatestRest 1 = .ok (.istore_n 1, 1) := by decide +kernel
theorem dX1_addToGreatestRest_2 : decode cX1_addToGreatestRest 2 = .ok (.iconst 1, 1) := by decide +kernel
theorem dX1_addToGreatestRest_3 : decode cX1_addToGreatestRest 3 = .ok (.istore_n 2, 1) := by decide +kernel
theorem dX1_addToGreatestRest_4 : decode cX1_addToGreatestRest 4 = .ok (.iload_n 2, 1) := by decide +kernel
theorem dX1_addToGreatestRest_5 : decode cX1_addToGreatestRest 5 = .ok (.bipush 6, 2) := by decide +kernel
theorem dX1_addToGreatestRest_7 : decode cX1_addToGreatestRest 7 = .ok (.if_icmp .ge 30, 3) := by decide +kernel
theorem dX1_addToGreatestRest_10 : decode cX1_addToGreatestRest 10 = .ok (.aload_n 0, 1) := by decide +kernel
theorem dX1_addToGreatestRest_11 : decode cX1_addToGreatestRest 11 = .ok (.getfield 15, 3) := by decide +kernel
theorem dX1_addToGreatestRest_14 : decode cX1_addToGreatestRest 14 = .ok (.iload_n 2, 1) := by decide +kernel
theorem dX1_addToGreatestRest_15 : decode cX1_addToGreatestRest 15 = .ok (.iaload, 1) := by decide +kernel
theorem dX1_addToGreatestRest_16 : decode cX1_addToGreatestRest 16 = .ok (.aload_n 0, 1) := by decide +kernel
theorem dX1_addToGreatestRest_17 : decode cX1_addToGreatestRest 17 = .ok (.getfield 15, 3) := by decide +kernel
theorem dX1_addToGreatestRest_20 : decode cX1_addToGreatestRest 20 = .ok (.iload_n 1, 1) := by decide +kernel
theorem dX1_addToGreatestRest_21 : decode cX1_addToGreatestRest 21 = .ok (.iaload, 1) := by decide +kernel
theorem dX1_addToGreatestRest_22 : decode cX1_addToGreatestRest 22 = .ok (.if_icmp .le 7, 3) := by decide +kernel
theorem dX1_addToGreatestRest_25 : decode cX1_addToGreatestRest 25 = .ok (.iload_n 2, 1) := by decide +kernel
theorem dX1_addToGreatestRest_26 : decode cX1_addToGreatestRest 26 = .ok (.goto 4, 3) := by decide +kernel
theorem dX1_addToGreatestRest_29 : decode cX1_addToGreatestRest 29 = .ok (.iload_n 1, 1) := by decide +kernel
theorem dX1_addToGreatestRest_30 : decode cX1_addToGreatestRest 30 = .ok (.istore_n 1, 1) := by decide +kernel
theorem dX1_addToGreatestRest_31 : decode cX1_addToGreatestRest 31 = .ok (.iinc 2 1, 3) := by decide +kernel
theorem dX1_addToGreatestRest_34 : decode cX1_addToGreatestRest 34 = .ok (.goto (-30), 3) := by decide +kernel
theorem dX1_addToGreatestRest_37 : decode cX1_addToGreatestRest 37 = .ok (.aload_n 0, 1) := by decide +kernel
theorem dX1_addToGreatestRest_38 : decode cX1_addToGreatestRest 38 = .ok (.getfield 9, 3) := by decide +kernel
theorem dX1_addToGreatestRest_41 : decode cX1_addToGreatestRest 41 = .ok (.iload_n 1, 1) := by decide +kernel
theorem dX1_addToGreatestRest_42 : decode cX1_addToGreatestRest 42 = .ok (.dup2, 1) := by decide +kernel
theorem dX1_addToGreatestRest_43 : decode cX1_addToGreatestRest 43 = .ok (.iaload, 1) := by decide +kernel
theorem dX1_addToGreatestRest_44 : decode cX1_addToGreatestRest 44 = .ok (.iconst 1, 1) := by decide +kernel
theorem dX1_addToGreatestRest_45 : decode cX1_addToGreatestRest 45 = .ok (.iadd, 1) := by decide +kernel
theorem dX1_addToGreatestRest_46 : decode cX1_addToGreatestRest 46 = .ok (.iastore, 1) := by decide +kernel
theorem dX1_addToGreatestRest_47 : decode cX1_addToGreatestRest 47 = .ok (.aload_n 0, 1) := by decide +kernel
theorem dX1_addToGreatestRest_48 : decode cX1_addToGreatestRest 48 = .ok (.getfield 15, 3) := by decide +kernel
theorem dX1_addToGreatestRest_51 : decode cX1_addToGreatestRest 51 = .ok (.iload_n 1, 1) := by decide +kernel
theorem dX1_addToGreatestRest_52 : decode cX1_addToGreatestRest 52 = .ok (.iconst 0, 1) := by decide +kernel
theorem dX1_addToGreatestRest_53 : decode cX1_addToGreatestRest 53 = .ok (.iastore, 1) := by decide +kernel
theorem dX1_addToGreatestRest_54 : decode cX1_addToGreatestRest 54 = .ok (.return_, 1) := by decide +kernel
theorem dX1_takeAllOfOne_0 : decode cX1_takeAllOfOne 0 = .ok (.iconst 0, 1) := by decide +kernel
theorem dX1_takeAllOfOne_1 : decode cX1_takeAllOfOne 1 = .ok (.istore_n 2, 1) := by decide +kernel
theorem dX1_takeAllOfOne_2 : decode cX1_takeAllOfOne 2 = .ok (.iload_n 2, 1) := by decide +kernel
theorem dX1_takeAllOfOne_3 : decode cX1_takeAllOfOne 3 = .ok (.bipush 6, 2) := by decide +kernel
theorem dX1_takeAllOfOne_5 : decode cX1_takeAllOfOne 5 = .ok (.if_icmp .ge 34, 3) := by decide +kernel
theorem dX1_takeAllOfOne_8 : decode cX1_takeAllOfOne 8 = .ok (.aload_n 1, 1) := by decide +kernel
theorem dX1_takeAllOfOne_9 : decode cX1_takeAllOfOne 9 = .ok (.iload_n 2, 1) := by decide +kernel
theorem dX1_takeAllOfOne_10 : decode cX1_takeAllOfOne 10 = .ok (.invokevirtual 18, 3) := by decide +kernel
theorem dX1_takeAllOfOne_13 : decode cX1_takeAllOfOne 13 = .ok (.ifCond .eq 20, 3) := by decide +kernel
theorem dX1_takeAllOfOne_16 : decode cX1_takeAllOfOne 16 = .ok (.aload_n 0, 1) := by decide +kernel
theorem dX1_takeAllOfOne_17 : decode cX1_takeAllOfOne 17 = .ok (.getfield 9, 3) := by decide +kernel
theorem dX1_takeAllOfOne_20 : decode cX1_takeAllOfOne 20 = .ok (.iload_n 2, 1) := by decide +kernel
theorem dX1_takeAllOfOne_21 : decode cX1_takeAllOfOne 21 = .ok (.iaload, 1) := by decide +kernel
theorem dX1_takeAllOfOne_22 : decode cX1_takeAllOfOne 22 = .ok (.aload_n 1, 1) := by decide +kernel
theorem dX1_takeAllOfOne_23 : decode cX1_takeAllOfOne 23 = .ok (.getfield 24, 3) := by decide +kernel
theorem dX1_takeAllOfOne_26 : decode cX1_takeAllOfOne 26 = .ok (.iload_n 2, 1) := by decide +kernel
theorem dX1_takeAllOfOne_27 : decode cX1_takeAllOfOne 27 = .ok (.iaload, 1) := by decide +kernel
theorem dX1_takeAllOfOne_28 : decode cX1_takeAllOfOne 28 = .ok (.if_icmp .lt 5, 3) := by decide +kernel
theorem dX1_takeAllOfOne_31 : decode cX1_takeAllOfOne 31 = .ok (.iconst 1, 1) := by decide +kernel
theorem dX1_takeAllOfOne_32 : decode cX1_takeAllOfOne 32 = .ok (.ireturn, 1) := by decide +kernel
theorem dX1_takeAllOfOne_33 : decode cX1_takeAllOfOne 33 = .ok (.iinc 2 1, 3) := by decide +kernel
theorem dX1_takeAllOfOne_36 : decode cX1_takeAllOfOne 36 = .ok (.goto (-34), 3) := by decide +kernel
theorem dX1_takeAllOfOne_39 : decode cX1_takeAllOfOne 39 = .ok (.iconst 0, 1) := by decide +kernel
theorem dX1_takeAllOfOne_40 : decode cX1_takeAllOfOne 40 = .ok (.ireturn, 1) := by decide +kernel
theorem dX2_init_0 : decode cX2_init 0 = .ok (.aload_n 0, 1) := by decide +kernel
theorem dX2_init_1 : decode cX2_init 1 = .ok (.invokespecial 3, 3) := by decide +kernel
theorem dX2_init_4 : decode cX2_init 4 = .ok (.aload_n 0, 1) := by decide +kernel
theorem dX2_init_5 : decode cX2_init 5 = .ok (.bipush 6, 2) := by decide +kernel
theorem dX2_init_7 : decode cX2_init 7 = .ok (.bipush 6, 2) := by decide +kernel
theorem dX2_init_9 : decode cX2_init 9 = .ok (.multianewarray 9 2, 4) := by decide +kernel
theorem dX2_init_13 : decode cX2_init 13 = .ok (.putfield 11, 3) := by decide +kernel
theorem dX2_init_16 : decode cX2_init 16 = .ok (.aload_n 0, 1) := by decide +kernel
theorem dX2_init_17 : decode cX2_init 17 = .ok (.bipush 6, 2) := by decide +kernel
theorem dX2_init_19 : decode cX2_init 19 = .ok (.newarray .int, 2) := by decide +kernel
theorem dX2_init_21 : decode cX2_init 21 = .ok (.putfield 16, 3) := by decide +kernel
theorem dX2_init_24 : decode cX2_init 24 = .ok (.return_, 1) := by decide +kernel
theorem dX2_readFrom_0 : decode cX2_readFrom 0 = .ok (.aload_n 0, 1) := by decide +kernel
theorem dX2_readFrom_1 : decode cX2_readFrom 1 = .ok (.aload_n 1, 1) := by decide +kernel
theorem dX2_readFrom_2 : decode cX2_readFrom 2 = .ok (.getfield 20, 3) := by decide +kernel
theorem dX2_readFrom_5 : decode cX2_readFrom 5 = .ok (.getfield 26, 3) := by decide +kernel
theorem dX2_readFrom_8 : decode cX2_readFrom 8 = .ok (.putfield 32, 3) := by decide +kernel
theorem dX2_readFrom_11 : decode cX2_readFrom 11 = .ok (.iconst 0, 1) := by decide +kernel
theorem dX2_readFrom_12 : decode cX2_readFrom 12 = .ok (.istore_n 2, 1) := by decide +kernel
theorem dX2_readFrom_13 : decode cX2_readFrom 13 = .ok (.iload_n 2, 1) := by decide +kernel
theorem dX2_readFrom_14 : decode cX2_readFrom 14 = .ok (.bipush 6, 2) := by decide +kernel
theorem dX2_readFrom_16 : decode cX2_readFrom 16 = .ok (.if_icmp .ge 32, 3) := by decide +kernel
theorem dX2_readFrom_19 : decode cX2_readFrom 19 = .ok (.iconst 0, 1) := by decide +kernel
theorem dX2_readFrom_20 : decode cX2_readFrom 20 = .ok (.istore_n 3, 1) := by decide +kernel
theorem dX2_readFrom_21 : decode cX2_readFrom 21 = .ok (.iload_n 3, 1) := by decide +kernel
theorem dX2_readFrom_22 : decode cX2_readFrom 22 = .ok (.bipush 6, 2) := by decide +kernel
theorem dX2_readFrom_24 : decode cX2_readFrom 24 = .ok (.if_icmp .ge 18, 3) := by decide +kernel
theorem dX2_readFrom_27 : decode cX2_readFrom 27 = .ok (.aload_n 0, 1) := by decide +kernel
theorem dX2_readFrom_28 : decode cX2_readFrom 28 = .ok (.getfield 11, 3) := by decide +kernel
theorem dX2_readFrom_31 : decode cX2_readFrom 31 = .ok (.iload_n 2, 1) := by decide +kernel
theorem dX2_readFrom_32 : decode cX2_readFrom 32 = .ok (.aaload, 1) := by decide +kernel
theorem dX2_readFrom_33 : decode cX2_readFrom 33 = .ok (.iload_n 3, 1) := by decide +kernel
theorem dX2_readFrom_34 : decode cX2_readFrom 34 = .ok (.iconst 0, 1) := by decide +kernel
theorem dX2_readFrom_35 : decode cX2_readFrom 35 = .ok (.iastore, 1) := by decide +kernel
theorem dX2_readFrom_36 : decode cX2_readFrom 36 = .ok (.iinc 3 1, 3) := by decide +kernel
theorem dX2_readFrom_39 : decode cX2_readFrom 39 = .ok (.goto (-18), 3) := by decide +kernel
theorem dX2_readFrom_42 : decode cX2_readFrom 42 = .ok (.iinc 2 1, 3) := by decide +kernel
theorem dX2_readFrom_45 : decode cX2_readFrom 45 = .ok (.goto (-32), 3) := by decide +kernel
theorem dX2_readFrom_48 : decode cX2_readFrom 48 = .ok (.iconst 0, 1) := by decide +kernel
theorem dX2_readFrom_49 : decode cX2_readFrom 49 = .ok (.istore_n 2, 1) := by decide +kernel
theorem dX2_readFrom_50 : decode cX2_readFrom 50 = .ok (.iload_n 2, 1) := by decide +kernel
theorem dX2_readFrom_51 : decode cX2_readFrom 51 = .ok (.aload_n 1, 1) := by decide +kernel
theorem dX2_readFrom_52 : decode cX2_readFrom 52 = .ok (.getfield 33, 3) := by decide +kernel
theorem dX2_readFrom_55 : decode cX2_readFrom 55 = .ok (.if_icmp .ge 36, 3) := by decide +kernel
theorem dX2_readFrom_58 : decode cX2_readFrom 58 = .ok (.aload_n 0, 1) := by decide +kernel
theorem dX2_readFrom_59 : decode cX2_readFrom 59 = .ok (.getfield 11, 3) := by decide +kernel
theorem dX2_readFrom_62 : decode cX2_readFrom 62 = .ok (.aload_n 1, 1) := by decide +kernel
theorem dX2_readFrom_63 : decode cX2_readFrom 63 = .ok (.getfield 36, 3) := by decide +kernel
theorem dX2_readFrom_66 : decode cX2_readFrom 66 = .ok (.iload_n 2, 1) := by decide +kernel
theorem dX2_readFrom_67 : decode cX2_readFrom 67 = .ok (.iaload, 1) := by decide +kernel
theorem dX2_readFrom_68 : decode cX2_readFrom 68 = .ok (.aaload, 1) := by decide +kernel
theorem dX2_readFrom_69 : decode cX2_readFrom 69 = .ok (.aload_n 1, 1) := by decide +kernel
theorem dX2_readFrom_70 : decode cX2_readFrom 70 = .ok (.getfield 39, 3) := by decide +kernel
theorem dX2_readFrom_73 : decode cX2_readFrom 73 = .ok (.iload_n 2, 1) := by decide +kernel
theorem dX2_readFrom_74 : decode cX2_readFrom 74 = .ok (.iaload, 1) := by decide +kernel
theorem dX2_readFrom_75 : decode cX2_readFrom 75 = .ok (.dup2, 1) := by decide +kernel
theorem dX2_readFrom_76 : decode cX2_readFrom 76 = .ok (.iaload, 1) := by decide +kernel
theorem dX2_readFrom_77 : decode cX2_readFrom 77 = .ok (.aload_n 1, 1) := by decide +kernel
theorem dX2_readFrom_78 : decode cX2_readFrom 78 = .ok (.getfield 42, 3) := by decide +kernel
theorem dX2_readFrom_81 : decode cX2_readFrom 81 = .ok (.iload_n 2, 1) := by decide +kernel
theorem dX2_readFrom_82 : decode cX2_readFrom 82 = .ok (.iaload, 1) := by decide +kernel
theorem dX2_readFrom_83 : decode cX2_readFrom 83 = .ok (.iadd, 1) := by decide +kernel
theorem dX2_readFrom_84 : decode cX2_readFrom 84 = .ok (.iastore, 1) := by decide +kernel
theorem dX2_readFrom_85 : decode cX2_readFrom 85 = .ok (.iinc 2 1, 3) := by decide +kernel
theorem dX2_readFrom_88 : decode cX2_readFrom 88 = .ok (.goto (-38), 3) := by decide +kernel
theorem dX2_readFrom_91 : decode cX2_readFrom 91 = .ok (.return_, 1) := by decide +kernel
theorem dX2_clearAll_0 : decode cX2_clearAll 0 = .ok (.iconst 0, 1) := by decide +kernel
theorem dX2_clearAll_1 : decode cX2_clearAll 1 = .ok (.istore_n 1, 1) := by decide +kernel
theorem dX2_clearAll_2 : decode cX2_clearAll 2 = .ok (.iconst 0, 1) := by decide +kernel
theorem dX2_clearAll_3 : decode cX2_clearAll 3 = .ok (.istore_n 2, 1) := by decide +kernel
theorem dX2_clearAll_4 : decode cX2_clearAll 4 = .ok (.iload_n 2, 1) := by decide +kernel
theorem dX2_clearAll_5 : decode cX2_clearAll 5 = .ok (.bipush 8, 2) := by decide +kernel
theorem dX2_clearAll_7 : decode cX2_clearAll 7 = .ok (.if_icmp .ge 22, 3) := by decide +kernel
theorem dX2_clearAll_10 : decode cX2_clearAll 10 = .ok (.aload_n 0, 1) := by decide +kernel
theorem dX2_clearAll_11 : decode cX2_clearAll 11 = .ok (.invokevirtual 45, 3) := by decide +kernel
theorem dX2_clearAll_14 : decode cX2_clearAll 14 = .ok (.istore_n 3, 1) := by decide +kernel
theorem dX2_clearAll_15 : decode cX2_clearAll 15 = .ok (.iload_n 1, 1) := by decide +kernel
theorem dX2_clearAll_16 : decode cX2_clearAll 16 = .ok (.aload_n 0, 1) := by decide +kernel
theorem dX2_clearAll_17 : decode cX2_clearAll 17 = .ok (.iload_n 3, 1) := by decide +kernel
theorem dX2_clearAll_18 : decode cX2_clearAll 18 = .ok (.invokevirtual 49, 3) := by decide +kernel
theorem dX2_clearAll_21 : decode cX2_clearAll 21 = .ok (.iadd, 1) := by decide +kernel
theorem dX2_clearAll_22 : decode cX2_clearAll 22 = .ok (.istore_n 1, 1) := by decide +kernel
theorem dX2_clearAll_23 : decode cX2_clearAll 23 = .ok (.iinc 2 1, 3) := by decide +kernel
theorem dX2_clearAll_26 : decode cX2_clearAll 26 = .ok (.goto (-22), 3) := by decide +kernel
theorem dX2_clearAll_29 : decode cX2_clearAll 29 = .ok (.iload_n 1, 1) := by decide +kernel
theorem dX2_clearAll_30 : decode cX2_clearAll 30 = .ok (.ireturn, 1) := by decide +kernel
theorem dX2_findShortest_0 : decode cX2_findShortest 0 = .ok (.iconst 2, 1) := by decide +kernel
theorem dX2_findShortest_1 : decode cX2_findShortest 1 = .ok (.istore_n 1, 1) := by decide +kernel
theorem dX2_findShortest_2 : decode cX2_findShortest 2 = .ok (.iload_n 1, 1) := by decide +kernel
theorem dX2_findShortest_3 : decode cX2_findShortest 3 = .ok (.aload_n 0, 1) := by decide +kernel
theorem dX2_findShortest_4 : decode cX2_findShortest 4 = .ok (.getfield 32, 3) := by decide +kernel
theorem dX2_findShortest_7 : decode cX2_findShortest 7 = .ok (.if_icmp .gt 43, 3) := by decide +kernel
theorem dX2_findShortest_10 : decode cX2_findShortest 10 = .ok (.iconst 0, 1) := by decide +kernel
theorem dX2_findShortest_11 : decode cX2_findShortest 11 = .ok (.istore_n 2, 1) := by decide +kernel
theorem dX2_findShortest_12 : decode cX2_findShortest 12 = .ok (.iload_n 2, 1) := by decide +kernel
theorem dX2_findShortest_13 : decode cX2_findShortest 13 = .ok (.aload_n 0, 1) := by decide +kernel
theorem dX2_findShortest_14 : decode cX2_findShortest 14 = .ok (.getfield 32, 3) := by decide +kernel
theorem dX2_findShortest_17 : decode cX2_findShortest 17 = .ok (.if_icmp .ge 27, 3) := by decide +kernel
theorem dX2_findShortest_20 : decode cX2_findShortest 20 = .ok (.aload_n 0, 1) := by decide +kernel
theorem dX2_findShortest_21 : decode cX2_findShortest 21 = .ok (.getfield 16, 3) := by decide +kernel
theorem dX2_findShortest_24 : decode cX2_findShortest 24 = .ok (.iconst 0, 1) := by decide +kernel
theorem dX2_findShortest_25 : decode cX2_findShortest 25 = .ok (.iload_n 2, 1) := by decide +kernel
theorem dX2_findShortest_26 : decode cX2_findShortest 26 = .ok (.iastore, 1) := by decide +kernel
theorem dX2_findShortest_27 : decode cX2_findShortest 27 = .ok (.aload_n 0, 1) := by decide +kernel
theorem dX2_findShortest_28 : decode cX2_findShortest 28 = .ok (.iconst 1, 1) := by decide +kernel
theorem dX2_findShortest_29 : decode cX2_findShortest 29 = .ok (.iload_n 1, 1) := by decide +kernel
theorem dX2_findShortest_30 : decode cX2_findShortest 30 = .ok (.invokevirtual 53, 3) := by decide +kernel
theorem dX2_findShortest_33 : decode cX2_findShortest 33 = .ok (.ifCond .eq 5, 3) := by decide +kernel
theorem dX2_findShortest_36 : decode cX2_findShortest 36 = .ok (.iload_n 1, 1) := by decide +kernel
theorem dX2_findShortest_37 : decode cX2_findShortest 37 = .ok (.ireturn, 1) := by decide +kernel
theorem dX2_findShortest_38 : decode cX2_findShortest 38 = .ok (.iinc 2 1, 3) := by decide +kernel
theorem dX2_findShortest_41 : decode cX2_findShortest 41 = .ok (.goto (-29), 3) := by decide +kernel
theorem dX2_findShortest_44 : decode cX2_findShortest 44 = .ok (.iinc 1 1, 3) := by decide +kernel
theorem dX2_findShortest_47 : decode cX2_findShortest 47 = .ok (.goto (-45), 3) := by decide +kernel
theorem dX2_findShortest_50 : decode cX2_findShortest 50 = .ok (.iconst 0, 1) := by decide +kernel
theorem dX2_findShortest_51 : decode cX2_findShortest 51 = .ok (.ireturn, 1) := by decide +kernel
theorem dX2_closes_0 : decode cX2_closes 0 = .ok (.iload_n 1, 1) := by decide +kernel
theorem dX2_closes_1 : decode cX2_closes 1 = .ok (.iconst 1, 1) := by decide +kernel
theorem dX2_closes_2 : decode cX2_closes 2 = .ok (.bipush 6, 2) := by decide +kernel
theorem dX2_closes_4 : decode cX2_closes 4 = .ok (.invokestatic 57, 3) := by decide +kernel
theorem dX2_closes_7 : decode cX2_closes 7 = .ok (.ifCond .ne 5, 3) := by decide +kernel
theorem dX2_closes_10 : decode cX2_closes 10 = .ok (.iconst 0, 1) := by decide +kernel
theorem dX2_closes_11 : decode cX2_closes 11 = .ok (.ireturn, 1) := by decide +kernel
theorem dX2_closes_12 : decode cX2_closes 12 = .ok (.aload_n 0, 1) := by decide +kernel
theorem dX2_closes_13 : decode cX2_closes 13 = .ok (.getfield 16, 3) := by decide +kernel
theorem dX2_closes_16 : decode cX2_closes 16 = .ok (.iload_n 1, 1) := by decide +kernel
theorem dX2_closes_17 : decode cX2_closes 17 = .ok (.iconst 1, 1) := by decide +kernel
theorem dX2_closes_18 : decode cX2_closes 18 = .ok (.isub, 1) := by decide +kernel
theorem dX2_closes_19 : decode cX2_closes 19 = .ok (.iaload, 1) := by decide +kernel
theorem dX2_closes_20 : decode cX2_closes 20 = .ok (.istore_n 3, 1) := by decide +kernel
theorem dX2_closes_21 : decode cX2_closes 21 = .ok (.iload_n 1, 1) := by decide +kernel
theorem dX2_closes_22 : decode cX2_closes 22 = .ok (.iload_n 2, 1) := by decide +kernel
theorem dX2_closes_23 : decode cX2_closes 23 = .ok (.if_icmp .ge 9, 3) := by decide +kernel
theorem dX2_closes_26 : decode cX2_closes 26 = .ok (.iload_n 1, 1) := by decide +kernel
theorem dX2_closes_27 : decode cX2_closes 27 = .ok (.bipush 6, 2) := by decide +kernel
theorem dX2_closes_29 : decode cX2_closes 29 = .ok (.if_icmp .lt 25, 3) := by decide +kernel
theorem dX2_closes_32 : decode cX2_closes 32 = .ok (.aload_n 0, 1) := by decide +kernel
theorem dX2_closes_33 : decode cX2_closes 33 = .ok (.getfield 11, 3) := by decide +kernel
theorem dX2_closes_36 : decode cX2_closes 36 = .ok (.iload_n 3, 1) := by decide +kernel
theorem dX2_closes_37 : decode cX2_closes 37 = .ok (.aaload, 1) := by decide +kernel
theorem dX2_closes_38 : decode cX2_closes 38 = .ok (.aload_n 0, 1) := by decide +kernel
theorem dX2_closes_39 : decode cX2_closes 39 = .ok (.getfield 16, 3) := by decide +kernel
theorem dX2_closes_42 : decode cX2_closes 42 = .ok (.iconst 0, 1) := by decide +kernel
theorem dX2_closes_43 : decode cX2_closes 43 = .ok (.iaload, 1) := by decide +kernel
theorem dX2_closes_44 : decode cX2_closes 44 = .ok (.iaload, 1) := by decide +kernel
theorem dX2_closes_45 : decode cX2_closes 45 = .ok (.ifCond .le 7, 3) := by decide +kernel
theorem dX2_closes_48 : decode cX2_closes 48 = .ok (.iconst 1, 1) := by decide +kernel
theorem dX2_closes_49 : decode cX2_closes 49 = .ok (.goto 4, 3) := by decide +kernel
theorem dX2_closes_52 : decode cX2_closes 52 = .ok (.iconst 0, 1) := by decide +kernel
theorem dX2_closes_53 : decode cX2_closes 53 = .ok (.ireturn, 1) := by decide +kernel
theorem dX2_closes_54 : decode cX2_closes 54 = .ok (.aload_n 0, 1) := by decide +kernel
theorem dX2_closes_55 : decode cX2_closes 55 = .ok (.getfield 16, 3) := by decide +kernel
theorem dX2_closes_58 : decode cX2_closes 58 = .ok (.iconst 0, 1) := by decide +kernel
theorem dX2_closes_59 : decode cX2_closes 59 = .ok (.iaload, 1) := by decide +kernel
theorem dX2_closes_60 : decode cX2_closes 60 = .ok (.iconst 1, 1) := by decide +kernel
theorem dX2_closes_61 : decode cX2_closes 61 = .ok (.iadd, 1) := by decide +kernel
theorem dX2_closes_62 : decode cX2_closes 62 = .ok (.istore 4, 2) := by decide +kernel
theorem dX2_closes_64 : decode cX2_closes 64 = .ok (.iload 4, 2) := by decide +kernel
theorem dX2_closes_66 : decode cX2_closes 66 = .ok (.aload_n 0, 1) := by decide +kernel
theorem dX2_closes_67 : decode cX2_closes 67 = .ok (.getfield 32, 3) := by decide +kernel
theorem dX2_closes_70 : decode cX2_closes 70 = .ok (.if_icmp .ge 52, 3) := by decide +kernel
theorem dX2_closes_73 : decode cX2_closes 73 = .ok (.aload_n 0, 1) := by decide +kernel
theorem dX2_closes_74 : decode cX2_closes 74 = .ok (.getfield 11, 3) := by decide +kernel
theorem dX2_closes_77 : decode cX2_closes 77 = .ok (.iload_n 3, 1) := by decide +kernel
theorem dX2_closes_78 : decode cX2_closes 78 = .ok (.aaload, 1) := by decide +kernel
theorem dX2_closes_79 : decode cX2_closes 79 = .ok (.iload 4, 2) := by decide +kernel
theorem dX2_closes_81 : decode cX2_closes 81 = .ok (.iaload, 1) := by decide +kernel
theorem dX2_closes_82 : decode cX2_closes 82 = .ok (.ifCond .le 34, 3) := by decide +kernel
theorem dX2_closes_85 : decode cX2_closes 85 = .ok (.aload_n 0, 1) := by decide +kernel
theorem dX2_closes_86 : decode cX2_closes 86 = .ok (.iload 4, 2) := by decide +kernel
theorem dX2_closes_88 : decode cX2_closes 88 = .ok (.iload_n 1, 1) := by decide +kernel
theorem dX2_closes_89 : decode cX2_closes 89 = .ok (.invokevirtual 61, 3) := by decide +kernel
theorem dX2_closes_92 : decode cX2_closes 92 = .ok (.ifCond .ne 24, 3) := by decide +kernel
theorem dX2_closes_95 : decode cX2_closes 95 = .ok (.aload_n 0, 1) := by decide +kernel
theorem dX2_closes_96 : decode cX2_closes 96 = .ok (.getfield 16, 3) := by decide +kernel
theorem dX2_closes_99 : decode cX2_closes 99 = .ok (.iload_n 1, 1) := by decide +kernel
theorem dX2_closes_100 : decode cX2_closes 100 = .ok (.iload 4, 2) := by decide +kernel
theorem dX2_closes_102 : decode cX2_closes 102 = .ok (.iastore, 1) := by decide +kernel
theorem dX2_closes_103 : decode cX2_closes 103 = .ok (.aload_n 0, 1) := by decide +kernel
theorem dX2_closes_104 : decode cX2_closes 104 = .ok (.iload_n 1, 1) := by decide +kernel
theorem dX2_closes_105 : decode cX2_closes 105 = .ok (.iconst 1, 1) := by decide +kernel
theorem dX2_closes_106 : decode cX2_closes 106 = .ok (.iadd, 1) := by decide +kernel
theorem dX2_closes_107 : decode cX2_closes 107 = .ok (.iload_n 2, 1) := by decide +kernel
theorem dX2_closes_108 : decode cX2_closes 108 = .ok (.invokevirtual 53, 3) := by decide +kernel
theorem dX2_closes_111 : decode cX2_closes 111 = .ok (.ifCond .eq 5, 3) := by decide +kernel
theorem dX2_closes_114 : decode cX2_closes 114 = .ok (.iconst 1, 1) := by decide +kernel
theorem dX2_closes_115 : decode cX2_closes 115 = .ok (.ireturn, 1) := by decide +kernel
theorem dX2_closes_116 : decode cX2_closes 116 = .ok (.iinc 4 1, 3) := by decide +kernel
theorem dX2_closes_119 : decode cX2_closes 119 = .ok (.goto (-55), 3) := by decide +kernel
theorem dX2_closes_122 : decode cX2_closes 122 = .ok (.iconst 0, 1) := by decide +kernel
theorem dX2_closes_123 : decode cX2_closes 123 = .ok (.ireturn, 1) := by decide +kernel
theorem dX2_isPlaced_0 : decode cX2_isPlaced 0 = .ok (.iconst 0, 1) := by decide +kernel
theorem dX2_isPlaced_1 : decode cX2_isPlaced 1 = .ok (.istore_n 3, 1) := by decide +kernel
theorem dX2_isPlaced_2 : decode cX2_isPlaced 2 = .ok (.iload_n 3, 1) := by decide +kernel
theorem dX2_isPlaced_3 : decode cX2_isPlaced 3 = .ok (.iload_n 2, 1) := by decide +kernel
theorem dX2_isPlaced_4 : decode cX2_isPlaced 4 = .ok (.if_icmp .ge 21, 3) := by decide +kernel
theorem dX2_isPlaced_7 : decode cX2_isPlaced 7 = .ok (.aload_n 0, 1) := by decide +kernel
theorem dX2_isPlaced_8 : decode cX2_isPlaced 8 = .ok (.getfield 16, 3) := by decide +kernel
theorem dX2_isPlaced_11 : decode cX2_isPlaced 11 = .ok (.iload_n 3, 1) := by decide +kernel
theorem dX2_isPlaced_12 : decode cX2_isPlaced 12 = .ok (.iaload, 1) := by decide +kernel
theorem dX2_isPlaced_13 : decode cX2_isPlaced 13 = .ok (.iload_n 1, 1) := by decide +kernel
theorem dX2_isPlaced_14 : decode cX2_isPlaced 14 = .ok (.if_icmp .ne 5, 3) := by decide +kernel
theorem dX2_isPlaced_17 : decode cX2_isPlaced 17 = .ok (.iconst 1, 1) := by decide +kernel
theorem dX2_isPlaced_18 : decode cX2_isPlaced 18 = .ok (.ireturn, 1) := by decide +kernel
theorem dX2_isPlaced_19 : decode cX2_isPlaced 19 = .ok (.iinc 3 1, 3) := by decide +kernel
theorem dX2_isPlaced_22 : decode cX2_isPlaced 22 = .ok (.goto (-20), 3) := by decide +kernel
theorem dX2_isPlaced_25 : decode cX2_isPlaced 25 = .ok (.iconst 0, 1) := by decide +kernel
theorem dX2_isPlaced_26 : decode cX2_isPlaced 26 = .ok (.ireturn, 1) := by decide +kernel
theorem dX2_clear_0 : decode cX2_clear 0 = .ok (.iload_n 1, 1) := by decide +kernel
theorem dX2_clear_1 : decode cX2_clear 1 = .ok (.iconst 2, 1) := by decide +kernel
theorem dX2_clear_2 : decode cX2_clear 2 = .ok (.bipush 6, 2) := by decide +kernel
theorem dX2_clear_4 : decode cX2_clear 4 = .ok (.invokestatic 57, 3) := by decide +kernel
theorem dX2_clear_7 : decode cX2_clear 7 = .ok (.ifCond .ne 5, 3) := by decide +kernel
theorem dX2_clear_10 : decode cX2_clear 10 = .ok (.iconst 0, 1) := by decide +kernel
theorem dX2_clear_11 : decode cX2_clear 11 = .ok (.ireturn, 1) := by decide +kernel
theorem dX2_clear_12 : decode cX2_clear 12 = .ok (.ldc 64, 2) := by decide +kernel
theorem dX2_clear_14 : decode cX2_clear 14 = .ok (.istore_n 2, 1) := by decide +kernel
theorem dX2_clear_15 : decode cX2_clear 15 = .ok (.iconst 0, 1) := by decide +kernel
theorem dX2_clear_16 : decode cX2_clear 16 = .ok (.istore_n 3, 1) := by decide +kernel
theorem dX2_clear_17 : decode cX2_clear 17 = .ok (.iload_n 3, 1) := by decide +kernel
theorem dX2_clear_18 : decode cX2_clear 18 = .ok (.iload_n 1, 1) := by decide +kernel
theorem dX2_clear_19 : decode cX2_clear 19 = .ok (.if_icmp .ge 36, 3) := by decide +kernel
theorem dX2_clear_22 : decode cX2_clear 22 = .ok (.iload_n 2, 1) := by decide +kernel
theorem dX2_clear_23 : decode cX2_clear 23 = .ok (.aload_n 0, 1) := by decide +kernel
theorem dX2_clear_24 : decode cX2_clear 24 = .ok (.getfield 11, 3) := by decide +kernel
theorem dX2_clear_27 : decode cX2_clear 27 = .ok (.aload_n 0, 1) := by decide +kernel
theorem dX2_clear_28 : decode cX2_clear 28 = .ok (.getfield 16, 3) := by decide +kernel
theorem dX2_clear_31 : decode cX2_clear 31 = .ok (.iload_n 3, 1) := by decide +kernel
theorem dX2_clear_32 : decode cX2_clear 32 = .ok (.iaload, 1) := by decide +kernel
theorem dX2_clear_33 : decode cX2_clear 33 = .ok (.aaload, 1) := by decide +kernel
theorem dX2_clear_34 : decode cX2_clear 34 = .ok (.aload_n 0, 1) := by decide +kernel
theorem dX2_clear_35 : decode cX2_clear 35 = .ok (.getfield 16, 3) := by decide +kernel
theorem dX2_clear_38 : decode cX2_clear 38 = .ok (.iload_n 3, 1) := by decide +kernel
theorem dX2_clear_39 : decode cX2_clear 39 = .ok (.iconst 1, 1) := by decide +kernel
theorem dX2_clear_40 : decode cX2_clear 40 = .ok (.iadd, 1) := by decide +kernel
theorem dX2_clear_41 : decode cX2_clear 41 = .ok (.iload_n 1, 1) := by decide +kernel
theorem dX2_clear_42 : decode cX2_clear 42 = .ok (.irem, 1) := by decide +kernel
theorem dX2_clear_43 : decode cX2_clear 43 = .ok (.iaload, 1) := by decide +kernel
theorem dX2_clear_44 : decode cX2_clear 44 = .ok (.iaload, 1) := by decide +kernel
theorem dX2_clear_45 : decode cX2_clear 45 = .ok (.invokestatic 65, 3) := by decide +kernel
theorem dX2_clear_48 : decode cX2_clear 48 = .ok (.istore_n 2, 1) := by decide +kernel
theorem dX2_clear_49 : decode cX2_clear 49 = .ok (.iinc 3 1, 3) := by decide +kernel
theorem dX2_clear_52 : decode cX2_clear 52 = .ok (.goto (-35), 3) := by decide +kernel
theorem dX2_clear_55 : decode cX2_clear 55 = .ok (.iconst 0, 1) := by decide +kernel
theorem dX2_clear_56 : decode cX2_clear 56 = .ok (.istore_n 3, 1) := by decide +kernel
theorem dX2_clear_57 : decode cX2_clear 57 = .ok (.iload_n 3, 1) := by decide +kernel
theorem dX2_clear_58 : decode cX2_clear 58 = .ok (.iload_n 1, 1) := by decide +kernel
theorem dX2_clear_59 : decode cX2_clear 59 = .ok (.if_icmp .ge 35, 3) := by decide +kernel
theorem dX2_clear_62 : decode cX2_clear 62 = .ok (.aload_n 0, 1) := by decide +kernel
theorem dX2_clear_63 : decode cX2_clear 63 = .ok (.getfield 11, 3) := by decide +kernel
theorem dX2_clear_66 : decode cX2_clear 66 = .ok (.aload_n 0, 1) := by decide +kernel
theorem dX2_clear_67 : decode cX2_clear 67 = .ok (.getfield 16, 3) := by decide +kernel
theorem dX2_clear_70 : decode cX2_clear 70 = .ok (.iload_n 3, 1) := by decide +kernel
theorem dX2_clear_71 : decode cX2_clear 71 = .ok (.iaload, 1) := by decide +kernel
theorem dX2_clear_72 : decode cX2_clear 72 = .ok (.aaload, 1) := by decide +kernel
theorem dX2_clear_73 : decode cX2_clear 73 = .ok (.aload_n 0, 1) := by decide +kernel
theorem dX2_clear_74 : decode cX2_clear 74 = .ok (.getfield 16, 3) := by decide +kernel
theorem dX2_clear_77 : decode cX2_clear 77 = .ok (.iload_n 3, 1) := by decide +kernel
theorem dX2_clear_78 : decode cX2_clear 78 = .ok (.iconst 1, 1) := by decide +kernel
theorem dX2_clear_79 : decode cX2_clear 79 = .ok (.iadd, 1) := by decide +kernel
theorem dX2_clear_80 : decode cX2_clear 80 = .ok (.iload_n 1, 1) := by decide +kernel
theorem dX2_clear_81 : decode cX2_clear 81 = .ok (.irem, 1) := by decide +kernel
theorem dX2_clear_82 : decode cX2_clear 82 = .ok (.iaload, 1) := by decide +kernel
theorem dX2_clear_83 : decode cX2_clear 83 = .ok (.dup2, 1) := by decide +kernel
theorem dX2_clear_84 : decode cX2_clear 84 = .ok (.iaload, 1) := by decide +kernel
theorem dX2_clear_85 : decode cX2_clear 85 = .ok (.iload_n 2, 1) := by decide +kernel
theorem dX2_clear_86 : decode cX2_clear 86 = .ok (.isub, 1) := by decide +kernel
theorem dX2_clear_87 : decode cX2_clear 87 = .ok (.iastore, 1) := by decide +kernel
theorem dX2_clear_88 : decode cX2_clear 88 = .ok (.iinc 3 1, 3) := by decide +kernel
theorem dX2_clear_91 : decode cX2_clear 91 = .ok (.goto (-34), 3) := by decide +kernel
theorem dX2_clear_94 : decode cX2_clear 94 = .ok (.iload_n 2, 1) := by decide +kernel
theorem dX2_clear_95 : decode cX2_clear 95 = .ok (.iload_n 1, 1) := by decide +kernel
theorem dX2_clear_96 : decode cX2_clear 96 = .ok (.imul, 1) := by decide +kernel
theorem dX2_clear_97 : decode cX2_clear 97 = .ok (.ireturn, 1) := by decide +kernel
theorem dX3_init_0 : decode cX3_init 0 = .ok (.aload_n 0, 1) := by decide +kernel
theorem dX3_init_1 : decode cX3_init 1 = .ok (.invokespecial 3, 3) := by decide +kernel
theorem dX3_init_4 : decode cX3_init 4 = .ok (.aload_n 0, 1) := by decide +kernel
theorem dX3_init_5 : decode cX3_init 5 = .ok (.iconst 1, 1) := by decide +kernel
theorem dX3_init_6 : decode cX3_init 6 = .ok (.iload_n 1, 1) := by decide +kernel
theorem dX3_init_7 : decode cX3_init 7 = .ok (.invokestatic 9, 3) := by decide +kernel
theorem dX3_init_10 : decode cX3_init 10 = .ok (.anewarray 15, 3) := by decide +kernel
theorem dX3_init_13 : decode cX3_init 13 = .ok (.putfield 17, 3) := by decide +kernel
theorem dX3_init_16 : decode cX3_init 16 = .ok (.iconst 0, 1) := by decide +kernel
theorem dX3_init_17 : decode cX3_init 17 = .ok (.istore_n 3, 1) := by decide +kernel
theorem dX3_init_18 : decode cX3_init 18 = .ok (.iload_n 3, 1) := by decide +kernel
theorem dX3_init_19 : decode cX3_init 19 = .ok (.aload_n 0, 1) := by decide +kernel
theorem dX3_init_20 : decode cX3_init 20 = .ok (.getfield 17, 3) := by decide +kernel
theorem dX3_init_23 : decode cX3_init 23 = .ok (.arraylength, 1) := by decide +kernel
theorem dX3_init_24 : decode cX3_init 24 = .ok (.if_icmp .ge 23, 3) := by decide +kernel
theorem dX3_init_27 : decode cX3_init 27 = .ok (.aload_n 0, 1) := by decide +kernel
theorem dX3_init_28 : decode cX3_init 28 = .ok (.getfield 17, 3) := by decide +kernel
theorem dX3_init_31 : decode cX3_init 31 = .ok (.iload_n 3, 1) := by decide +kernel
theorem dX3_init_32 : decode cX3_init 32 = .ok (.new 15, 3) := by decide +kernel
theorem dX3_init_35 : decode cX3_init 35 = .ok (.dup, 1) := by decide +kernel
theorem dX3_init_36 : decode cX3_init 36 = .ok (.aload_n 2, 1) := by decide +kernel
theorem dX3_init_37 : decode cX3_init 37 = .ok (.invokespecial 23, 3) := by decide +kernel
theorem dX3_init_40 : decode cX3_init 40 = .ok (.aastore, 1) := by decide +kernel
theorem dX3_init_41 : decode cX3_init 41 = .ok (.iinc 3 1, 3) := by decide +kernel
theorem dX3_init_44 : decode cX3_init 44 = .ok (.goto (-26), 3) := by decide +kernel
theorem dX3_init_47 : decode cX3_init 47 = .ok (.return_, 1) := by decide +kernel
theorem dX3_put_0 : decode cX3_put 0 = .ok (.aload_n 0, 1) := by decide +kernel
theorem dX3_put_1 : decode cX3_put 1 = .ok (.getfield 26, 3) := by decide +kernel
theorem dX3_put_4 : decode cX3_put 4 = .ok (.aload_n 0, 1) := by decide +kernel
theorem dX3_put_5 : decode cX3_put 5 = .ok (.getfield 17, 3) := by decide +kernel
theorem dX3_put_8 : decode cX3_put 8 = .ok (.arraylength, 1) := by decide +kernel
theorem dX3_put_9 : decode cX3_put 9 = .ok (.if_icmp .lt 7, 3) := by decide +kernel
theorem dX3_put_12 : decode cX3_put 12 = .ok (.aload_n 0, 1) := by decide +kernel
theorem dX3_put_13 : decode cX3_put 13 = .ok (.invokevirtual 30, 3) := by decide +kernel
theorem dX3_put_16 : decode cX3_put 16 = .ok (.aload_n 0, 1) := by decide +kernel
theorem dX3_put_17 : decode cX3_put 17 = .ok (.getfield 17, 3) := by decide +kernel
theorem dX3_put_20 : decode cX3_put 20 = .ok (.aload_n 0, 1) := by decide +kernel
theorem dX3_put_21 : decode cX3_put 21 = .ok (.getfield 26, 3) := by decide +kernel
theorem dX3_put_24 : decode cX3_put 24 = .ok (.aaload, 1) := by decide +kernel
theorem dX3_put_25 : decode cX3_put 25 = .ok (.aload_n 1, 1) := by decide +kernel
theorem dX3_put_26 : decode cX3_put 26 = .ok (.invokevirtual 33, 3) := by decide +kernel
theorem dX3_put_29 : decode cX3_put 29 = .ok (.aload_n 0, 1) := by decide +kernel
theorem dX3_put_30 : decode cX3_put 30 = .ok (.dup, 1) := by decide +kernel
theorem dX3_put_31 : decode cX3_put 31 = .ok (.getfield 26, 3) := by decide +kernel
theorem dX3_put_34 : decode cX3_put 34 = .ok (.iconst 1, 1) := by decide +kernel
theorem dX3_put_35 : decode cX3_put 35 = .ok (.iadd, 1) := by decide +kernel
theorem dX3_put_36 : decode cX3_put 36 = .ok (.putfield 26, 3) := by decide +kernel
theorem dX3_put_39 : decode cX3_put 39 = .ok (.return_, 1) := by decide +kernel
theorem dX3_moveLowestUp_0 : decode cX3_moveLowestUp 0 = .ok (.aload_n 0, 1) := by decide +kernel
theorem dX3_moveLowestUp_1 : decode cX3_moveLowestUp 1 = .ok (.getfield 17, 3) := by decide +kernel
theorem dX3_moveLowestUp_4 : decode cX3_moveLowestUp 4 = .ok (.iconst 0, 1) := by decide +kernel
theorem dX3_moveLowestUp_5 : decode cX3_moveLowestUp 5 = .ok (.aaload, 1) := by decide +kernel
theorem dX3_moveLowestUp_6 : decode cX3_moveLowestUp 6 = .ok (.astore_n 1, 1) := by decide +kernel
theorem dX3_moveLowestUp_7 : decode cX3_moveLowestUp 7 = .ok (.iconst 1, 1) := by decide +kernel
theorem dX3_moveLowestUp_8 : decode cX3_moveLowestUp 8 = .ok (.istore_n 2, 1) := by decide +kernel
theorem dX3_moveLowestUp_9 : decode cX3_moveLowestUp 9 = .ok (.iload_n 2, 1) := by decide +kernel
theorem dX3_moveLowestUp_10 : decode cX3_moveLowestUp 10 = .ok (.aload_n 0, 1) := by decide +kernel
theorem dX3_moveLowestUp_11 : decode cX3_moveLowestUp 11 = .ok (.getfield 17, 3) := by decide +kernel
theorem dX3_moveLowestUp_14 : decode cX3_moveLowestUp 14 = .ok (.arraylength, 1) := by decide +kernel
theorem dX3_moveLowestUp_15 : decode cX3_moveLowestUp 15 = .ok (.if_icmp .ge 23, 3) := by decide +kernel
theorem dX3_moveLowestUp_18 : decode cX3_moveLowestUp 18 = .ok (.aload_n 0, 1) := by decide +kernel
theorem dX3_moveLowestUp_19 : decode cX3_moveLowestUp 19 = .ok (.getfield 17, 3) := by decide +kernel
theorem dX3_moveLowestUp_22 : decode cX3_moveLowestUp 22 = .ok (.iload_n 2, 1) := by decide +kernel
theorem dX3_moveLowestUp_23 : decode cX3_moveLowestUp 23 = .ok (.iconst 1, 1) := by decide +kernel
theorem dX3_moveLowestUp_24 : decode cX3_moveLowestUp 24 = .ok (.isub, 1) := by decide +kernel
theorem dX3_moveLowestUp_25 : decode cX3_moveLowestUp 25 = .ok (.aload_n 0, 1) := by decide +kernel
theorem dX3_moveLowestUp_26 : decode cX3_moveLowestUp 26 = .ok (.getfield 17, 3) := by decide +kernel
theorem dX3_moveLowestUp_29 : decode cX3_moveLowestUp 29 = .ok (.iload_n 2, 1) := by decide +kernel
theorem dX3_moveLowestUp_30 : decode cX3_moveLowestUp 30 = .ok (.aaload, 1) := by decide +kernel
theorem dX3_moveLowestUp_31 : decode cX3_moveLowestUp 31 = .ok (.aastore, 1) := by decide +kernel
theorem dX3_moveLowestUp_32 : decode cX3_moveLowestUp 32 = .ok (.iinc 2 1, 3) := by decide +kernel
theorem dX3_moveLowestUp_35 : decode cX3_moveLowestUp 35 = .ok (.goto (-26), 3) := by decide +kernel
theorem dX3_moveLowestUp_38 : decode cX3_moveLowestUp 38 = .ok (.aload_n 0, 1) := by decide +kernel
theorem dX3_moveLowestUp_39 : decode cX3_moveLowestUp 39 = .ok (.aload_n 0, 1) := by decide +kernel
theorem dX3_moveLowestUp_40 : decode cX3_moveLowestUp 40 = .ok (.getfield 17, 3) := by decide +kernel
theorem dX3_moveLowestUp_43 : decode cX3_moveLowestUp 43 = .ok (.arraylength, 1) := by decide +kernel
theorem dX3_moveLowestUp_44 : decode cX3_moveLowestUp 44 = .ok (.iconst 1, 1) := by decide +kernel
theorem dX3_moveLowestUp_45 : decode cX3_moveLowestUp 45 = .ok (.isub, 1) := by decide +kernel
theorem dX3_moveLowestUp_46 : decode cX3_moveLowestUp 46 = .ok (.putfield 26, 3) := by decide +kernel
theorem dX3_moveLowestUp_49 : decode cX3_moveLowestUp 49 = .ok (.aload_n 0, 1) := by decide +kernel
theorem dX3_moveLowestUp_50 : decode cX3_moveLowestUp 50 = .ok (.getfield 17, 3) := by decide +kernel
theorem dX3_moveLowestUp_53 : decode cX3_moveLowestUp 53 = .ok (.aload_n 0, 1) := by decide +kernel
theorem dX3_moveLowestUp_54 : decode cX3_moveLowestUp 54 = .ok (.getfield 26, 3) := by decide +kernel
theorem dX3_moveLowestUp_57 : decode cX3_moveLowestUp 57 = .ok (.aload_n 1, 1) := by decide +kernel
theorem dX3_moveLowestUp_58 : decode cX3_moveLowestUp 58 = .ok (.aastore, 1) := by decide +kernel
theorem dX3_moveLowestUp_59 : decode cX3_moveLowestUp 59 = .ok (.return_, 1) := by decide +kernel
theorem dX3_takeInto_0 : decode cX3_takeInto 0 = .ok (.aload_n 0, 1) := by decide +kernel
theorem dX3_takeInto_1 : decode cX3_takeInto 1 = .ok (.getfield 26, 3) := by decide +kernel
theorem dX3_takeInto_4 : decode cX3_takeInto 4 = .ok (.iconst 1, 1) := by decide +kernel
theorem dX3_takeInto_5 : decode cX3_takeInto 5 = .ok (.aload_n 0, 1) := by decide +kernel
theorem dX3_takeInto_6 : decode cX3_takeInto 6 = .ok (.getfield 17, 3) := by decide +kernel
theorem dX3_takeInto_9 : decode cX3_takeInto 9 = .ok (.arraylength, 1) := by decide +kernel
theorem dX3_takeInto_10 : decode cX3_takeInto 10 = .ok (.invokestatic 37, 3) := by decide +kernel
theorem dX3_takeInto_13 : decode cX3_takeInto 13 = .ok (.ifCond .ne 6, 3) := by decide +kernel
theorem dX3_takeInto_16 : decode cX3_takeInto 16 = .ok (.bipush (-2), 2) := by decide +kernel
theorem dX3_takeInto_18 : decode cX3_takeInto 18 = .ok (.ireturn, 1) := by decide +kernel
theorem dX3_takeInto_19 : decode cX3_takeInto 19 = .ok (.aload_n 0, 1) := by decide +kernel
theorem dX3_takeInto_20 : decode cX3_takeInto 20 = .ok (.dup, 1) := by decide +kernel
theorem dX3_takeInto_21 : decode cX3_takeInto 21 = .ok (.getfield 26, 3) := by decide +kernel
theorem dX3_takeInto_24 : decode cX3_takeInto 24 = .ok (.iconst 1, 1) := by decide +kernel
theorem dX3_takeInto_25 : decode cX3_takeInto 25 = .ok (.isub, 1) := by decide +kernel
theorem dX3_takeInto_26 : decode cX3_takeInto 26 = .ok (.putfield 26, 3) := by decide +kernel
theorem dX3_takeInto_29 : decode cX3_takeInto 29 = .ok (.aload_n 1, 1) := by decide +kernel
theorem dX3_takeInto_30 : decode cX3_takeInto 30 = .ok (.aload_n 0, 1) := by decide +kernel
theorem dX3_takeInto_31 : decode cX3_takeInto 31 = .ok (.getfield 17, 3) := by decide +kernel
theorem dX3_takeInto_34 : decode cX3_takeInto 34 = .ok (.aload_n 0, 1) := by decide +kernel
theorem dX3_takeInto_35 : decode cX3_takeInto 35 = .ok (.getfield 26, 3) := by decide +kernel
theorem dX3_takeInto_38 : decode cX3_takeInto 38 = .ok (.aaload, 1) := by decide +kernel
theorem dX3_takeInto_39 : decode cX3_takeInto 39 = .ok (.invokevirtual 33, 3) := by decide +kernel
theorem dX3_takeInto_42 : decode cX3_takeInto 42 = .ok (.aload_n 0, 1) := by decide +kernel
theorem dX3_takeInto_43 : decode cX3_takeInto 43 = .ok (.getfield 26, 3) := by decide +kernel
theorem dX3_takeInto_46 : decode cX3_takeInto 46 = .ok (.ireturn, 1) := by decide +kernel
theorem dX4_init_0 : decode cX4_init 0 = .ok (.aload_n 0, 1) := by decide +kernel
theorem dX4_init_1 : decode cX4_init 1 = .ok (.invokespecial 3, 3) := by decide +kernel
theorem dX4_init_4 : decode cX4_init 4 = .ok (.aload_n 0, 1) := by decide +kernel
theorem dX4_init_5 : decode cX4_init 5 = .ok (.bipush 6, 2) := by decide +kernel
theorem dX4_init_7 : decode cX4_init 7 = .ok (.newarray .int, 2) := by decide +kernel
theorem dX4_init_9 : decode cX4_init 9 = .ok (.putfield 9, 3) := by decide +kernel
theorem dX4_init_12 : decode cX4_init 12 = .ok (.return_, 1) := by decide +kernel
theorem dX4_clear_0 : decode cX4_clear 0 = .ok (.aload_n 0, 1) := by decide +kernel
theorem dX4_clear_1 : decode cX4_clear 1 = .ok (.iconst 0, 1) := by decide +kernel
theorem dX4_clear_2 : decode cX4_clear 2 = .ok (.putfield 15, 3) := by decide +kernel
theorem dX4_clear_5 : decode cX4_clear 5 = .ok (.aload_n 0, 1) := by decide +kernel
theorem dX4_clear_6 : decode cX4_clear 6 = .ok (.bipush 10, 2) := by decide +kernel
theorem dX4_clear_8 : decode cX4_clear 8 = .ok (.putfield 19, 3) := by decide +kernel
theorem dX4_clear_11 : decode cX4_clear 11 = .ok (.aload_n 0, 1) := by decide +kernel
theorem dX4_clear_12 : decode cX4_clear 12 = .ok (.iconst 0, 1) := by decide +kernel
theorem dX4_clear_13 : decode cX4_clear 13 = .ok (.putfield 22, 3) := by decide +kernel
theorem dX4_clear_16 : decode cX4_clear 16 = .ok (.aload_n 0, 1) := by decide +kernel
theorem dX4_clear_17 : decode cX4_clear 17 = .ok (.iconst 0, 1) := by decide +kernel
theorem dX4_clear_18 : decode cX4_clear 18 = .ok (.putfield 25, 3) := by decide +kernel
theorem dX4_clear_21 : decode cX4_clear 21 = .ok (.return_, 1) := by decide +kernel
theorem dX4_copyFrom_0 : decode cX4_copyFrom 0 = .ok (.aload_n 1, 1) := by decide +kernel
theorem dX4_copyFrom_1 : decode cX4_copyFrom 1 = .ok (.getfield 9, 3) := by decide +kernel
theorem dX4_copyFrom_4 : decode cX4_copyFrom 4 = .ok (.iconst 0, 1) := by decide +kernel
theorem dX4_copyFrom_5 : decode cX4_copyFrom 5 = .ok (.aload_n 0, 1) := by decide +kernel
theorem dX4_copyFrom_6 : decode cX4_copyFrom 6 = .ok (.getfield 9, 3) := by decide +kernel
theorem dX4_copyFrom_9 : decode cX4_copyFrom 9 = .ok (.iconst 0, 1) := by decide +kernel
theorem dX4_copyFrom_10 : decode cX4_copyFrom 10 = .ok (.bipush 6, 2) := by decide +kernel
theorem dX4_copyFrom_12 : decode cX4_copyFrom 12 = .ok (.invokestatic 28, 3) := by decide +kernel
theorem dX4_copyFrom_15 : decode cX4_copyFrom 15 = .ok (.aload_n 0, 1) := by decide +kernel
theorem dX4_copyFrom_16 : decode cX4_copyFrom 16 = .ok (.aload_n 1, 1) := by decide +kernel
theorem dX4_copyFrom_17 : decode cX4_copyFrom 17 = .ok (.getfield 15, 3) := by decide +kernel
theorem dX4_copyFrom_20 : decode cX4_copyFrom 20 = .ok (.putfield 15, 3) := by decide +kernel
theorem dX4_copyFrom_23 : decode cX4_copyFrom 23 = .ok (.aload_n 0, 1) := by decide +kernel
theorem dX4_copyFrom_24 : decode cX4_copyFrom 24 = .ok (.aload_n 1, 1) := by decide +kernel
theorem dX4_copyFrom_25 : decode cX4_copyFrom 25 = .ok (.getfield 19, 3) := by decide +kernel
theorem dX4_copyFrom_28 : decode cX4_copyFrom 28 = .ok (.putfield 19, 3) := by decide +kernel
theorem dX4_copyFrom_31 : decode cX4_copyFrom 31 = .ok (.aload_n 0, 1) := by decide +kernel
theorem dX4_copyFrom_32 : decode cX4_copyFrom 32 = .ok (.aload_n 1, 1) := by decide +kernel
theorem dX4_copyFrom_33 : decode cX4_copyFrom 33 = .ok (.getfield 22, 3) := by decide +kernel
theorem dX4_copyFrom_36 : decode cX4_copyFrom 36 = .ok (.putfield 22, 3) := by decide +kernel
theorem dX4_copyFrom_39 : decode cX4_copyFrom 39 = .ok (.aload_n 0, 1) := by decide +kernel
theorem dX4_copyFrom_40 : decode cX4_copyFrom 40 = .ok (.aload_n 1, 1) := by decide +kernel
theorem dX4_copyFrom_41 : decode cX4_copyFrom 41 = .ok (.getfield 25, 3) := by decide +kernel
theorem dX4_copyFrom_44 : decode cX4_copyFrom 44 = .ok (.putfield 25, 3) := by decide +kernel
theorem dX4_copyFrom_47 : decode cX4_copyFrom 47 = .ok (.return_, 1) := by decide +kernel
theorem dX4_readFrom_0 : decode cX4_readFrom 0 = .ok (.aload_n 0, 1) := by decide +kernel
theorem dX4_readFrom_1 : decode cX4_readFrom 1 = .ok (.invokevirtual 34, 3) := by decide +kernel
theorem dX4_readFrom_4 : decode cX4_readFrom 4 = .ok (.iconst 0, 1) := by decide +kernel
theorem dX4_readFrom_5 : decode cX4_readFrom 5 = .ok (.istore_n 2, 1) := by decide +kernel
theorem dX4_readFrom_6 : decode cX4_readFrom 6 = .ok (.iload_n 2, 1) := by decide +kernel
theorem dX4_readFrom_7 : decode cX4_readFrom 7 = .ok (.aload_n 1, 1) := by decide +kernel
theorem dX4_readFrom_8 : decode cX4_readFrom 8 = .ok (.getfield 37, 3) := by decide +kernel
theorem dX4_readFrom_11 : decode cX4_readFrom 11 = .ok (.if_icmp .ge 42, 3) := by decide +kernel
theorem dX4_readFrom_14 : decode cX4_readFrom 14 = .ok (.aload_n 1, 1) := by decide +kernel
theorem dX4_readFrom_15 : decode cX4_readFrom 15 = .ok (.iload_n 2, 1) := by decide +kernel
theorem dX4_readFrom_16 : decode cX4_readFrom 16 = .ok (.invokevirtual 42, 3) := by decide +kernel
theorem dX4_readFrom_19 : decode cX4_readFrom 19 = .ok (.ifCond .eq 18, 3) := by decide +kernel
theorem dX4_readFrom_22 : decode cX4_readFrom 22 = .ok (.aload_n 0, 1) := by decide +kernel
theorem dX4_readFrom_23 : decode cX4_readFrom 23 = .ok (.aload_n 1, 1) := by decide +kernel
theorem dX4_readFrom_24 : decode cX4_readFrom 24 = .ok (.getfield 46, 3) := by decide +kernel
theorem dX4_readFrom_27 : decode cX4_readFrom 27 = .ok (.aload_n 1, 1) := by decide +kernel
theorem dX4_readFrom_28 : decode cX4_readFrom 28 = .ok (.getfield 49, 3) := by decide +kernel
theorem dX4_readFrom_31 : decode cX4_readFrom 31 = .ok (.invokevirtual 52, 3) := by decide +kernel
theorem dX4_readFrom_34 : decode cX4_readFrom 34 = .ok (.ifCond .ne 5, 3) := by decide +kernel
theorem dX4_readFrom_37 : decode cX4_readFrom 37 = .ok (.iload_n 2, 1) := by decide +kernel
theorem dX4_readFrom_38 : decode cX4_readFrom 38 = .ok (.ireturn, 1) := by decide +kernel
theorem dX4_readFrom_39 : decode cX4_readFrom 39 = .ok (.iload_n 2, 1) := by decide +kernel
theorem dX4_readFrom_40 : decode cX4_readFrom 40 = .ok (.iconst 1, 1) := by decide +kernel
theorem dX4_readFrom_41 : decode cX4_readFrom 41 = .ok (.iadd, 1) := by decide +kernel
theorem dX4_readFrom_42 : decode cX4_readFrom 42 = .ok (.aload_n 1, 1) := by decide +kernel
theorem dX4_readFrom_43 : decode cX4_readFrom 43 = .ok (.getfield 56, 3) := by decide +kernel
theorem dX4_readFrom_46 : decode cX4_readFrom 46 = .ok (.invokestatic 59, 3) := by decide +kernel
theorem dX4_readFrom_49 : decode cX4_readFrom 49 = .ok (.istore_n 2, 1) := by decide +kernel
theorem dX4_readFrom_50 : decode cX4_readFrom 50 = .ok (.goto (-44), 3) := by decide +kernel
theorem dX4_readFrom_53 : decode cX4_readFrom 53 = .ok (.bipush (-4), 2) := by decide +kernel
theorem dX4_readFrom_55 : decode cX4_readFrom 55 = .ok (.ireturn, 1) := by decide +kernel
theorem dX4_accept_0 : decode cX4_accept 0 = .ok (.iload_n 1, 1) := by decide +kernel
theorem dX4_accept_1 : decode cX4_accept 1 = .ok (.tableswitch 90 107 114 #[66, 90, 90, 78, 90, 47, 90, 53], 47) := by decide +kernel
theorem dX4_accept_48 : decode cX4_accept 48 = .ok (.aload_n 0, 1) := by decide +kernel
theorem dX4_accept_49 : decode cX4_accept 49 = .ok (.iload_n 2, 1) := by decide +kernel
theorem dX4_accept_50 : decode cX4_accept 50 = .ok (.invokevirtual 65, 3) := by decide +kernel
theorem dX4_accept_53 : decode cX4_accept 53 = .ok (.ireturn, 1) := by decide +kernel
theorem dX4_accept_54 : decode cX4_accept 54 = .ok (.aload_n 0, 1) := by decide +kernel
theorem dX4_accept_55 : decode cX4_accept 55 = .ok (.iload_n 2, 1) := by decide +kernel
theorem dX4_accept_56 : decode cX4_accept 56 = .ok (.putfield 19, 3) := by decide +kernel
theorem dX4_accept_59 : decode cX4_accept 59 = .ok (.iload_n 2, 1) := by decide +kernel
theorem dX4_accept_60 : decode cX4_accept 60 = .ok (.iconst 0, 1) := by decide +kernel
theorem dX4_accept_61 : decode cX4_accept 61 = .ok (.bipush 99, 2) := by decide +kernel
theorem dX4_accept_63 : decode cX4_accept 63 = .ok (.invokestatic 68, 3) := by decide +kernel
theorem dX4_accept_66 : decode cX4_accept 66 = .ok (.ireturn, 1) := by decide +kernel
theorem dX4_accept_67 : decode cX4_accept 67 = .ok (.aload_n 0, 1) := by decide +kernel
theorem dX4_accept_68 : decode cX4_accept 68 = .ok (.iload_n 2, 1) := by decide +kernel
theorem dX4_accept_69 : decode cX4_accept 69 = .ok (.putfield 22, 3) := by decide +kernel
theorem dX4_accept_72 : decode cX4_accept 72 = .ok (.iload_n 2, 1) := by decide +kernel
theorem dX4_accept_73 : decode cX4_accept 73 = .ok (.iconst 0, 1) := by decide +kernel
theorem dX4_accept_74 : decode cX4_accept 74 = .ok (.iconst 3, 1) := by decide +kernel
theorem dX4_accept_75 : decode cX4_accept 75 = .ok (.invokestatic 68, 3) := by decide +kernel
theorem dX4_accept_78 : decode cX4_accept 78 = .ok (.ireturn, 1) := by decide +kernel
theorem dX4_accept_79 : decode cX4_accept 79 = .ok (.aload_n 0, 1) := by decide +kernel
theorem dX4_accept_80 : decode cX4_accept 80 = .ok (.iload_n 2, 1) := by decide +kernel
theorem dX4_accept_81 : decode cX4_accept 81 = .ok (.putfield 25, 3) := by decide +kernel
theorem dX4_accept_84 : decode cX4_accept 84 = .ok (.iload_n 2, 1) := by decide +kernel
theorem dX4_accept_85 : decode cX4_accept 85 = .ok (.iconst 0, 1) := by decide +kernel
theorem dX4_accept_86 : decode cX4_accept 86 = .ok (.iconst 2, 1) := by decide +kernel
theorem dX4_accept_87 : decode cX4_accept 87 = .ok (.invokestatic 68, 3) := by decide +kernel
theorem dX4_accept_90 : decode cX4_accept 90 = .ok (.ireturn, 1) := by decide +kernel
theorem dX4_accept_91 : decode cX4_accept 91 = .ok (.iconst 0, 1) := by decide +kernel
theorem dX4_accept_92 : decode cX4_accept 92 = .ok (.ireturn, 1) := by decide +kernel
theorem dX4_addPerson_0 : decode cX4_addPerson 0 = .ok (.iload_n 1, 1) := by decide +kernel
theorem dX4_addPerson_1 : decode cX4_addPerson 1 = .ok (.iconst 1, 1) := by decide +kernel
theorem dX4_addPerson_2 : decode cX4_addPerson 2 = .ok (.sipush 999, 3) := by decide +kernel
theorem dX4_addPerson_5 : decode cX4_addPerson 5 = .ok (.invokestatic 68, 3) := by decide +kernel
theorem dX4_addPerson_8 : decode cX4_addPerson 8 = .ok (.ifCond .eq 12, 3) := by decide +kernel
theorem dX4_addPerson_11 : decode cX4_addPerson 11 = .ok (.aload_n 0, 1) := by decide +kernel
theorem dX4_addPerson_12 : decode cX4_addPerson 12 = .ok (.getfield 15, 3) := by decide +kernel
theorem dX4_addPerson_15 : decode cX4_addPerson 15 = .ok (.bipush 6, 2) := by decide +kernel
theorem dX4_addPerson_17 : decode cX4_addPerson 17 = .ok (.if_icmp .lt 5, 3) := by decide +kernel
theorem dX4_addPerson_20 : decode cX4_addPerson 20 = .ok (.iconst 0, 1) := by decide +kernel
theorem dX4_addPerson_21 : decode cX4_addPerson 21 = .ok (.ireturn, 1) := by decide +kernel
theorem dX4_addPerson_22 : decode cX4_addPerson 22 = .ok (.aload_n 0, 1) := by decide +kernel
theorem dX4_addPerson_23 : decode cX4_addPerson 23 = .ok (.getfield 9, 3) := by decide +kernel
theorem dX4_addPerson_26 : decode cX4_addPerson 26 = .ok (.aload_n 0, 1) := by decide +kernel
theorem dX4_addPerson_27 : decode cX4_addPerson 27 = .ok (.getfield 15, 3) := by decide +kernel
theorem dX4_addPerson_30 : decode cX4_addPerson 30 = .ok (.iload_n 1, 1) := by decide +kernel
theorem dX4_addPerson_31 : decode cX4_addPerson 31 = .ok (.iastore, 1) := by decide +kernel
theorem dX4_addPerson_32 : decode cX4_addPerson 32 = .ok (.aload_n 0, 1) := by decide +kernel
theorem dX4_addPerson_33 : decode cX4_addPerson 33 = .ok (.dup, 1) := by decide +kernel
theorem dX4_addPerson_34 : decode cX4_addPerson 34 = .ok (.getfield 15, 3) := by decide +kernel
theorem dX4_addPerson_37 : decode cX4_addPerson 37 = .ok (.iconst 1, 1) := by decide +kernel
theorem dX4_addPerson_38 : decode cX4_addPerson 38 = .ok (.iadd, 1) := by decide +kernel
theorem dX4_addPerson_39 : decode cX4_addPerson 39 = .ok (.putfield 15, 3) := by decide +kernel
theorem dX4_addPerson_42 : decode cX4_addPerson 42 = .ok (.iconst 1, 1) := by decide +kernel
theorem dX4_addPerson_43 : decode cX4_addPerson 43 = .ok (.ireturn, 1) := by decide +kernel
theorem dX4_interestOn_0 : decode cX4_interestOn 0 = .ok (.iload_n 1, 1) := by decide +kernel
theorem dX4_interestOn_1 : decode cX4_interestOn 1 = .ok (.aload_n 0, 1) := by decide +kernel
theorem dX4_interestOn_2 : decode cX4_interestOn 2 = .ok (.getfield 19, 3) := by decide +kernel
theorem dX4_interestOn_5 : decode cX4_interestOn 5 = .ok (.imul, 1) := by decide +kernel
theorem dX4_interestOn_6 : decode cX4_interestOn 6 = .ok (.bipush 100, 2) := by decide +kernel
theorem dX4_interestOn_8 : decode cX4_interestOn 8 = .ok (.idiv, 1) := by decide +kernel
theorem dX4_interestOn_9 : decode cX4_interestOn 9 = .ok (.ireturn, 1) := by decide +kernel
theorem dX5_init_0 : decode cX5_init 0 = .ok (.aload_n 0, 1) := by decide +kernel
theorem dX5_init_1 : decode cX5_init 1 = .ok (.invokespecial 3, 3) := by decide +kernel
theorem dX5_init_4 : decode cX5_init 4 = .ok (.aload_n 0, 1) := by decide +kernel
theorem dX5_init_5 : decode cX5_init 5 = .ok (.sipush 300, 3) := by decide +kernel
theorem dX5_init_8 : decode cX5_init 8 = .ok (.newarray .int, 2) := by decide +kernel
theorem dX5_init_10 : decode cX5_init 10 = .ok (.putfield 9, 3) := by decide +kernel
theorem dX5_init_13 : decode cX5_init 13 = .ok (.return_, 1) := by decide +kernel
theorem dX5_append_0 : decode cX5_append 0 = .ok (.iload_n 1, 1) := by decide +kernel
theorem dX5_append_1 : decode cX5_append 1 = .ok (.iconst 1, 1) := by decide +kernel
theorem dX5_append_2 : decode cX5_append 2 = .ok (.isub, 1) := by decide +kernel
theorem dX5_append_3 : decode cX5_append 3 = .ok (.istore 4, 2) := by decide +kernel
theorem dX5_append_5 : decode cX5_append 5 = .ok (.iload 4, 2) := by decide +kernel
theorem dX5_append_7 : decode cX5_append 7 = .ok (.ifCond .lt 50, 3) := by decide +kernel
theorem dX5_append_10 : decode cX5_append 10 = .ok (.aload_n 0, 1) := by decide +kernel
theorem dX5_append_11 : decode cX5_append 11 = .ok (.getfield 15, 3) := by decide +kernel
theorem dX5_append_14 : decode cX5_append 14 = .ok (.sipush 300, 3) := by decide +kernel
theorem dX5_append_17 : decode cX5_append 17 = .ok (.if_icmp .ge 40, 3) := by decide +kernel
theorem dX5_append_20 : decode cX5_append 20 = .ok (.aload_n 0, 1) := by decide +kernel
theorem dX5_append_21 : decode cX5_append 21 = .ok (.getfield 9, 3) := by decide +kernel
theorem dX5_append_24 : decode cX5_append 24 = .ok (.aload_n 0, 1) := by decide +kernel
theorem dX5_append_25 : decode cX5_append 25 = .ok (.getfield 15, 3) := by decide +kernel
theorem dX5_append_28 : decode cX5_append 28 = .ok (.lload_n 2, 1) := by decide +kernel
theorem dX5_append_29 : decode cX5_append 29 = .ok (.bipush 8, 2) := by decide +kernel
theorem dX5_append_31 : decode cX5_append 31 = .ok (.iload 4, 2) := by decide +kernel
theorem dX5_append_33 : decode cX5_append 33 = .ok (.imul, 1) := by decide +kernel
theorem dX5_append_34 : decode cX5_append 34 = .ok (.lushr, 1) := by decide +kernel
theorem dX5_append_35 : decode cX5_append 35 = .ok (.l2i, 1) := by decide +kernel
theorem dX5_append_36 : decode cX5_append 36 = .ok (.sipush 255, 3) := by decide +kernel
theorem dX5_append_39 : decode cX5_append 39 = .ok (.iand, 1) := by decide +kernel
theorem dX5_append_40 : decode cX5_append 40 = .ok (.iastore, 1) := by decide +kernel
theorem dX5_append_41 : decode cX5_append 41 = .ok (.aload_n 0, 1) := by decide +kernel
theorem dX5_append_42 : decode cX5_append 42 = .ok (.dup, 1) := by decide +kernel
theorem dX5_append_43 : decode cX5_append 43 = .ok (.getfield 15, 3) := by decide +kernel
theorem dX5_append_46 : decode cX5_append 46 = .ok (.iconst 1, 1) := by decide +kernel
theorem dX5_append_47 : decode cX5_append 47 = .ok (.iadd, 1) := by decide +kernel
theorem dX5_append_48 : decode cX5_append 48 = .ok (.putfield 15, 3) := by decide +kernel
theorem dX5_append_51 : decode cX5_append 51 = .ok (.iinc 4 (-1), 3) := by decide +kernel
theorem dX5_append_54 : decode cX5_append 54 = .ok (.goto (-49), 3) := by decide +kernel
theorem dX5_append_57 : decode cX5_append 57 = .ok (.return_, 1) := by decide +kernel
theorem dX5_readItem_0 : decode cX5_readItem 0 = .ok (.iload_n 1, 1) := by decide +kernel
theorem dX5_readItem_1 : decode cX5_readItem 1 = .ok (.iconst 0, 1) := by decide +kernel
theorem dX5_readItem_2 : decode cX5_readItem 2 = .ok (.aload_n 0, 1) := by decide +kernel
theorem dX5_readItem_3 : decode cX5_readItem 3 = .ok (.getfield 15, 3) := by decide +kernel
theorem dX5_readItem_6 : decode cX5_readItem 6 = .ok (.iconst 1, 1) := by decide +kernel
theorem dX5_readItem_7 : decode cX5_readItem 7 = .ok (.isub, 1) := by decide +kernel
theorem dX5_readItem_8 : decode cX5_readItem 8 = .ok (.invokestatic 19, 3) := by decide +kernel
theorem dX5_readItem_11 : decode cX5_readItem 11 = .ok (.ifCond .ne 5, 3) := by decide +kernel
theorem dX5_readItem_14 : decode cX5_readItem 14 = .ok (.iconst 0, 1) := by decide +kernel
theorem dX5_readItem_15 : decode cX5_readItem 15 = .ok (.ireturn, 1) := by decide +kernel
theorem dX5_readItem_16 : decode cX5_readItem 16 = .ok (.aload_n 0, 1) := by decide +kernel
theorem dX5_readItem_17 : decode cX5_readItem 17 = .ok (.aload_n 0, 1) := by decide +kernel
theorem dX5_readItem_18 : decode cX5_readItem 18 = .ok (.getfield 9, 3) := by decide +kernel
theorem dX5_readItem_21 : decode cX5_readItem 21 = .ok (.iload_n 1, 1) := by decide +kernel
theorem dX5_readItem_22 : decode cX5_readItem 22 = .ok (.iaload, 1) := by decide +kernel
theorem dX5_readItem_23 : decode cX5_readItem 23 = .ok (.putfield 23, 3) := by decide +kernel
theorem dX5_readItem_26 : decode cX5_readItem 26 = .ok (.aload_n 0, 1) := by decide +kernel
theorem dX5_readItem_27 : decode cX5_readItem 27 = .ok (.iconst 0, 1) := by decide +kernel
theorem dX5_readItem_28 : decode cX5_readItem 28 = .ok (.putfield 26, 3) := by decide +kernel
theorem dX5_readItem_31 : decode cX5_readItem 31 = .ok (.iload_n 1, 1) := by decide +kernel
theorem dX5_readItem_32 : decode cX5_readItem 32 = .ok (.iconst 1, 1) := by decide +kernel
theorem dX5_readItem_33 : decode cX5_readItem 33 = .ok (.iadd, 1) := by decide +kernel
theorem dX5_readItem_34 : decode cX5_readItem 34 = .ok (.istore_n 2, 1) := by decide +kernel
theorem dX5_readItem_35 : decode cX5_readItem 35 = .ok (.iload_n 2, 1) := by decide +kernel
theorem dX5_readItem_36 : decode cX5_readItem 36 = .ok (.aload_n 0, 1) := by decide +kernel
theorem dX5_readItem_37 : decode cX5_readItem 37 = .ok (.getfield 15, 3) := by decide +kernel
theorem dX5_readItem_40 : decode cX5_readItem 40 = .ok (.if_icmp .ge 53, 3) := by decide +kernel
theorem dX5_readItem_43 : decode cX5_readItem 43 = .ok (.iload_n 2, 1) := by decide +kernel
theorem dX5_readItem_44 : decode cX5_readItem 44 = .ok (.iload_n 1, 1) := by decide +kernel
theorem dX5_readItem_45 : decode cX5_readItem 45 = .ok (.iconst 3, 1) := by decide +kernel
theorem dX5_readItem_46 : decode cX5_readItem 46 = .ok (.iadd, 1) := by decide +kernel
theorem dX5_readItem_47 : decode cX5_readItem 47 = .ok (.if_icmp .gt 46, 3) := by decide +kernel
theorem dX5_readItem_50 : decode cX5_readItem 50 = .ok (.aload_n 0, 1) := by decide +kernel
theorem dX5_readItem_51 : decode cX5_readItem 51 = .ok (.getfield 9, 3) := by decide +kernel
theorem dX5_readItem_54 : decode cX5_readItem 54 = .ok (.iload_n 2, 1) := by decide +kernel
theorem dX5_readItem_55 : decode cX5_readItem 55 = .ok (.iaload, 1) := by decide +kernel
theorem dX5_readItem_56 : decode cX5_readItem 56 = .ok (.bipush 48, 2) := by decide +kernel
theorem dX5_readItem_58 : decode cX5_readItem 58 = .ok (.bipush 57, 2) := by decide +kernel
theorem dX5_readItem_60 : decode cX5_readItem 60 = .ok (.invokestatic 19, 3) := by decide +kernel
theorem dX5_readItem_63 : decode cX5_readItem 63 = .ok (.ifCond .eq 30, 3) := by decide +kernel
theorem dX5_readItem_66 : decode cX5_readItem 66 = .ok (.aload_n 0, 1) := by decide +kernel
theorem dX5_readItem_67 : decode cX5_readItem 67 = .ok (.bipush 10, 2) := by decide +kernel
theorem dX5_readItem_69 : decode cX5_readItem 69 = .ok (.aload_n 0, 1) := by decide +kernel
theorem dX5_readItem_70 : decode cX5_readItem 70 = .ok (.getfield 26, 3) := by decide +kernel
theorem dX5_readItem_73 : decode cX5_readItem 73 = .ok (.imul, 1) := by decide +kernel
theorem dX5_readItem_74 : decode cX5_readItem 74 = .ok (.aload_n 0, 1) := by decide +kernel
theorem dX5_readItem_75 : decode cX5_readItem 75 = .ok (.getfield 9, 3) := by decide +kernel
theorem dX5_readItem_78 : decode cX5_readItem 78 = .ok (.iload_n 2, 1) := by decide +kernel
theorem dX5_readItem_79 : decode cX5_readItem 79 = .ok (.iaload, 1) := by decide +kernel
theorem dX5_readItem_80 : decode cX5_readItem 80 = .ok (.iadd, 1) := by decide +kernel
theorem dX5_readItem_81 : decode cX5_readItem 81 = .ok (.bipush 48, 2) := by decide +kernel
theorem dX5_readItem_83 : decode cX5_readItem 83 = .ok (.isub, 1) := by decide +kernel
theorem dX5_readItem_84 : decode cX5_readItem 84 = .ok (.putfield 26, 3) := by decide +kernel
theorem dX5_readItem_87 : decode cX5_readItem 87 = .ok (.iinc 2 1, 3) := by decide +kernel
theorem dX5_readItem_90 : decode cX5_readItem 90 = .ok (.goto (-55), 3) := by decide +kernel
theorem dX5_readItem_93 : decode cX5_readItem 93 = .ok (.aload_n 0, 1) := by decide +kernel
theorem dX5_readItem_94 : decode cX5_readItem 94 = .ok (.iload_n 2, 1) := by decide +kernel
theorem dX5_readItem_95 : decode cX5_readItem 95 = .ok (.iconst 1, 1) := by decide +kernel
theorem dX5_readItem_96 : decode cX5_readItem 96 = .ok (.iadd, 1) := by decide +kernel
theorem dX5_readItem_97 : decode cX5_readItem 97 = .ok (.putfield 29, 3) := by decide +kernel
theorem dX5_readItem_100 : decode cX5_readItem 100 = .ok (.iload_n 2, 1) := by decide +kernel
theorem dX5_readItem_101 : decode cX5_readItem 101 = .ok (.iload_n 1, 1) := by decide +kernel
theorem dX5_readItem_102 : decode cX5_readItem 102 = .ok (.iconst 1, 1) := by decide +kernel
theorem dX5_readItem_103 : decode cX5_readItem 103 = .ok (.iadd, 1) := by decide +kernel
theorem dX5_readItem_104 : decode cX5_readItem 104 = .ok (.if_icmp .le 26, 3) := by decide +kernel
theorem dX5_readItem_107 : decode cX5_readItem 107 = .ok (.iload_n 2, 1) := by decide +kernel
theorem dX5_readItem_108 : decode cX5_readItem 108 = .ok (.aload_n 0, 1) := by decide +kernel
theorem dX5_readItem_109 : decode cX5_readItem 109 = .ok (.getfield 15, 3) := by decide +kernel
theorem dX5_readItem_112 : decode cX5_readItem 112 = .ok (.if_icmp .ge 18, 3) := by decide +kernel
theorem dX5_readItem_115 : decode cX5_readItem 115 = .ok (.aload_n 0, 1) := by decide +kernel
theorem dX5_readItem_116 : decode cX5_readItem 116 = .ok (.getfield 9, 3) := by decide +kernel
theorem dX5_readItem_119 : decode cX5_readItem 119 = .ok (.iload_n 2, 1) := by decide +kernel
theorem dX5_readItem_120 : decode cX5_readItem 120 = .ok (.iaload, 1) := by decide +kernel
theorem dX5_readItem_121 : decode cX5_readItem 121 = .ok (.bipush 59, 2) := by decide +kernel
theorem dX5_readItem_123 : decode cX5_readItem 123 = .ok (.if_icmp .ne 7, 3) := by decide +kernel
theorem dX5_readItem_126 : decode cX5_readItem 126 = .ok (.iconst 1, 1) := by decide +kernel
theorem dX5_readItem_127 : decode cX5_readItem 127 = .ok (.goto 4, 3) := by decide +kernel
theorem dX5_readItem_130 : decode cX5_readItem 130 = .ok (.iconst 0, 1) := by decide +kernel
theorem dX5_readItem_131 : decode cX5_readItem 131 = .ok (.ireturn, 1) := by decide +kernel
theorem dX6_init_0 : decode cX6_init 0 = .ok (.aload_n 0, 1) := by decide +kernel
theorem dX6_init_1 : decode cX6_init 1 = .ok (.invokespecial 3, 3) := by decide +kernel
theorem dX6_init_4 : decode cX6_init 4 = .ok (.aload_n 0, 1) := by decide +kernel
theorem dX6_init_5 : decode cX6_init 5 = .ok (.bipush 12, 2) := by decide +kernel
theorem dX6_init_7 : decode cX6_init 7 = .ok (.newarray .int, 2) := by decide +kernel
theorem dX6_init_9 : decode cX6_init 9 = .ok (.putfield 9, 3) := by decide +kernel
theorem dX6_init_12 : decode cX6_init 12 = .ok (.aload_n 0, 1) := by decide +kernel
theorem dX6_init_13 : decode cX6_init 13 = .ok (.bipush 12, 2) := by decide +kernel
theorem dX6_init_15 : decode cX6_init 15 = .ok (.newarray .int, 2) := by decide +kernel
theorem dX6_init_17 : decode cX6_init 17 = .ok (.putfield 15, 3) := by decide +kernel
theorem dX6_init_20 : decode cX6_init 20 = .ok (.aload_n 0, 1) := by decide +kernel
theorem dX6_init_21 : decode cX6_init 21 = .ok (.bipush 12, 2) := by decide +kernel
theorem dX6_init_23 : decode cX6_init 23 = .ok (.newarray .boolean, 2) := by decide +kernel
theorem dX6_init_25 : decode cX6_init 25 = .ok (.putfield 18, 3) := by decide +kernel
theorem dX6_init_28 : decode cX6_init 28 = .ok (.return_, 1) := by decide +kernel
theorem dX6_add_0 : decode cX6_add 0 = .ok (.aload_n 0, 1) := by decide +kernel
theorem dX6_add_1 : decode cX6_add 1 = .ok (.getfield 22, 3) := by decide +kernel
theorem dX6_add_4 : decode cX6_add 4 = .ok (.bipush 12, 2) := by decide +kernel
theorem dX6_add_6 : decode cX6_add 6 = .ok (.if_icmp .lt 4, 3) := by decide +kernel
theorem dX6_add_9 : decode cX6_add 9 = .ok (.return_, 1) := by decide +kernel
theorem dX6_add_10 : decode cX6_add 10 = .ok (.aload_n 0, 1) := by decide +kernel
theorem dX6_add_11 : decode cX6_add 11 = .ok (.getfield 9, 3) := by decide +kernel
theorem dX6_add_14 : decode cX6_add 14 = .ok (.aload_n 0, 1) := by decide +kernel
theorem dX6_add_15 : decode cX6_add 15 = .ok (.getfield 22, 3) := by decide +kernel
theorem dX6_add_18 : decode cX6_add 18 = .ok (.iload_n 1, 1) := by decide +kernel
theorem dX6_add_19 : decode cX6_add 19 = .ok (.iastore, 1) := by decide +kernel
theorem dX6_add_20 : decode cX6_add 20 = .ok (.aload_n 0, 1) := by decide +kernel
theorem dX6_add_21 : decode cX6_add 21 = .ok (.getfield 15, 3) := by decide +kernel
theorem dX6_add_24 : decode cX6_add 24 = .ok (.aload_n 0, 1) := by decide +kernel
theorem dX6_add_25 : decode cX6_add 25 = .ok (.getfield 22, 3) := by decide +kernel
theorem dX6_add_28 : decode cX6_add 28 = .ok (.iload_n 2, 1) := by decide +kernel
theorem dX6_add_29 : decode cX6_add 29 = .ok (.iastore, 1) := by decide +kernel
theorem dX6_add_30 : decode cX6_add 30 = .ok (.aload_n 0, 1) := by decide +kernel
theorem dX6_add_31 : decode cX6_add 31 = .ok (.getfield 18, 3) := by decide +kernel
theorem dX6_add_34 : decode cX6_add 34 = .ok (.aload_n 0, 1) := by decide +kernel
theorem dX6_add_35 : decode cX6_add 35 = .ok (.getfield 22, 3) := by decide +kernel
theorem dX6_add_38 : decode cX6_add 38 = .ok (.iload_n 3, 1) := by decide +kernel
theorem dX6_add_39 : decode cX6_add 39 = .ok (.bastore, 1) := by decide +kernel
theorem dX6_add_40 : decode cX6_add 40 = .ok (.aload_n 0, 1) := by decide +kernel
theorem dX6_add_41 : decode cX6_add 41 = .ok (.dup, 1) := by decide +kernel
theorem dX6_add_42 : decode cX6_add 42 = .ok (.getfield 22, 3) := by decide +kernel
theorem dX6_add_45 : decode cX6_add 45 = .ok (.iconst 1, 1) := by decide +kernel
theorem dX6_add_46 : decode cX6_add 46 = .ok (.iadd, 1) := by decide +kernel
theorem dX6_add_47 : decode cX6_add 47 = .ok (.putfield 22, 3) := by decide +kernel
theorem dX6_add_50 : decode cX6_add 50 = .ok (.return_, 1) := by decide +kernel
theorem dX6_least_0 : decode cX6_least 0 = .ok (.iconst 1, 1) := by decide +kernel
theorem dX6_least_1 : decode cX6_least 1 = .ok (.istore_n 2, 1) := by decide +kernel
theorem dX6_least_2 : decode cX6_least 2 = .ok (.iconst 0, 1) := by decide +kernel
theorem dX6_least_3 : decode cX6_least 3 = .ok (.istore_n 3, 1) := by decide +kernel
theorem dX6_least_4 : decode cX6_least 4 = .ok (.iload_n 3, 1) := by decide +kernel
theorem dX6_least_5 : decode cX6_least 5 = .ok (.aload_n 0, 1) := by decide +kernel
theorem dX6_least_6 : decode cX6_least 6 = .ok (.getfield 22, 3) := by decide +kernel
theorem dX6_least_9 : decode cX6_least 9 = .ok (.if_icmp .ge 41, 3) := by decide +kernel
theorem dX6_least_12 : decode cX6_least 12 = .ok (.aload_n 0, 1) := by decide +kernel
theorem dX6_least_13 : decode cX6_least 13 = .ok (.getfield 9, 3) := by decide +kernel
theorem dX6_least_16 : decode cX6_least 16 = .ok (.iload_n 3, 1) := by decide +kernel
theorem dX6_least_17 : decode cX6_least 17 = .ok (.iaload, 1) := by decide +kernel
theorem dX6_least_18 : decode cX6_least 18 = .ok (.iload_n 1, 1) := by decide +kernel
theorem dX6_least_19 : decode cX6_least 19 = .ok (.if_icmp .ne 25, 3) := by decide +kernel
theorem dX6_least_22 : decode cX6_least 22 = .ok (.aload_n 0, 1) := by decide +kernel
theorem dX6_least_23 : decode cX6_least 23 = .ok (.getfield 18, 3) := by decide +kernel
theorem dX6_least_26 : decode cX6_least 26 = .ok (.iload_n 3, 1) := by decide +kernel
theorem dX6_least_27 : decode cX6_least 27 = .ok (.baload, 1) := by decide +kernel
theorem dX6_least_28 : decode cX6_least 28 = .ok (.ifCond .eq 16, 3) := by decide +kernel
theorem dX6_least_31 : decode cX6_least 31 = .ok (.iload_n 2, 1) := by decide +kernel
theorem dX6_least_32 : decode cX6_least 32 = .ok (.aload_n 0, 1) := by decide +kernel
theorem dX6_least_33 : decode cX6_least 33 = .ok (.getfield 15, 3) := by decide +kernel
theorem dX6_least_36 : decode cX6_least 36 = .ok (.iload_n 3, 1) := by decide +kernel
theorem dX6_least_37 : decode cX6_least 37 = .ok (.iaload, 1) := by decide +kernel
theorem dX6_least_38 : decode cX6_least 38 = .ok (.iconst 1, 1) := by decide +kernel
theorem dX6_least_39 : decode cX6_least 39 = .ok (.iadd, 1) := by decide +kernel
theorem dX6_least_40 : decode cX6_least 40 = .ok (.invokestatic 26, 3) := by decide +kernel
theorem dX6_least_43 : decode cX6_least 43 = .ok (.istore_n 2, 1) := by decide +kernel
theorem dX6_least_44 : decode cX6_least 44 = .ok (.iinc 3 1, 3) := by decide +kernel
theorem dX6_least_47 : decode cX6_least 47 = .ok (.goto (-43), 3) := by decide +kernel
theorem dX6_least_50 : decode cX6_least 50 = .ok (.iload_n 2, 1) := by decide +kernel
theorem dX6_least_51 : decode cX6_least 51 = .ok (.ireturn, 1) := by decide +kernel
theorem dX6_greatest_0 : decode cX6_greatest 0 = .ok (.sipush 999, 3) := by decide +kernel
theorem dX6_greatest_3 : decode cX6_greatest 3 = .ok (.istore_n 2, 1) := by decide +kernel
theorem dX6_greatest_4 : decode cX6_greatest 4 = .ok (.iconst 0, 1) := by decide +kernel
theorem dX6_greatest_5 : decode cX6_greatest 5 = .ok (.istore_n 3, 1) := by decide +kernel
theorem dX6_greatest_6 : decode cX6_greatest 6 = .ok (.iload_n 3, 1) := by decide +kernel
theorem dX6_greatest_7 : decode cX6_greatest 7 = .ok (.aload_n 0, 1) := by decide +kernel
theorem dX6_greatest_8 : decode cX6_greatest 8 = .ok (.getfield 22, 3) := by decide +kernel
theorem dX6_greatest_11 : decode cX6_greatest 11 = .ok (.if_icmp .ge 39, 3) := by decide +kernel
theorem dX6_greatest_14 : decode cX6_greatest 14 = .ok (.aload_n 0, 1) := by decide +kernel
theorem dX6_greatest_15 : decode cX6_greatest 15 = .ok (.getfield 9, 3) := by decide +kernel
theorem dX6_greatest_18 : decode cX6_greatest 18 = .ok (.iload_n 3, 1) := by decide +kernel
theorem dX6_greatest_19 : decode cX6_greatest 19 = .ok (.iaload, 1) := by decide +kernel
theorem dX6_greatest_20 : decode cX6_greatest 20 = .ok (.iload_n 1, 1) := by decide +kernel
theorem dX6_greatest_21 : decode cX6_greatest 21 = .ok (.if_icmp .ne 23, 3) := by decide +kernel
theorem dX6_greatest_24 : decode cX6_greatest 24 = .ok (.aload_n 0, 1) := by decide +kernel
theorem dX6_greatest_25 : decode cX6_greatest 25 = .ok (.getfield 18, 3) := by decide +kernel
theorem dX6_greatest_28 : decode cX6_greatest 28 = .ok (.iload_n 3, 1) := by decide +kernel
theorem dX6_greatest_29 : decode cX6_greatest 29 = .ok (.baload, 1) := by decide +kernel
theorem dX6_greatest_30 : decode cX6_greatest 30 = .ok (.ifCond .ne 14, 3) := by decide +kernel
theorem dX6_greatest_33 : decode cX6_greatest 33 = .ok (.iload_n 2, 1) := by decide +kernel
theorem dX6_greatest_34 : decode cX6_greatest 34 = .ok (.aload_n 0, 1) := by decide +kernel
theorem dX6_greatest_35 : decode cX6_greatest 35 = .ok (.getfield 15, 3) := by decide +kernel
theorem dX6_greatest_38 : decode cX6_greatest 38 = .ok (.iload_n 3, 1) := by decide +kernel
theorem dX6_greatest_39 : decode cX6_greatest 39 = .ok (.iaload, 1) := by decide +kernel
theorem dX6_greatest_40 : decode cX6_greatest 40 = .ok (.invokestatic 32, 3) := by decide +kernel
theorem dX6_greatest_43 : decode cX6_greatest 43 = .ok (.istore_n 2, 1) := by decide +kernel
theorem dX6_greatest_44 : decode cX6_greatest 44 = .ok (.iinc 3 1, 3) := by decide +kernel
theorem dX6_greatest_47 : decode cX6_greatest 47 = .ok (.goto (-41), 3) := by decide +kernel
theorem dX6_greatest_50 : decode cX6_greatest 50 = .ok (.iload_n 2, 1) := by decide +kernel
theorem dX6_greatest_51 : decode cX6_greatest 51 = .ok (.ireturn, 1) := by decide +kernel
theorem dX6_bestDue_0 : decode cX6_bestDue 0 = .ok (.aload_n 0, 1) := by decide +kernel
theorem dX6_bestDue_1 : decode cX6_bestDue 1 = .ok (.iload_n 1, 1) := by decide +kernel
theorem dX6_bestDue_2 : decode cX6_bestDue 2 = .ok (.invokevirtual 35, 3) := by decide +kernel
theorem dX6_bestDue_5 : decode cX6_bestDue 5 = .ok (.istore_n 3, 1) := by decide +kernel
theorem dX6_bestDue_6 : decode cX6_bestDue 6 = .ok (.aload_n 0, 1) := by decide +kernel
theorem dX6_bestDue_7 : decode cX6_bestDue 7 = .ok (.iload_n 1, 1) := by decide +kernel
theorem dX6_bestDue_8 : decode cX6_bestDue 8 = .ok (.invokevirtual 39, 3) := by decide +kernel
theorem dX6_bestDue_11 : decode cX6_bestDue 11 = .ok (.istore 4, 2) := by decide +kernel
theorem dX6_bestDue_13 : decode cX6_bestDue 13 = .ok (.bipush (-4), 2) := by decide +kernel
theorem dX6_bestDue_15 : decode cX6_bestDue 15 = .ok (.istore 5, 2) := by decide +kernel
theorem dX6_bestDue_17 : decode cX6_bestDue 17 = .ok (.ldc 42, 2) := by decide +kernel
theorem dX6_bestDue_19 : decode cX6_bestDue 19 = .ok (.istore 6, 2) := by decide +kernel
theorem dX6_bestDue_21 : decode cX6_bestDue 21 = .ok (.iconst 1, 1) := by decide +kernel
theorem dX6_bestDue_22 : decode cX6_bestDue 22 = .ok (.istore 7, 2) := by decide +kernel
theorem dX6_bestDue_24 : decode cX6_bestDue 24 = .ok (.iload 7, 2) := by decide +kernel
theorem dX6_bestDue_26 : decode cX6_bestDue 26 = .ok (.sipush 200, 3) := by decide +kernel
theorem dX6_bestDue_29 : decode cX6_bestDue 29 = .ok (.if_icmp .gt 62, 3) := by decide +kernel
theorem dX6_bestDue_32 : decode cX6_bestDue 32 = .ok (.iload 7, 2) := by decide +kernel
theorem dX6_bestDue_34 : decode cX6_bestDue 34 = .ok (.iload_n 2, 1) := by decide +kernel
theorem dX6_bestDue_35 : decode cX6_bestDue 35 = .ok (.iadd, 1) := by decide +kernel
theorem dX6_bestDue_36 : decode cX6_bestDue 36 = .ok (.iload_n 3, 1) := by decide +kernel
theorem dX6_bestDue_37 : decode cX6_bestDue 37 = .ok (.isub, 1) := by decide +kernel
theorem dX6_bestDue_38 : decode cX6_bestDue 38 = .ok (.iconst 1, 1) := by decide +kernel
theorem dX6_bestDue_39 : decode cX6_bestDue 39 = .ok (.iadd, 1) := by decide +kernel
theorem dX6_bestDue_40 : decode cX6_bestDue 40 = .ok (.istore 8, 2) := by decide +kernel
theorem dX6_bestDue_42 : decode cX6_bestDue 42 = .ok (.iload 4, 2) := by decide +kernel
theorem dX6_bestDue_44 : decode cX6_bestDue 44 = .ok (.iload 7, 2) := by decide +kernel
theorem dX6_bestDue_46 : decode cX6_bestDue 46 = .ok (.isub, 1) := by decide +kernel
theorem dX6_bestDue_47 : decode cX6_bestDue 47 = .ok (.iload_n 2, 1) := by decide +kernel
theorem dX6_bestDue_48 : decode cX6_bestDue 48 = .ok (.isub, 1) := by decide +kernel
theorem dX6_bestDue_49 : decode cX6_bestDue 49 = .ok (.istore 9, 2) := by decide +kernel
