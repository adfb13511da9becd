theorem dX0_init_0 : decode cX0_init 0 = .ok (.aload_n 0, 1) := by decide +kernel
theorem dX0_init_1 : decode cX0_init 1 = .ok (.invokespecial 3, 3) := by decide +kernel
theorem dX0_init_4 : decode cX0_init 4 = .ok (.aload_n 0, 1) := by decide +kernel
theorem dX0_init_5 : decode cX0_init 5 = .ok (.bipush 9, 2) := by decide +kernel
theorem dX0_init_7 : decode cX0_init 7 = .ok (.newarray .int, 2) := by decide +kernel
theorem dX0_init_9 : decode cX0_init 9 = .ok (.putfield 11, 3) := by decide +kernel
theorem dX0_init_12 : decode cX0_init 12 = .ok (.aload_n 0, 1) := by decide +kernel
theorem dX0_init_13 : decode cX0_init 13 = .ok (.aload_n 1, 1) := by decide +kernel
theorem dX0_init_14 : decode cX0_init 14 = .ok (.putfield 15, 3) := by decide +kernel
theorem dX0_init_17 : decode cX0_init 17 = .ok (.return_, 1) := by decide +kernel
theorem dX0_askOfDead_0 : decode cX0_askOfDead 0 = .ok (.aload_n 1, 1) := by decide +kernel
theorem dX0_askOfDead_1 : decode cX0_askOfDead 1 = .ok (.iload_n 2, 1) := by decide +kernel
theorem dX0_askOfDead_2 : decode cX0_askOfDead 2 = .ok (.invokevirtual 19, 3) := by decide +kernel
theorem dX0_askOfDead_5 : decode cX0_askOfDead 5 = .ok (.ifCond .eq 34, 3) := by decide +kernel
theorem dX0_askOfDead_8 : decode cX0_askOfDead 8 = .ok (.aload_n 0, 1) := by decide +kernel
theorem dX0_askOfDead_9 : decode cX0_askOfDead 9 = .ok (.aload_n 1, 1) := by decide +kernel
theorem dX0_askOfDead_10 : decode cX0_askOfDead 10 = .ok (.aload_n 1, 1) := by decide +kernel
theorem dX0_askOfDead_11 : decode cX0_askOfDead 11 = .ok (.getfield 25, 3) := by decide +kernel
theorem dX0_askOfDead_14 : decode cX0_askOfDead 14 = .ok (.iload_n 2, 1) := by decide +kernel
theorem dX0_askOfDead_15 : decode cX0_askOfDead 15 = .ok (.iaload, 1) := by decide +kernel
theorem dX0_askOfDead_16 : decode cX0_askOfDead 16 = .ok (.invokevirtual 28, 3) := by decide +kernel
theorem dX0_askOfDead_19 : decode cX0_askOfDead 19 = .ok (.aload_n 0, 1) := by decide +kernel
theorem dX0_askOfDead_20 : decode cX0_askOfDead 20 = .ok (.getfield 11, 3) := by decide +kernel
theorem dX0_askOfDead_23 : decode cX0_askOfDead 23 = .ok (.iconst 0, 1) := by decide +kernel
theorem dX0_askOfDead_24 : decode cX0_askOfDead 24 = .ok (.iload_n 2, 1) := by decide +kernel
theorem dX0_askOfDead_25 : decode cX0_askOfDead 25 = .ok (.iastore, 1) := by decide +kernel
theorem dX0_askOfDead_26 : decode cX0_askOfDead 26 = .ok (.aload_n 0, 1) := by decide +kernel
theorem dX0_askOfDead_27 : decode cX0_askOfDead 27 = .ok (.getfield 11, 3) := by decide +kernel
theorem dX0_askOfDead_30 : decode cX0_askOfDead 30 = .ok (.bipush 6, 2) := by decide +kernel
theorem dX0_askOfDead_32 : decode cX0_askOfDead 32 = .ok (.aload_n 1, 1) := by decide +kernel
theorem dX0_askOfDead_33 : decode cX0_askOfDead 33 = .ok (.getfield 32, 3) := by decide +kernel
theorem dX0_askOfDead_36 : decode cX0_askOfDead 36 = .ok (.iload_n 2, 1) := by decide +kernel
theorem dX0_askOfDead_37 : decode cX0_askOfDead 37 = .ok (.iaload, 1) := by decide +kernel
theorem dX0_askOfDead_38 : decode cX0_askOfDead 38 = .ok (.iastore, 1) := by decide +kernel
theorem dX0_askOfDead_39 : decode cX0_askOfDead 39 = .ok (.aload_n 1, 1) := by decide +kernel
theorem dX0_askOfDead_40 : decode cX0_askOfDead 40 = .ok (.iload_n 3, 1) := by decide +kernel
theorem dX0_askOfDead_41 : decode cX0_askOfDead 41 = .ok (.invokevirtual 35, 3) := by decide +kernel
theorem dX0_askOfDead_44 : decode cX0_askOfDead 44 = .ok (.ifCond .eq 33, 3) := by decide +kernel
theorem dX0_askOfDead_47 : decode cX0_askOfDead 47 = .ok (.aload_n 0, 1) := by decide +kernel
theorem dX0_askOfDead_48 : decode cX0_askOfDead 48 = .ok (.getfield 11, 3) := by decide +kernel
theorem dX0_askOfDead_51 : decode cX0_askOfDead 51 = .ok (.iconst 2, 1) := by decide +kernel
theorem dX0_askOfDead_52 : decode cX0_askOfDead 52 = .ok (.iload_n 3, 1) := by decide +kernel
theorem dX0_askOfDead_53 : decode cX0_askOfDead 53 = .ok (.iastore, 1) := by decide +kernel
theorem dX0_askOfDead_54 : decode cX0_askOfDead 54 = .ok (.aload_n 0, 1) := by decide +kernel
theorem dX0_askOfDead_55 : decode cX0_askOfDead 55 = .ok (.getfield 11, 3) := by decide +kernel
theorem dX0_askOfDead_58 : decode cX0_askOfDead 58 = .ok (.iconst 3, 1) := by decide +kernel
theorem dX0_askOfDead_59 : decode cX0_askOfDead 59 = .ok (.aload_n 1, 1) := by decide +kernel
theorem dX0_askOfDead_60 : decode cX0_askOfDead 60 = .ok (.getfield 38, 3) := by decide +kernel
theorem dX0_askOfDead_63 : decode cX0_askOfDead 63 = .ok (.iload_n 3, 1) := by decide +kernel
theorem dX0_askOfDead_64 : decode cX0_askOfDead 64 = .ok (.iaload, 1) := by decide +kernel
theorem dX0_askOfDead_65 : decode cX0_askOfDead 65 = .ok (.iastore, 1) := by decide +kernel
theorem dX0_askOfDead_66 : decode cX0_askOfDead 66 = .ok (.aload_n 0, 1) := by decide +kernel
theorem dX0_askOfDead_67 : decode cX0_askOfDead 67 = .ok (.getfield 11, 3) := by decide +kernel
theorem dX0_askOfDead_70 : decode cX0_askOfDead 70 = .ok (.iconst 4, 1) := by decide +kernel
theorem dX0_askOfDead_71 : decode cX0_askOfDead 71 = .ok (.aload_n 1, 1) := by decide +kernel
theorem dX0_askOfDead_72 : decode cX0_askOfDead 72 = .ok (.iload_n 3, 1) := by decide +kernel
theorem dX0_askOfDead_73 : decode cX0_askOfDead 73 = .ok (.invokevirtual 41, 3) := by decide +kernel
theorem dX0_askOfDead_76 : decode cX0_askOfDead 76 = .ok (.iastore, 1) := by decide +kernel
theorem dX0_askOfDead_77 : decode cX0_askOfDead 77 = .ok (.return_, 1) := by decide +kernel
theorem dX0_askOfFamily_0 : decode cX0_askOfFamily 0 = .ok (.aload_n 0, 1) := by decide +kernel
theorem dX0_askOfFamily_1 : decode cX0_askOfFamily 1 = .ok (.getfield 11, 3) := by decide +kernel
theorem dX0_askOfFamily_4 : decode cX0_askOfFamily 4 = .ok (.iconst 0, 1) := by decide +kernel
theorem dX0_askOfFamily_5 : decode cX0_askOfFamily 5 = .ok (.iconst (-1), 1) := by decide +kernel
theorem dX0_askOfFamily_6 : decode cX0_askOfFamily 6 = .ok (.iastore, 1) := by decide +kernel
theorem dX0_askOfFamily_7 : decode cX0_askOfFamily 7 = .ok (.aload_n 0, 1) := by decide +kernel
theorem dX0_askOfFamily_8 : decode cX0_askOfFamily 8 = .ok (.getfield 11, 3) := by decide +kernel
theorem dX0_askOfFamily_11 : decode cX0_askOfFamily 11 = .ok (.iconst 1, 1) := by decide +kernel
theorem dX0_askOfFamily_12 : decode cX0_askOfFamily 12 = .ok (.iload_n 2, 1) := by decide +kernel
theorem dX0_askOfFamily_13 : decode cX0_askOfFamily 13 = .ok (.iastore, 1) := by decide +kernel
theorem dX0_askOfFamily_14 : decode cX0_askOfFamily 14 = .ok (.aload_n 0, 1) := by decide +kernel
theorem dX0_askOfFamily_15 : decode cX0_askOfFamily 15 = .ok (.getfield 11, 3) := by decide +kernel
theorem dX0_askOfFamily_18 : decode cX0_askOfFamily 18 = .ok (.iconst 2, 1) := by decide +kernel
theorem dX0_askOfFamily_19 : decode cX0_askOfFamily 19 = .ok (.iconst (-1), 1) := by decide +kernel
theorem dX0_askOfFamily_20 : decode cX0_askOfFamily 20 = .ok (.iastore, 1) := by decide +kernel
theorem dX0_askOfFamily_21 : decode cX0_askOfFamily 21 = .ok (.aload_n 0, 1) := by decide +kernel
theorem dX0_askOfFamily_22 : decode cX0_askOfFamily 22 = .ok (.getfield 11, 3) := by decide +kernel
theorem dX0_askOfFamily_25 : decode cX0_askOfFamily 25 = .ok (.iconst 3, 1) := by decide +kernel
theorem dX0_askOfFamily_26 : decode cX0_askOfFamily 26 = .ok (.iconst (-1), 1) := by decide +kernel
theorem dX0_askOfFamily_27 : decode cX0_askOfFamily 27 = .ok (.iastore, 1) := by decide +kernel
theorem dX0_askOfFamily_28 : decode cX0_askOfFamily 28 = .ok (.aload_n 0, 1) := by decide +kernel
theorem dX0_askOfFamily_29 : decode cX0_askOfFamily 29 = .ok (.getfield 11, 3) := by decide +kernel
theorem dX0_askOfFamily_32 : decode cX0_askOfFamily 32 = .ok (.iconst 4, 1) := by decide +kernel
theorem dX0_askOfFamily_33 : decode cX0_askOfFamily 33 = .ok (.iconst (-1), 1) := by decide +kernel
theorem dX0_askOfFamily_34 : decode cX0_askOfFamily 34 = .ok (.iastore, 1) := by decide +kernel
theorem dX0_askOfFamily_35 : decode cX0_askOfFamily 35 = .ok (.aload_n 0, 1) := by decide +kernel
theorem dX0_askOfFamily_36 : decode cX0_askOfFamily 36 = .ok (.getfield 11, 3) := by decide +kernel
theorem dX0_askOfFamily_39 : decode cX0_askOfFamily 39 = .ok (.iconst 5, 1) := by decide +kernel
theorem dX0_askOfFamily_40 : decode cX0_askOfFamily 40 = .ok (.aload_n 1, 1) := by decide +kernel
theorem dX0_askOfFamily_41 : decode cX0_askOfFamily 41 = .ok (.getfield 45, 3) := by decide +kernel
theorem dX0_askOfFamily_44 : decode cX0_askOfFamily 44 = .ok (.iconst 2, 1) := by decide +kernel
theorem dX0_askOfFamily_45 : decode cX0_askOfFamily 45 = .ok (.iaload, 1) := by decide +kernel
theorem dX0_askOfFamily_46 : decode cX0_askOfFamily 46 = .ok (.iastore, 1) := by decide +kernel
theorem dX0_askOfFamily_47 : decode cX0_askOfFamily 47 = .ok (.aload_n 0, 1) := by decide +kernel
theorem dX0_askOfFamily_48 : decode cX0_askOfFamily 48 = .ok (.getfield 11, 3) := by decide +kernel
theorem dX0_askOfFamily_51 : decode cX0_askOfFamily 51 = .ok (.bipush 6, 2) := by decide +kernel
theorem dX0_askOfFamily_53 : decode cX0_askOfFamily 53 = .ok (.iconst (-1), 1) := by decide +kernel
theorem dX0_askOfFamily_54 : decode cX0_askOfFamily 54 = .ok (.iastore, 1) := by decide +kernel
theorem dX0_askOfFamily_55 : decode cX0_askOfFamily 55 = .ok (.aload_n 0, 1) := by decide +kernel
theorem dX0_askOfFamily_56 : decode cX0_askOfFamily 56 = .ok (.getfield 11, 3) := by decide +kernel
theorem dX0_askOfFamily_59 : decode cX0_askOfFamily 59 = .ok (.bipush 7, 2) := by decide +kernel
theorem dX0_askOfFamily_61 : decode cX0_askOfFamily 61 = .ok (.aload_n 1, 1) := by decide +kernel
theorem dX0_askOfFamily_62 : decode cX0_askOfFamily 62 = .ok (.iload_n 2, 1) := by decide +kernel
theorem dX0_askOfFamily_63 : decode cX0_askOfFamily 63 = .ok (.invokevirtual 48, 3) := by decide +kernel
theorem dX0_askOfFamily_66 : decode cX0_askOfFamily 66 = .ok (.ifCond .eq 12, 3) := by decide +kernel
theorem dX0_askOfFamily_69 : decode cX0_askOfFamily 69 = .ok (.aload_n 1, 1) := by decide +kernel
theorem dX0_askOfFamily_70 : decode cX0_askOfFamily 70 = .ok (.getfield 51, 3) := by decide +kernel
theorem dX0_askOfFamily_73 : decode cX0_askOfFamily 73 = .ok (.iload_n 2, 1) := by decide +kernel
theorem dX0_askOfFamily_74 : decode cX0_askOfFamily 74 = .ok (.iaload, 1) := by decide +kernel
theorem dX0_askOfFamily_75 : decode cX0_askOfFamily 75 = .ok (.goto 4, 3) := by decide +kernel
theorem dX0_askOfFamily_78 : decode cX0_askOfFamily 78 = .ok (.iconst (-1), 1) := by decide +kernel
theorem dX0_askOfFamily_79 : decode cX0_askOfFamily 79 = .ok (.iastore, 1) := by decide +kernel
theorem dX0_askOfFamily_80 : decode cX0_askOfFamily 80 = .ok (.aload_n 0, 1) := by decide +kernel
theorem dX0_askOfFamily_81 : decode cX0_askOfFamily 81 = .ok (.getfield 11, 3) := by decide +kernel
theorem dX0_askOfFamily_84 : decode cX0_askOfFamily 84 = .ok (.bipush 8, 2) := by decide +kernel
theorem dX0_askOfFamily_86 : decode cX0_askOfFamily 86 = .ok (.aload_n 1, 1) := by decide +kernel
theorem dX0_askOfFamily_87 : decode cX0_askOfFamily 87 = .ok (.getfield 45, 3) := by decide +kernel
theorem dX0_askOfFamily_90 : decode cX0_askOfFamily 90 = .ok (.iconst 0, 1) := by decide +kernel
theorem dX0_askOfFamily_91 : decode cX0_askOfFamily 91 = .ok (.iaload, 1) := by decide +kernel
theorem dX0_askOfFamily_92 : decode cX0_askOfFamily 92 = .ok (.iastore, 1) := by decide +kernel
theorem dX0_askOfFamily_93 : decode cX0_askOfFamily 93 = .ok (.return_, 1) := by decide +kernel
theorem dX0_moveOn_0 : decode cX0_moveOn 0 = .ok (.aload_n 0, 1) := by decide +kernel
theorem dX0_moveOn_1 : decode cX0_moveOn 1 = .ok (.getfield 11, 3) := by decide +kernel
theorem dX0_moveOn_4 : decode cX0_moveOn 4 = .ok (.bipush 6, 2) := by decide +kernel
theorem dX0_moveOn_6 : decode cX0_moveOn 6 = .ok (.dup2, 1) := by decide +kernel
theorem dX0_moveOn_7 : decode cX0_moveOn 7 = .ok (.iaload, 1) := by decide +kernel
theorem dX0_moveOn_8 : decode cX0_moveOn 8 = .ok (.iload_n 1, 1) := by decide +kernel
theorem dX0_moveOn_9 : decode cX0_moveOn 9 = .ok (.isub, 1) := by decide +kernel
theorem dX0_moveOn_10 : decode cX0_moveOn 10 = .ok (.iastore, 1) := by decide +kernel
theorem dX0_moveOn_11 : decode cX0_moveOn 11 = .ok (.aload_n 0, 1) := by decide +kernel
theorem dX0_moveOn_12 : decode cX0_moveOn 12 = .ok (.getfield 11, 3) := by decide +kernel
theorem dX0_moveOn_15 : decode cX0_moveOn 15 = .ok (.bipush 8, 2) := by decide +kernel
theorem dX0_moveOn_17 : decode cX0_moveOn 17 = .ok (.dup2, 1) := by decide +kernel
theorem dX0_moveOn_18 : decode cX0_moveOn 18 = .ok (.iaload, 1) := by decide +kernel
theorem dX0_moveOn_19 : decode cX0_moveOn 19 = .ok (.iload_n 1, 1) := by decide +kernel
theorem dX0_moveOn_20 : decode cX0_moveOn 20 = .ok (.iadd, 1) := by decide +kernel
theorem dX0_moveOn_21 : decode cX0_moveOn 21 = .ok (.iastore, 1) := by decide +kernel
theorem dX0_moveOn_22 : decode cX0_moveOn 22 = .ok (.return_, 1) := by decide +kernel
theorem dX0_told_0 : decode cX0_told 0 = .ok (.iload_n 2, 1) := by decide +kernel
theorem dX0_told_1 : decode cX0_told 1 = .ok (.ifCond .lt 8, 3) := by decide +kernel
theorem dX0_told_4 : decode cX0_told 4 = .ok (.iload_n 2, 1) := by decide +kernel
theorem dX0_told_5 : decode cX0_told 5 = .ok (.iconst 2, 1) := by decide +kernel
theorem dX0_told_6 : decode cX0_told 6 = .ok (.if_icmp .le 5, 3) := by decide +kernel
theorem dX0_told_9 : decode cX0_told 9 = .ok (.iconst (-1), 1) := by decide +kernel
theorem dX0_told_10 : decode cX0_told 10 = .ok (.ireturn, 1) := by decide +kernel
theorem dX0_told_11 : decode cX0_told 11 = .ok (.aload_n 1, 1) := by decide +kernel
theorem dX0_told_12 : decode cX0_told 12 = .ok (.ifnonnull 7, 3) := by decide +kernel
theorem dX0_told_15 : decode cX0_told 15 = .ok (.iconst 0, 1) := by decide +kernel
theorem dX0_told_16 : decode cX0_told 16 = .ok (.goto 7, 3) := by decide +kernel
theorem dX0_told_19 : decode cX0_told 19 = .ok (.aload_n 1, 1) := by decide +kernel
theorem dX0_told_20 : decode cX0_told 20 = .ok (.getfield 54, 3) := by decide +kernel
theorem dX0_told_23 : decode cX0_told 23 = .ok (.istore_n 3, 1) := by decide +kernel
theorem dX0_told_24 : decode cX0_told 24 = .ok (.iload_n 3, 1) := by decide +kernel
theorem dX0_told_25 : decode cX0_told 25 = .ok (.iconst 1, 1) := by decide +kernel
theorem dX0_told_26 : decode cX0_told 26 = .ok (.isub, 1) := by decide +kernel
theorem dX0_told_27 : decode cX0_told 27 = .ok (.istore 4, 2) := by decide +kernel
theorem dX0_told_29 : decode cX0_told 29 = .ok (.iload 4, 2) := by decide +kernel
theorem dX0_told_31 : decode cX0_told 31 = .ok (.ifCond .lt 97, 3) := by decide +kernel
theorem dX0_told_34 : decode cX0_told 34 = .ok (.aload_n 1, 1) := by decide +kernel
theorem dX0_told_35 : decode cX0_told 35 = .ok (.iload 4, 2) := by decide +kernel
theorem dX0_told_37 : decode cX0_told 37 = .ok (.iconst 0, 1) := by decide +kernel
theorem dX0_told_38 : decode cX0_told 38 = .ok (.invokevirtual 60, 3) := by decide +kernel
theorem dX0_told_41 : decode cX0_told 41 = .ok (.iload_n 2, 1) := by decide +kernel
theorem dX0_told_42 : decode cX0_told 42 = .ok (.if_icmp .ne 7, 3) := by decide +kernel
theorem dX0_told_45 : decode cX0_told 45 = .ok (.iconst 1, 1) := by decide +kernel
theorem dX0_told_46 : decode cX0_told 46 = .ok (.goto 4, 3) := by decide +kernel
theorem dX0_told_49 : decode cX0_told 49 = .ok (.iconst 0, 1) := by decide +kernel
theorem dX0_told_50 : decode cX0_told 50 = .ok (.istore 5, 2) := by decide +kernel
theorem dX0_told_52 : decode cX0_told 52 = .ok (.iload 5, 2) := by decide +kernel
theorem dX0_told_54 : decode cX0_told 54 = .ok (.ifCond .eq 68, 3) := by decide +kernel
theorem dX0_told_57 : decode cX0_told 57 = .ok (.aload_n 0, 1) := by decide +kernel
theorem dX0_told_58 : decode cX0_told 58 = .ok (.getfield 15, 3) := by decide +kernel
theorem dX0_told_61 : decode cX0_told 61 = .ok (.aload_n 1, 1) := by decide +kernel
theorem dX0_told_62 : decode cX0_told 62 = .ok (.iload 4, 2) := by decide +kernel
theorem dX0_told_64 : decode cX0_told 64 = .ok (.iconst 4, 1) := by decide +kernel
theorem dX0_told_65 : decode cX0_told 65 = .ok (.aload_n 0, 1) := by decide +kernel
theorem dX0_told_66 : decode cX0_told 66 = .ok (.getfield 11, 3) := by decide +kernel
theorem dX0_told_69 : decode cX0_told 69 = .ok (.invokevirtual 64, 3) := by decide +kernel
theorem dX0_told_72 : decode cX0_told 72 = .ok (.iconst 1, 1) := by decide +kernel
theorem dX0_told_73 : decode cX0_told 73 = .ok (.if_icmp .ne 49, 3) := by decide +kernel
theorem dX0_told_76 : decode cX0_told 76 = .ok (.aload_n 0, 1) := by decide +kernel
theorem dX0_told_77 : decode cX0_told 77 = .ok (.getfield 15, 3) := by decide +kernel
theorem dX0_told_80 : decode cX0_told 80 = .ok (.aload_n 1, 1) := by decide +kernel
theorem dX0_told_81 : decode cX0_told 81 = .ok (.iload 4, 2) := by decide +kernel
theorem dX0_told_83 : decode cX0_told 83 = .ok (.iconst 2, 1) := by decide +kernel
theorem dX0_told_84 : decode cX0_told 84 = .ok (.aload_n 0, 1) := by decide +kernel
theorem dX0_told_85 : decode cX0_told 85 = .ok (.getfield 11, 3) := by decide +kernel
theorem dX0_told_88 : decode cX0_told 88 = .ok (.invokevirtual 64, 3) := by decide +kernel
theorem dX0_told_91 : decode cX0_told 91 = .ok (.istore 6, 2) := by decide +kernel
theorem dX0_told_93 : decode cX0_told 93 = .ok (.aload_n 0, 1) := by decide +kernel
theorem dX0_told_94 : decode cX0_told 94 = .ok (.getfield 15, 3) := by decide +kernel
theorem dX0_told_97 : decode cX0_told 97 = .ok (.getfield 70, 3) := by decide +kernel
theorem dX0_told_100 : decode cX0_told 100 = .ok (.ifCond .ne 22, 3) := by decide +kernel
theorem dX0_told_103 : decode cX0_told 103 = .ok (.getstatic 74, 3) := by decide +kernel
theorem dX0_told_106 : decode cX0_told 106 = .ok (.iload_n 2, 1) := by decide +kernel
theorem dX0_told_107 : decode cX0_told 107 = .ok (.iaload, 1) := by decide +kernel
theorem dX0_told_108 : decode cX0_told 108 = .ok (.getstatic 77, 3) := by decide +kernel
theorem dX0_told_111 : decode cX0_told 111 = .ok (.iload_n 2, 1) := by decide +kernel
theorem dX0_told_112 : decode cX0_told 112 = .ok (.iaload, 1) := by decide +kernel
theorem dX0_told_113 : decode cX0_told 113 = .ok (.iload 6, 2) := by decide +kernel
theorem dX0_told_115 : decode cX0_told 115 = .ok (.invokestatic 80, 3) := by decide +kernel
theorem dX0_told_118 : decode cX0_told 118 = .ok (.invokestatic 85, 3) := by decide +kernel
theorem dX0_told_121 : decode cX0_told 121 = .ok (.ireturn, 1) := by decide +kernel
theorem dX0_told_122 : decode cX0_told 122 = .ok (.iinc 4 (-1), 3) := by decide +kernel
theorem dX0_told_125 : decode cX0_told 125 = .ok (.goto (-96), 3) := by decide +kernel
theorem dX0_told_128 : decode cX0_told 128 = .ok (.getstatic 88, 3) := by decide +kernel
theorem dX0_told_131 : decode cX0_told 131 = .ok (.iload_n 2, 1) := by decide +kernel
theorem dX0_told_132 : decode cX0_told 132 = .ok (.iaload, 1) := by decide +kernel
theorem dX0_told_133 : decode cX0_told 133 = .ok (.ireturn, 1) := by decide +kernel
theorem dX0_bars_0 : decode cX0_bars 0 = .ok (.aload_n 1, 1) := by decide +kernel
theorem dX0_bars_1 : decode cX0_bars 1 = .ok (.ifnonnull 7, 3) := by decide +kernel
theorem dX0_bars_4 : decode cX0_bars 4 = .ok (.iconst 0, 1) := by decide +kernel
theorem dX0_bars_5 : decode cX0_bars 5 = .ok (.goto 7, 3) := by decide +kernel
theorem dX0_bars_8 : decode cX0_bars 8 = .ok (.aload_n 1, 1) := by decide +kernel
theorem dX0_bars_9 : decode cX0_bars 9 = .ok (.getfield 54, 3) := by decide +kernel
theorem dX0_bars_12 : decode cX0_bars 12 = .ok (.istore_n 2, 1) := by decide +kernel
theorem dX0_bars_13 : decode cX0_bars 13 = .ok (.iconst 0, 1) := by decide +kernel
theorem dX0_bars_14 : decode cX0_bars 14 = .ok (.istore_n 3, 1) := by decide +kernel
theorem dX0_bars_15 : decode cX0_bars 15 = .ok (.iload_n 3, 1) := by decide +kernel
theorem dX0_bars_16 : decode cX0_bars 16 = .ok (.iload_n 2, 1) := by decide +kernel
theorem dX0_bars_17 : decode cX0_bars 17 = .ok (.if_icmp .ge 51, 3) := by decide +kernel
theorem dX0_bars_20 : decode cX0_bars 20 = .ok (.aload_n 1, 1) := by decide +kernel
theorem dX0_bars_21 : decode cX0_bars 21 = .ok (.iload_n 3, 1) := by decide +kernel
theorem dX0_bars_22 : decode cX0_bars 22 = .ok (.iconst 0, 1) := by decide +kernel
theorem dX0_bars_23 : decode cX0_bars 23 = .ok (.invokevirtual 60, 3) := by decide +kernel
theorem dX0_bars_26 : decode cX0_bars 26 = .ok (.iconst 3, 1) := by decide +kernel
theorem dX0_bars_27 : decode cX0_bars 27 = .ok (.if_icmp .ne 7, 3) := by decide +kernel
theorem dX0_bars_30 : decode cX0_bars 30 = .ok (.iconst 1, 1) := by decide +kernel
theorem dX0_bars_31 : decode cX0_bars 31 = .ok (.goto 4, 3) := by decide +kernel
theorem dX0_bars_34 : decode cX0_bars 34 = .ok (.iconst 0, 1) := by decide +kernel
theorem dX0_bars_35 : decode cX0_bars 35 = .ok (.istore 4, 2) := by decide +kernel
theorem dX0_bars_37 : decode cX0_bars 37 = .ok (.iload 4, 2) := by decide +kernel
theorem dX0_bars_39 : decode cX0_bars 39 = .ok (.ifCond .eq 23, 3) := by decide +kernel
theorem dX0_bars_42 : decode cX0_bars 42 = .ok (.aload_n 0, 1) := by decide +kernel
theorem dX0_bars_43 : decode cX0_bars 43 = .ok (.getfield 15, 3) := by decide +kernel
theorem dX0_bars_46 : decode cX0_bars 46 = .ok (.aload_n 1, 1) := by decide +kernel
theorem dX0_bars_47 : decode cX0_bars 47 = .ok (.iload_n 3, 1) := by decide +kernel
theorem dX0_bars_48 : decode cX0_bars 48 = .ok (.iconst 4, 1) := by decide +kernel
theorem dX0_bars_49 : decode cX0_bars 49 = .ok (.aload_n 0, 1) := by decide +kernel
theorem dX0_bars_50 : decode cX0_bars 50 = .ok (.getfield 11, 3) := by decide +kernel
theorem dX0_bars_53 : decode cX0_bars 53 = .ok (.invokevirtual 64, 3) := by decide +kernel
theorem dX0_bars_56 : decode cX0_bars 56 = .ok (.iconst 1, 1) := by decide +kernel
theorem dX0_bars_57 : decode cX0_bars 57 = .ok (.if_icmp .ne 5, 3) := by decide +kernel
theorem dX0_bars_60 : decode cX0_bars 60 = .ok (.iconst 1, 1) := by decide +kernel
theorem dX0_bars_61 : decode cX0_bars 61 = .ok (.ireturn, 1) := by decide +kernel
theorem dX0_bars_62 : decode cX0_bars 62 = .ok (.iinc 3 1, 3) := by decide +kernel
theorem dX0_bars_65 : decode cX0_bars 65 = .ok (.goto (-50), 3) := by decide +kernel
theorem dX0_bars_68 : decode cX0_bars 68 = .ok (.iconst 0, 1) := by decide +kernel
theorem dX0_bars_69 : decode cX0_bars 69 = .ok (.ireturn, 1) := by decide +kernel
theorem dX1_init_0 : decode cX1_init 0 = .ok (.aload_n 0, 1) := by decide +kernel
theorem dX1_init_1 : decode cX1_init 1 = .ok (.invokespecial 1, 3) := by decide +kernel
theorem dX1_init_4 : decode cX1_init 4 = .ok (.aload_n 0, 1) := by decide +kernel
theorem dX1_init_5 : decode cX1_init 5 = .ok (.iconst 0, 1) := by decide +kernel
theorem dX1_init_6 : decode cX1_init 6 = .ok (.putfield 7, 3) := by decide +kernel
theorem dX1_init_9 : decode cX1_init 9 = .ok (.return_, 1) := by decide +kernel
theorem dX1_draw_0 : decode cX1_draw 0 = .ok (.aload_n 0, 1) := by decide +kernel
theorem dX1_draw_1 : decode cX1_draw 1 = .ok (.aload_n 0, 1) := by decide +kernel
theorem dX1_draw_2 : decode cX1_draw 2 = .ok (.getfield 7, 3) := by decide +kernel
theorem dX1_draw_5 : decode cX1_draw 5 = .ok (.i2l, 1) := by decide +kernel
theorem dX1_draw_6 : decode cX1_draw 6 = .ok (.ldc2_w 13, 3) := by decide +kernel
theorem dX1_draw_9 : decode cX1_draw 9 = .ok (.lmul, 1) := by decide +kernel
theorem dX1_draw_10 : decode cX1_draw 10 = .ok (.ldc2_w 15, 3) := by decide +kernel
theorem dX1_draw_13 : decode cX1_draw 13 = .ok (.ladd, 1) := by decide +kernel
theorem dX1_draw_14 : decode cX1_draw 14 = .ok (.ldc2_w 17, 3) := by decide +kernel
theorem dX1_draw_17 : decode cX1_draw 17 = .ok (.lrem, 1) := by decide +kernel
theorem dX1_draw_18 : decode cX1_draw 18 = .ok (.l2i, 1) := by decide +kernel
theorem dX1_draw_19 : decode cX1_draw 19 = .ok (.putfield 7, 3) := by decide +kernel
theorem dX1_draw_22 : decode cX1_draw 22 = .ok (.iload_n 1, 1) := by decide +kernel
theorem dX1_draw_23 : decode cX1_draw 23 = .ok (.ifCond .le 12, 3) := by decide +kernel
theorem dX1_draw_26 : decode cX1_draw 26 = .ok (.aload_n 0, 1) := by decide +kernel
theorem dX1_draw_27 : decode cX1_draw 27 = .ok (.getfield 7, 3) := by decide +kernel
theorem dX1_draw_30 : decode cX1_draw 30 = .ok (.iload_n 1, 1) := by decide +kernel
theorem dX1_draw_31 : decode cX1_draw 31 = .ok (.irem, 1) := by decide +kernel
theorem dX1_draw_32 : decode cX1_draw 32 = .ok (.goto 4, 3) := by decide +kernel
theorem dX1_draw_35 : decode cX1_draw 35 = .ok (.iconst 0, 1) := by decide +kernel
theorem dX1_draw_36 : decode cX1_draw 36 = .ok (.ireturn, 1) := by decide +kernel
theorem dX2_init_0 : decode cX2_init 0 = .ok (.aload_n 0, 1) := by decide +kernel
theorem dX2_init_1 : decode cX2_init 1 = .ok (.invokespecial 3, 3) := by decide +kernel
theorem dX2_init_4 : decode cX2_init 4 = .ok (.aload_n 0, 1) := by decide +kernel
theorem dX2_init_5 : decode cX2_init 5 = .ok (.iconst 5, 1) := by decide +kernel
theorem dX2_init_6 : decode cX2_init 6 = .ok (.newarray .int, 2) := by decide +kernel
theorem dX2_init_8 : decode cX2_init 8 = .ok (.putfield 9, 3) := by decide +kernel
theorem dX2_init_11 : decode cX2_init 11 = .ok (.aload_n 0, 1) := by decide +kernel
theorem dX2_init_12 : decode cX2_init 12 = .ok (.iconst 4, 1) := by decide +kernel
theorem dX2_init_13 : decode cX2_init 13 = .ok (.newarray .int, 2) := by decide +kernel
theorem dX2_init_15 : decode cX2_init 15 = .ok (.putfield 15, 3) := by decide +kernel
theorem dX2_init_18 : decode cX2_init 18 = .ok (.aload_n 0, 1) := by decide +kernel
theorem dX2_init_19 : decode cX2_init 19 = .ok (.bipush 8, 2) := by decide +kernel
theorem dX2_init_21 : decode cX2_init 21 = .ok (.newarray .int, 2) := by decide +kernel
theorem dX2_init_23 : decode cX2_init 23 = .ok (.putfield 18, 3) := by decide +kernel
theorem dX2_init_26 : decode cX2_init 26 = .ok (.aload_n 0, 1) := by decide +kernel
theorem dX2_init_27 : decode cX2_init 27 = .ok (.bipush 8, 2) := by decide +kernel
theorem dX2_init_29 : decode cX2_init 29 = .ok (.newarray .int, 2) := by decide +kernel
theorem dX2_init_31 : decode cX2_init 31 = .ok (.putfield 21, 3) := by decide +kernel
theorem dX2_init_34 : decode cX2_init 34 = .ok (.aload_n 0, 1) := by decide +kernel
theorem dX2_init_35 : decode cX2_init 35 = .ok (.bipush 8, 2) := by decide +kernel
theorem dX2_init_37 : decode cX2_init 37 = .ok (.newarray .int, 2) := by decide +kernel
theorem dX2_init_39 : decode cX2_init 39 = .ok (.putfield 24, 3) := by decide +kernel
theorem dX2_init_42 : decode cX2_init 42 = .ok (.aload_n 0, 1) := by decide +kernel
theorem dX2_init_43 : decode cX2_init 43 = .ok (.bipush 40, 2) := by decide +kernel
theorem dX2_init_45 : decode cX2_init 45 = .ok (.newarray .int, 2) := by decide +kernel
theorem dX2_init_47 : decode cX2_init 47 = .ok (.putfield 27, 3) := by decide +kernel
theorem dX2_init_50 : decode cX2_init 50 = .ok (.aload_n 0, 1) := by decide +kernel
theorem dX2_init_51 : decode cX2_init 51 = .ok (.bipush 8, 2) := by decide +kernel
theorem dX2_init_53 : decode cX2_init 53 = .ok (.newarray .int, 2) := by decide +kernel
theorem dX2_init_55 : decode cX2_init 55 = .ok (.putfield 30, 3) := by decide +kernel
theorem dX2_init_58 : decode cX2_init 58 = .ok (.aload_n 0, 1) := by decide +kernel
theorem dX2_init_59 : decode cX2_init 59 = .ok (.bipush 8, 2) := by decide +kernel
theorem dX2_init_61 : decode cX2_init 61 = .ok (.newarray .int, 2) := by decide +kernel
theorem dX2_init_63 : decode cX2_init 63 = .ok (.putfield 33, 3) := by decide +kernel
theorem dX2_init_66 : decode cX2_init 66 = .ok (.aload_n 0, 1) := by decide +kernel
theorem dX2_init_67 : decode cX2_init 67 = .ok (.iconst 3, 1) := by decide +kernel
theorem dX2_init_68 : decode cX2_init 68 = .ok (.newarray .int, 2) := by decide +kernel
theorem dX2_init_70 : decode cX2_init 70 = .ok (.dup, 1) := by decide +kernel
theorem dX2_init_71 : decode cX2_init 71 = .ok (.iconst 0, 1) := by decide +kernel
theorem dX2_init_72 : decode cX2_init 72 = .ok (.iconst 0, 1) := by decide +kernel
theorem dX2_init_73 : decode cX2_init 73 = .ok (.iastore, 1) := by decide +kernel
theorem dX2_init_74 : decode cX2_init 74 = .ok (.dup, 1) := by decide +kernel
theorem dX2_init_75 : decode cX2_init 75 = .ok (.iconst 1, 1) := by decide +kernel
theorem dX2_init_76 : decode cX2_init 76 = .ok (.iconst 2, 1) := by decide +kernel
theorem dX2_init_77 : decode cX2_init 77 = .ok (.iastore, 1) := by decide +kernel
theorem dX2_init_78 : decode cX2_init 78 = .ok (.dup, 1) := by decide +kernel
theorem dX2_init_79 : decode cX2_init 79 = .ok (.iconst 2, 1) := by decide +kernel
theorem dX2_init_80 : decode cX2_init 80 = .ok (.iconst 0, 1) := by decide +kernel
theorem dX2_init_81 : decode cX2_init 81 = .ok (.iastore, 1) := by decide +kernel
theorem dX2_init_82 : decode cX2_init 82 = .ok (.putfield 36, 3) := by decide +kernel
theorem dX2_init_85 : decode cX2_init 85 = .ok (.aload_n 0, 1) := by decide +kernel
theorem dX2_init_86 : decode cX2_init 86 = .ok (.bipush 6, 2) := by decide +kernel
theorem dX2_init_88 : decode cX2_init 88 = .ok (.anewarray 39, 3) := by decide +kernel
theorem dX2_init_91 : decode cX2_init 91 = .ok (.putfield 41, 3) := by decide +kernel
theorem dX2_init_94 : decode cX2_init 94 = .ok (.aload_n 0, 1) := by decide +kernel
theorem dX2_init_95 : decode cX2_init 95 = .ok (.iconst 0, 1) := by decide +kernel
theorem dX2_init_96 : decode cX2_init 96 = .ok (.putfield 45, 3) := by decide +kernel
theorem dX2_init_99 : decode cX2_init 99 = .ok (.aload_n 0, 1) := by decide +kernel
theorem dX2_init_100 : decode cX2_init 100 = .ok (.iconst 0, 1) := by decide +kernel
theorem dX2_init_101 : decode cX2_init 101 = .ok (.putfield 49, 3) := by decide +kernel
theorem dX2_init_104 : decode cX2_init 104 = .ok (.aload_n 0, 1) := by decide +kernel
theorem dX2_init_105 : decode cX2_init 105 = .ok (.iconst 0, 1) := by decide +kernel
theorem dX2_init_106 : decode cX2_init 106 = .ok (.putfield 52, 3) := by decide +kernel
theorem dX2_init_109 : decode cX2_init 109 = .ok (.aload_n 0, 1) := by decide +kernel
theorem dX2_init_110 : decode cX2_init 110 = .ok (.iconst 0, 1) := by decide +kernel
theorem dX2_init_111 : decode cX2_init 111 = .ok (.putfield 55, 3) := by decide +kernel
theorem dX2_init_114 : decode cX2_init 114 = .ok (.aload_n 0, 1) := by decide +kernel
theorem dX2_init_115 : decode cX2_init 115 = .ok (.iconst 0, 1) := by decide +kernel
theorem dX2_init_116 : decode cX2_init 116 = .ok (.putfield 58, 3) := by decide +kernel
theorem dX2_init_119 : decode cX2_init 119 = .ok (.aload_n 0, 1) := by decide +kernel
theorem dX2_init_120 : decode cX2_init 120 = .ok (.iconst 0, 1) := by decide +kernel
theorem dX2_init_121 : decode cX2_init 121 = .ok (.putfield 61, 3) := by decide +kernel
theorem dX2_init_124 : decode cX2_init 124 = .ok (.aload_n 0, 1) := by decide +kernel
theorem dX2_init_125 : decode cX2_init 125 = .ok (.iconst (-1), 1) := by decide +kernel
theorem dX2_init_126 : decode cX2_init 126 = .ok (.putfield 64, 3) := by decide +kernel
theorem dX2_init_129 : decode cX2_init 129 = .ok (.aload_n 0, 1) := by decide +kernel
theorem dX2_init_130 : decode cX2_init 130 = .ok (.aload_n 1, 1) := by decide +kernel
theorem dX2_init_131 : decode cX2_init 131 = .ok (.putfield 67, 3) := by decide +kernel
theorem dX2_init_134 : decode cX2_init 134 = .ok (.return_, 1) := by decide +kernel
theorem dX2_copyFrom_0 : decode cX2_copyFrom 0 = .ok (.aload_n 1, 1) := by decide +kernel
theorem dX2_copyFrom_1 : decode cX2_copyFrom 1 = .ok (.getfield 9, 3) := by decide +kernel
theorem dX2_copyFrom_4 : decode cX2_copyFrom 4 = .ok (.iconst 0, 1) := by decide +kernel
theorem dX2_copyFrom_5 : decode cX2_copyFrom 5 = .ok (.aload_n 0, 1) := by decide +kernel
theorem dX2_copyFrom_6 : decode cX2_copyFrom 6 = .ok (.getfield 9, 3) := by decide +kernel
theorem dX2_copyFrom_9 : decode cX2_copyFrom 9 = .ok (.iconst 0, 1) := by decide +kernel
theorem dX2_copyFrom_10 : decode cX2_copyFrom 10 = .ok (.aload_n 0, 1) := by decide +kernel
theorem dX2_copyFrom_11 : decode cX2_copyFrom 11 = .ok (.getfield 9, 3) := by decide +kernel
theorem dX2_copyFrom_14 : decode cX2_copyFrom 14 = .ok (.arraylength, 1) := by decide +kernel
theorem dX2_copyFrom_15 : decode cX2_copyFrom 15 = .ok (.invokestatic 71, 3) := by decide +kernel
theorem dX2_copyFrom_18 : decode cX2_copyFrom 18 = .ok (.aload_n 1, 1) := by decide +kernel
theorem dX2_copyFrom_19 : decode cX2_copyFrom 19 = .ok (.getfield 15, 3) := by decide +kernel
theorem dX2_copyFrom_22 : decode cX2_copyFrom 22 = .ok (.iconst 0, 1) := by decide +kernel
theorem dX2_copyFrom_23 : decode cX2_copyFrom 23 = .ok (.aload_n 0, 1) := by decide +kernel
theorem dX2_copyFrom_24 : decode cX2_copyFrom 24 = .ok (.getfield 15, 3) := by decide +kernel
theorem dX2_copyFrom_27 : decode cX2_copyFrom 27 = .ok (.iconst 0, 1) := by decide +kernel
theorem dX2_copyFrom_28 : decode cX2_copyFrom 28 = .ok (.aload_n 0, 1) := by decide +kernel
theorem dX2_copyFrom_29 : decode cX2_copyFrom 29 = .ok (.getfield 15, 3) := by decide +kernel
theorem dX2_copyFrom_32 : decode cX2_copyFrom 32 = .ok (.arraylength, 1) := by decide +kernel
theorem dX2_copyFrom_33 : decode cX2_copyFrom 33 = .ok (.invokestatic 71, 3) := by decide +kernel
theorem dX2_copyFrom_36 : decode cX2_copyFrom 36 = .ok (.aload_n 1, 1) := by decide +kernel
theorem dX2_copyFrom_37 : decode cX2_copyFrom 37 = .ok (.getfield 18, 3) := by decide +kernel
theorem dX2_copyFrom_40 : decode cX2_copyFrom 40 = .ok (.iconst 0, 1) := by decide +kernel
theorem dX2_copyFrom_41 : decode cX2_copyFrom 41 = .ok (.aload_n 0, 1) := by decide +kernel
theorem dX2_copyFrom_42 : decode cX2_copyFrom 42 = .ok (.getfield 18, 3) := by decide +kernel
theorem dX2_copyFrom_45 : decode cX2_copyFrom 45 = .ok (.iconst 0, 1) := by decide +kernel
theorem dX2_copyFrom_46 : decode cX2_copyFrom 46 = .ok (.aload_n 0, 1) := by decide +kernel
theorem dX2_copyFrom_47 : decode cX2_copyFrom 47 = .ok (.getfield 18, 3) := by decide +kernel
theorem dX2_copyFrom_50 : decode cX2_copyFrom 50 = .ok (.arraylength, 1) := by decide +kernel
theorem dX2_copyFrom_51 : decode cX2_copyFrom 51 = .ok (.invokestatic 71, 3) := by decide +kernel
theorem dX2_copyFrom_54 : decode cX2_copyFrom 54 = .ok (.aload_n 1, 1) := by decide +kernel
theorem dX2_copyFrom_55 : decode cX2_copyFrom 55 = .ok (.getfield 21, 3) := by decide +kernel
theorem dX2_copyFrom_58 : decode cX2_copyFrom 58 = .ok (.iconst 0, 1) := by decide +kernel
theorem dX2_copyFrom_59 : decode cX2_copyFrom 59 = .ok (.aload_n 0, 1) := by decide +kernel
theorem dX2_copyFrom_60 : decode cX2_copyFrom 60 = .ok (.getfield 21, 3) := by decide +kernel
theorem dX2_copyFrom_63 : decode cX2_copyFrom 63 = .ok (.iconst 0, 1) := by decide +kernel
theorem dX2_copyFrom_64 : decode cX2_copyFrom 64 = .ok (.aload_n 0, 1) := by decide +kernel
theorem dX2_copyFrom_65 : decode cX2_copyFrom 65 = .ok (.getfield 21, 3) := by decide +kernel
theorem dX2_copyFrom_68 : decode cX2_copyFrom 68 = .ok (.arraylength, 1) := by decide +kernel
theorem dX2_copyFrom_69 : decode cX2_copyFrom 69 = .ok (.invokestatic 71, 3) := by decide +kernel
theorem dX2_copyFrom_72 : decode cX2_copyFrom 72 = .ok (.aload_n 1, 1) := by decide +kernel
theorem dX2_copyFrom_73 : decode cX2_copyFrom 73 = .ok (.getfield 24, 3) := by decide +kernel
theorem dX2_copyFrom_76 : decode cX2_copyFrom 76 = .ok (.iconst 0, 1) := by decide +kernel
theorem dX2_copyFrom_77 : decode cX2_copyFrom 77 = .ok (.aload_n 0, 1) := by decide +kernel
theorem dX2_copyFrom_78 : decode cX2_copyFrom 78 = .ok (.getfield 24, 3) := by decide +kernel
theorem dX2_copyFrom_81 : decode cX2_copyFrom 81 = .ok (.iconst 0, 1) := by decide +kernel
theorem dX2_copyFrom_82 : decode cX2_copyFrom 82 = .ok (.aload_n 0, 1) := by decide +kernel
theorem dX2_copyFrom_83 : decode cX2_copyFrom 83 = .ok (.getfield 24, 3) := by decide +kernel
theorem dX2_copyFrom_86 : decode cX2_copyFrom 86 = .ok (.arraylength, 1) := by decide +kernel
theorem dX2_copyFrom_87 : decode cX2_copyFrom 87 = .ok (.invokestatic 71, 3) := by decide +kernel
theorem dX2_copyFrom_90 : decode cX2_copyFrom 90 = .ok (.aload_n 1, 1) := by decide +kernel
theorem dX2_copyFrom_91 : decode cX2_copyFrom 91 = .ok (.getfield 27, 3) := by decide +kernel
theorem dX2_copyFrom_94 : decode cX2_copyFrom 94 = .ok (.iconst 0, 1) := by decide +kernel
theorem dX2_copyFrom_95 : decode cX2_copyFrom 95 = .ok (.aload_n 0, 1) := by decide +kernel
theorem dX2_copyFrom_96 : decode cX2_copyFrom 96 = .ok (.getfield 27, 3) := by decide +kernel
theorem dX2_copyFrom_99 : decode cX2_copyFrom 99 = .ok (.iconst 0, 1) := by decide +kernel
theorem dX2_copyFrom_100 : decode cX2_copyFrom 100 = .ok (.aload_n 0, 1) := by decide +kernel
theorem dX2_copyFrom_101 : decode cX2_copyFrom 101 = .ok (.getfield 27, 3) := by decide +kernel
theorem dX2_copyFrom_104 : decode cX2_copyFrom 104 = .ok (.arraylength, 1) := by decide +kernel
theorem dX2_copyFrom_105 : decode cX2_copyFrom 105 = .ok (.invokestatic 71, 3) := by decide +kernel
theorem dX2_copyFrom_108 : decode cX2_copyFrom 108 = .ok (.aload_n 1, 1) := by decide +kernel
theorem dX2_copyFrom_109 : decode cX2_copyFrom 109 = .ok (.getfield 30, 3) := by decide +kernel
theorem dX2_copyFrom_112 : decode cX2_copyFrom 112 = .ok (.iconst 0, 1) := by decide +kernel
theorem dX2_copyFrom_113 : decode cX2_copyFrom 113 = .ok (.aload_n 0, 1) := by decide +kernel
theorem dX2_copyFrom_114 : decode cX2_copyFrom 114 = .ok (.getfield 30, 3) := by decide +kernel
theorem dX2_copyFrom_117 : decode cX2_copyFrom 117 = .ok (.iconst 0, 1) := by decide +kernel
theorem dX2_copyFrom_118 : decode cX2_copyFrom 118 = .ok (.aload_n 0, 1) := by decide +kernel
theorem dX2_copyFrom_119 : decode cX2_copyFrom 119 = .ok (.getfield 30, 3) := by decide +kernel
theorem dX2_copyFrom_122 : decode cX2_copyFrom 122 = .ok (.arraylength, 1) := by decide +kernel
theorem dX2_copyFrom_123 : decode cX2_copyFrom 123 = .ok (.invokestatic 71, 3) := by decide +kernel
theorem dX2_copyFrom_126 : decode cX2_copyFrom 126 = .ok (.aload_n 1, 1) := by decide +kernel
theorem dX2_copyFrom_127 : decode cX2_copyFrom 127 = .ok (.getfield 33, 3) := by decide +kernel
theorem dX2_copyFrom_130 : decode cX2_copyFrom 130 = .ok (.iconst 0, 1) := by decide +kernel
theorem dX2_copyFrom_131 : decode cX2_copyFrom 131 = .ok (.aload_n 0, 1) := by decide +kernel
theorem dX2_copyFrom_132 : decode cX2_copyFrom 132 = .ok (.getfield 33, 3) := by decide +kernel
theorem dX2_copyFrom_135 : decode cX2_copyFrom 135 = .ok (.iconst 0, 1) := by decide +kernel
theorem dX2_copyFrom_136 : decode cX2_copyFrom 136 = .ok (.aload_n 0, 1) := by decide +kernel
theorem dX2_copyFrom_137 : decode cX2_copyFrom 137 = .ok (.getfield 33, 3) := by decide +kernel
theorem dX2_copyFrom_140 : decode cX2_copyFrom 140 = .ok (.arraylength, 1) := by decide +kernel
theorem dX2_copyFrom_141 : decode cX2_copyFrom 141 = .ok (.invokestatic 71, 3) := by decide +kernel
theorem dX2_copyFrom_144 : decode cX2_copyFrom 144 = .ok (.aload_n 1, 1) := by decide +kernel
theorem dX2_copyFrom_145 : decode cX2_copyFrom 145 = .ok (.getfield 36, 3) := by decide +kernel
theorem dX2_copyFrom_148 : decode cX2_copyFrom 148 = .ok (.iconst 0, 1) := by decide +kernel
theorem dX2_copyFrom_149 : decode cX2_copyFrom 149 = .ok (.aload_n 0, 1) := by decide +kernel
theorem dX2_copyFrom_150 : decode cX2_copyFrom 150 = .ok (.getfield 36, 3) := by decide +kernel
theorem dX2_copyFrom_153 : decode cX2_copyFrom 153 = .ok (.iconst 0, 1) := by decide +kernel
theorem dX2_copyFrom_154 : decode cX2_copyFrom 154 = .ok (.aload_n 0, 1) := by decide +kernel
theorem dX2_copyFrom_155 : decode cX2_copyFrom 155 = .ok (.getfield 36, 3) := by decide +kernel
theorem dX2_copyFrom_158 : decode cX2_copyFrom 158 = .ok (.arraylength, 1) := by decide +kernel
theorem dX2_copyFrom_159 : decode cX2_copyFrom 159 = .ok (.invokestatic 71, 3) := by decide +kernel
theorem dX2_copyFrom_162 : decode cX2_copyFrom 162 = .ok (.iconst 0, 1) := by decide +kernel
theorem dX2_copyFrom_163 : decode cX2_copyFrom 163 = .ok (.istore_n 2, 1) := by decide +kernel
theorem dX2_copyFrom_164 : decode cX2_copyFrom 164 = .ok (.iload_n 2, 1) := by decide +kernel
theorem dX2_copyFrom_165 : decode cX2_copyFrom 165 = .ok (.bipush 6, 2) := by decide +kernel
theorem dX2_copyFrom_167 : decode cX2_copyFrom 167 = .ok (.if_icmp .ge 21, 3) := by decide +kernel
theorem dX2_copyFrom_170 : decode cX2_copyFrom 170 = .ok (.aload_n 0, 1) := by decide +kernel
theorem dX2_copyFrom_171 : decode cX2_copyFrom 171 = .ok (.getfield 41, 3) := by decide +kernel
theorem dX2_copyFrom_174 : decode cX2_copyFrom 174 = .ok (.iload_n 2, 1) := by decide +kernel
theorem dX2_copyFrom_175 : decode cX2_copyFrom 175 = .ok (.aload_n 1, 1) := by decide +kernel
theorem dX2_copyFrom_176 : decode cX2_copyFrom 176 = .ok (.getfield 41, 3) := by decide +kernel
theorem dX2_copyFrom_179 : decode cX2_copyFrom 179 = .ok (.iload_n 2, 1) := by decide +kernel
theorem dX2_copyFrom_180 : decode cX2_copyFrom 180 = .ok (.aaload, 1) := by decide +kernel
theorem dX2_copyFrom_181 : decode cX2_copyFrom 181 = .ok (.aastore, 1) := by decide +kernel
theorem dX2_copyFrom_182 : decode cX2_copyFrom 182 = .ok (.iinc 2 1, 3) := by decide +kernel
theorem dX2_copyFrom_185 : decode cX2_copyFrom 185 = .ok (.goto (-21), 3) := by decide +kernel
theorem dX2_copyFrom_188 : decode cX2_copyFrom 188 = .ok (.aload_n 0, 1) := by decide +kernel
theorem dX2_copyFrom_189 : decode cX2_copyFrom 189 = .ok (.aload_n 1, 1) := by decide +kernel
theorem dX2_copyFrom_190 : decode cX2_copyFrom 190 = .ok (.getfield 45, 3) := by decide +kernel
theorem dX2_copyFrom_193 : decode cX2_copyFrom 193 = .ok (.putfield 45, 3) := by decide +kernel
theorem dX2_copyFrom_196 : decode cX2_copyFrom 196 = .ok (.aload_n 0, 1) := by decide +kernel
theorem dX2_copyFrom_197 : decode cX2_copyFrom 197 = .ok (.aload_n 1, 1) := by decide +kernel
theorem dX2_copyFrom_198 : decode cX2_copyFrom 198 = .ok (.getfield 49, 3) := by decide +kernel
theorem dX2_copyFrom_201 : decode cX2_copyFrom 201 = .ok (.putfield 49, 3) := by decide +kernel
theorem dX2_copyFrom_204 : decode cX2_copyFrom 204 = .ok (.aload_n 0, 1) := by decide +kernel
theorem dX2_copyFrom_205 : decode cX2_copyFrom 205 = .ok (.aload_n 1, 1) := by decide +kernel
theorem dX2_copyFrom_206 : decode cX2_copyFrom 206 = .ok (.getfield 52, 3) := by decide +kernel
theorem dX2_copyFrom_209 : decode cX2_copyFrom 209 = .ok (.putfield 52, 3) := by decide +kernel
theorem dX2_copyFrom_212 : decode cX2_copyFrom 212 = .ok (.aload_n 0, 1) := by decide +kernel
theorem dX2_copyFrom_213 : decode cX2_copyFrom 213 = .ok (.aload_n 1, 1) := by decide +kernel
theorem dX2_copyFrom_214 : decode cX2_copyFrom 214 = .ok (.getfield 55, 3) := by decide +kernel
theorem dX2_copyFrom_217 : decode cX2_copyFrom 217 = .ok (.putfield 55, 3) := by decide +kernel
theorem dX2_copyFrom_220 : decode cX2_copyFrom 220 = .ok (.aload_n 0, 1) := by decide +kernel
theorem dX2_copyFrom_221 : decode cX2_copyFrom 221 = .ok (.aload_n 1, 1) := by decide +kernel
theorem dX2_copyFrom_222 : decode cX2_copyFrom 222 = .ok (.getfield 58, 3) := by decide +kernel
theorem dX2_copyFrom_225 : decode cX2_copyFrom 225 = .ok (.putfield 58, 3) := by decide +kernel
theorem dX2_copyFrom_228 : decode cX2_copyFrom 228 = .ok (.aload_n 0, 1) := by decide +kernel
theorem dX2_copyFrom_229 : decode cX2_copyFrom 229 = .ok (.aload_n 1, 1) := by decide +kernel
theorem dX2_copyFrom_230 : decode cX2_copyFrom 230 = .ok (.getfield 61, 3) := by decide +kernel
theorem dX2_copyFrom_233 : decode cX2_copyFrom 233 = .ok (.putfield 61, 3) := by decide +kernel
theorem dX2_copyFrom_236 : decode cX2_copyFrom 236 = .ok (.aload_n 0, 1) := by decide +kernel
theorem dX2_copyFrom_237 : decode cX2_copyFrom 237 = .ok (.aload_n 1, 1) := by decide +kernel
theorem dX2_copyFrom_238 : decode cX2_copyFrom 238 = .ok (.getfield 64, 3) := by decide +kernel
theorem dX2_copyFrom_241 : decode cX2_copyFrom 241 = .ok (.putfield 64, 3) := by decide +kernel
theorem dX2_copyFrom_244 : decode cX2_copyFrom 244 = .ok (.return_, 1) := by decide +kernel
theorem dX2_hasVault_0 : decode cX2_hasVault 0 = .ok (.iload_n 1, 1) := by decide +kernel
theorem dX2_hasVault_1 : decode cX2_hasVault 1 = .ok (.ifCond .lt 15, 3) := by decide +kernel
theorem dX2_hasVault_4 : decode cX2_hasVault 4 = .ok (.iload_n 1, 1) := by decide +kernel
theorem dX2_hasVault_5 : decode cX2_hasVault 5 = .ok (.aload_n 0, 1) := by decide +kernel
theorem dX2_hasVault_6 : decode cX2_hasVault 6 = .ok (.getfield 45, 3) := by decide +kernel
theorem dX2_hasVault_9 : decode cX2_hasVault 9 = .ok (.if_icmp .ge 7, 3) := by decide +kernel
theorem dX2_hasVault_12 : decode cX2_hasVault 12 = .ok (.iconst 1, 1) := by decide +kernel
theorem dX2_hasVault_13 : decode cX2_hasVault 13 = .ok (.goto 4, 3) := by decide +kernel
theorem dX2_hasVault_16 : decode cX2_hasVault 16 = .ok (.iconst 0, 1) := by decide +kernel
theorem dX2_hasVault_17 : decode cX2_hasVault 17 = .ok (.ireturn, 1) := by decide +kernel
theorem dX2_hasFamily_0 : decode cX2_hasFamily 0 = .ok (.iload_n 1, 1) := by decide +kernel
theorem dX2_hasFamily_1 : decode cX2_hasFamily 1 = .ok (.ifCond .lt 15, 3) := by decide +kernel
theorem dX2_hasFamily_4 : decode cX2_hasFamily 4 = .ok (.iload_n 1, 1) := by decide +kernel
theorem dX2_hasFamily_5 : decode cX2_hasFamily 5 = .ok (.aload_n 0, 1) := by decide +kernel
theorem dX2_hasFamily_6 : decode cX2_hasFamily 6 = .ok (.getfield 49, 3) := by decide +kernel
theorem dX2_hasFamily_9 : decode cX2_hasFamily 9 = .ok (.if_icmp .ge 7, 3) := by decide +kernel
theorem dX2_hasFamily_12 : decode cX2_hasFamily 12 = .ok (.iconst 1, 1) := by decide +kernel
theorem dX2_hasFamily_13 : decode cX2_hasFamily 13 = .ok (.goto 4, 3) := by decide +kernel
theorem dX2_hasFamily_16 : decode cX2_hasFamily 16 = .ok (.iconst 0, 1) := by decide +kernel
theorem dX2_hasFamily_17 : decode cX2_hasFamily 17 = .ok (.ireturn, 1) := by decide +kernel
theorem dX2_hasDead_0 : decode cX2_hasDead 0 = .ok (.iload_n 1, 1) := by decide +kernel
theorem dX2_hasDead_1 : decode cX2_hasDead 1 = .ok (.ifCond .lt 15, 3) := by decide +kernel
theorem dX2_hasDead_4 : decode cX2_hasDead 4 = .ok (.iload_n 1, 1) := by decide +kernel
theorem dX2_hasDead_5 : decode cX2_hasDead 5 = .ok (.aload_n 0, 1) := by decide +kernel
theorem dX2_hasDead_6 : decode cX2_hasDead 6 = .ok (.getfield 52, 3) := by decide +kernel
theorem dX2_hasDead_9 : decode cX2_hasDead 9 = .ok (.if_icmp .ge 7, 3) := by decide +kernel
theorem dX2_hasDead_12 : decode cX2_hasDead 12 = .ok (.iconst 1, 1) := by decide +kernel
theorem dX2_hasDead_13 : decode cX2_hasDead 13 = .ok (.goto 4, 3) := by decide +kernel
theorem dX2_hasDead_16 : decode cX2_hasDead 16 = .ok (.iconst 0, 1) := by decide +kernel
theorem dX2_hasDead_17 : decode cX2_hasDead 17 = .ok (.ireturn, 1) := by decide +kernel
theorem dX2_hasLaw_0 : decode cX2_hasLaw 0 = .ok (.iload_n 1, 1) := by decide +kernel
theorem dX2_hasLaw_1 : decode cX2_hasLaw 1 = .ok (.ifCond .lt 15, 3) := by decide +kernel
theorem dX2_hasLaw_4 : decode cX2_hasLaw 4 = .ok (.iload_n 1, 1) := by decide +kernel
theorem dX2_hasLaw_5 : decode cX2_hasLaw 5 = .ok (.aload_n 0, 1) := by decide +kernel
theorem dX2_hasLaw_6 : decode cX2_hasLaw 6 = .ok (.getfield 61, 3) := by decide +kernel
theorem dX2_hasLaw_9 : decode cX2_hasLaw 9 = .ok (.if_icmp .ge 7, 3) := by decide +kernel
theorem dX2_hasLaw_12 : decode cX2_hasLaw 12 = .ok (.iconst 1, 1) := by decide +kernel
theorem dX2_hasLaw_13 : decode cX2_hasLaw 13 = .ok (.goto 4, 3) := by decide +kernel
theorem dX2_hasLaw_16 : decode cX2_hasLaw 16 = .ok (.iconst 0, 1) := by decide +kernel
theorem dX2_hasLaw_17 : decode cX2_hasLaw 17 = .ok (.ireturn, 1) := by decide +kernel
theorem dX2_isIn_0 : decode cX2_isIn 0 = .ok (.aload_n 0, 1) := by decide +kernel
theorem dX2_isIn_1 : decode cX2_isIn 1 = .ok (.iload_n 1, 1) := by decide +kernel
theorem dX2_isIn_2 : decode cX2_isIn 2 = .ok (.invokevirtual 77, 3) := by decide +kernel
theorem dX2_isIn_5 : decode cX2_isIn 5 = .ok (.ifCond .eq 17, 3) := by decide +kernel
theorem dX2_isIn_8 : decode cX2_isIn 8 = .ok (.aload_n 0, 1) := by decide +kernel
theorem dX2_isIn_9 : decode cX2_isIn 9 = .ok (.getfield 21, 3) := by decide +kernel
theorem dX2_isIn_12 : decode cX2_isIn 12 = .ok (.iload_n 1, 1) := by decide +kernel
theorem dX2_isIn_13 : decode cX2_isIn 13 = .ok (.iaload, 1) := by decide +kernel
theorem dX2_isIn_14 : decode cX2_isIn 14 = .ok (.iconst (-1), 1) := by decide +kernel
theorem dX2_isIn_15 : decode cX2_isIn 15 = .ok (.if_icmp .eq 7, 3) := by decide +kernel
theorem dX2_isIn_18 : decode cX2_isIn 18 = .ok (.iconst 1, 1) := by decide +kernel
theorem dX2_isIn_19 : decode cX2_isIn 19 = .ok (.goto 4, 3) := by decide +kernel
theorem dX2_isIn_22 : decode cX2_isIn 22 = .ok (.iconst 0, 1) := by decide +kernel
theorem dX2_isIn_23 : decode cX2_isIn 23 = .ok (.ireturn, 1) := by decide +kernel
theorem dX2_isOut_0 : decode cX2_isOut 0 = .ok (.aload_n 0, 1) := by decide +kernel
theorem dX2_isOut_1 : decode cX2_isOut 1 = .ok (.iload_n 1, 1) := by decide +kernel
theorem dX2_isOut_2 : decode cX2_isOut 2 = .ok (.invokevirtual 77, 3) := by decide +kernel
theorem dX2_isOut_5 : decode cX2_isOut 5 = .ok (.ifCond .eq 17, 3) := by decide +kernel
theorem dX2_isOut_8 : decode cX2_isOut 8 = .ok (.aload_n 0, 1) := by decide +kernel
theorem dX2_isOut_9 : decode cX2_isOut 9 = .ok (.getfield 21, 3) := by decide +kernel
theorem dX2_isOut_12 : decode cX2_isOut 12 = .ok (.iload_n 1, 1) := by decide +kernel
theorem dX2_isOut_13 : decode cX2_isOut 13 = .ok (.iaload, 1) := by decide +kernel
theorem dX2_isOut_14 : decode cX2_isOut 14 = .ok (.iconst (-1), 1) := by decide +kernel
theorem dX2_isOut_15 : decode cX2_isOut 15 = .ok (.if_icmp .ne 7, 3) := by decide +kernel
theorem dX2_isOut_18 : decode cX2_isOut 18 = .ok (.iconst 1, 1) := by decide +kernel
theorem dX2_isOut_19 : decode cX2_isOut 19 = .ok (.goto 4, 3) := by decide +kernel
theorem dX2_isOut_22 : decode cX2_isOut 22 = .ok (.iconst 0, 1) := by decide +kernel
theorem dX2_isOut_23 : decode cX2_isOut 23 = .ok (.ireturn, 1) := by decide +kernel
theorem dX2_lawAt_0 : decode cX2_lawAt 0 = .ok (.aload_n 0, 1) := by decide +kernel
theorem dX2_lawAt_1 : decode cX2_lawAt 1 = .ok (.iload_n 1, 1) := by decide +kernel
theorem dX2_lawAt_2 : decode cX2_lawAt 2 = .ok (.invokevirtual 81, 3) := by decide +kernel
theorem dX2_lawAt_5 : decode cX2_lawAt 5 = .ok (.ifCond .eq 12, 3) := by decide +kernel
theorem dX2_lawAt_8 : decode cX2_lawAt 8 = .ok (.aload_n 0, 1) := by decide +kernel
theorem dX2_lawAt_9 : decode cX2_lawAt 9 = .ok (.getfield 41, 3) := by decide +kernel
theorem dX2_lawAt_12 : decode cX2_lawAt 12 = .ok (.iload_n 1, 1) := by decide +kernel
theorem dX2_lawAt_13 : decode cX2_lawAt 13 = .ok (.aaload, 1) := by decide +kernel
theorem dX2_lawAt_14 : decode cX2_lawAt 14 = .ok (.goto 4, 3) := by decide +kernel
theorem dX2_lawAt_17 : decode cX2_lawAt 17 = .ok (.aconst_null, 1) := by decide +kernel
theorem dX2_lawAt_18 : decode cX2_lawAt 18 = .ok (.areturn, 1) := by decide +kernel
theorem dX2_inForce_0 : decode cX2_inForce 0 = .ok (.aload_n 0, 1) := by decide +kernel
theorem dX2_inForce_1 : decode cX2_inForce 1 = .ok (.aload_n 0, 1) := by decide +kernel
theorem dX2_inForce_2 : decode cX2_inForce 2 = .ok (.getfield 64, 3) := by decide +kernel
theorem dX2_inForce_5 : decode cX2_inForce 5 = .ok (.invokevirtual 84, 3) := by decide +kernel
theorem dX2_inForce_8 : decode cX2_inForce 8 = .ok (.areturn, 1) := by decide +kernel
theorem dX2_wishOf_0 : decode cX2_wishOf 0 = .ok (.aload_n 0, 1) := by decide +kernel
theorem dX2_wishOf_1 : decode cX2_wishOf 1 = .ok (.iload_n 1, 1) := by decide +kernel
theorem dX2_wishOf_2 : decode cX2_wishOf 2 = .ok (.invokevirtual 77, 3) := by decide +kernel
theorem dX2_wishOf_5 : decode cX2_wishOf 5 = .ok (.ifCond .eq 24, 3) := by decide +kernel
theorem dX2_wishOf_8 : decode cX2_wishOf 8 = .ok (.aload_n 0, 1) := by decide +kernel
theorem dX2_wishOf_9 : decode cX2_wishOf 9 = .ok (.iload_n 2, 1) := by decide +kernel
theorem dX2_wishOf_10 : decode cX2_wishOf 10 = .ok (.invokevirtual 88, 3) := by decide +kernel
theorem dX2_wishOf_13 : decode cX2_wishOf 13 = .ok (.ifCond .eq 16, 3) := by decide +kernel
theorem dX2_wishOf_16 : decode cX2_wishOf 16 = .ok (.aload_n 0, 1) := by decide +kernel
theorem dX2_wishOf_17 : decode cX2_wishOf 17 = .ok (.getfield 27, 3) := by decide +kernel
theorem dX2_wishOf_20 : decode cX2_wishOf 20 = .ok (.iload_n 1, 1) := by decide +kernel
theorem dX2_wishOf_21 : decode cX2_wishOf 21 = .ok (.iconst 5, 1) := by decide +kernel
theorem dX2_wishOf_22 : decode cX2_wishOf 22 = .ok (.imul, 1) := by decide +kernel
theorem dX2_wishOf_23 : decode cX2_wishOf 23 = .ok (.iload_n 2, 1) := by decide +kernel
theorem dX2_wishOf_24 : decode cX2_wishOf 24 = .ok (.iadd, 1) := by decide +kernel
theorem dX2_wishOf_25 : decode cX2_wishOf 25 = .ok (.iaload, 1) := by decide +kernel
theorem dX2_wishOf_26 : decode cX2_wishOf 26 = .ok (.goto 4, 3) := by decide +kernel
theorem dX2_wishOf_29 : decode cX2_wishOf 29 = .ok (.iconst 0, 1) := by decide +kernel
theorem dX2_wishOf_30 : decode cX2_wishOf 30 = .ok (.ireturn, 1) := by decide +kernel
theorem dX2_lyingIn_0 : decode cX2_lyingIn 0 = .ok (.iconst 0, 1) := by decide +kernel
theorem dX2_lyingIn_1 : decode cX2_lyingIn 1 = .ok (.istore_n 2, 1) := by decide +kernel
theorem dX2_lyingIn_2 : decode cX2_lyingIn 2 = .ok (.iconst 0, 1) := by decide +kernel
theorem dX2_lyingIn_3 : decode cX2_lyingIn 3 = .ok (.istore_n 3, 1) := by decide +kernel
theorem dX2_lyingIn_4 : decode cX2_lyingIn 4 = .ok (.iload_n 3, 1) := by decide +kernel
theorem dX2_lyingIn_5 : decode cX2_lyingIn 5 = .ok (.aload_n 0, 1) := by decide +kernel
theorem dX2_lyingIn_6 : decode cX2_lyingIn 6 = .ok (.getfield 52, 3) := by decide +kernel
theorem dX2_lyingIn_9 : decode cX2_lyingIn 9 = .ok (.if_icmp .ge 25, 3) := by decide +kernel
theorem dX2_lyingIn_12 : decode cX2_lyingIn 12 = .ok (.aload_n 0, 1) := by decide +kernel
theorem dX2_lyingIn_13 : decode cX2_lyingIn 13 = .ok (.getfield 21, 3) := by decide +kernel
theorem dX2_lyingIn_16 : decode cX2_lyingIn 16 = .ok (.iload_n 3, 1) := by decide +kernel
theorem dX2_lyingIn_17 : decode cX2_lyingIn 17 = .ok (.iaload, 1) := by decide +kernel
theorem dX2_lyingIn_18 : decode cX2_lyingIn 18 = .ok (.iload_n 1, 1) := by decide +kernel
theorem dX2_lyingIn_19 : decode cX2_lyingIn 19 = .ok (.if_icmp .ne 9, 3) := by decide +kernel
theorem dX2_lyingIn_22 : decode cX2_lyingIn 22 = .ok (.iload_n 2, 1) := by decide +kernel
theorem dX2_lyingIn_23 : decode cX2_lyingIn 23 = .ok (.iconst 1, 1) := by decide +kernel
theorem dX2_lyingIn_24 : decode cX2_lyingIn 24 = .ok (.iload_n 3, 1) := by decide +kernel
theorem dX2_lyingIn_25 : decode cX2_lyingIn 25 = .ok (.ishl, 1) := by decide +kernel
theorem dX2_lyingIn_26 : decode cX2_lyingIn 26 = .ok (.ior, 1) := by decide +kernel
theorem dX2_lyingIn_27 : decode cX2_lyingIn 27 = .ok (.istore_n 2, 1) := by decide +kernel
theorem dX2_lyingIn_28 : decode cX2_lyingIn 28 = .ok (.iinc 3 1, 3) := by decide +kernel
theorem dX2_lyingIn_31 : decode cX2_lyingIn 31 = .ok (.goto (-27), 3) := by decide +kernel
theorem dX2_lyingIn_34 : decode cX2_lyingIn 34 = .ok (.iload_n 2, 1) := by decide +kernel
theorem dX2_lyingIn_35 : decode cX2_lyingIn 35 = .ok (.ireturn, 1) := by decide +kernel
theorem dX2_freeBeds_0 : decode cX2_freeBeds 0 = .ok (.aload_n 0, 1) := by decide +kernel
theorem dX2_freeBeds_1 : decode cX2_freeBeds 1 = .ok (.iload_n 1, 1) := by decide +kernel
theorem dX2_freeBeds_2 : decode cX2_freeBeds 2 = .ok (.invokevirtual 88, 3) := by decide +kernel
theorem dX2_freeBeds_5 : decode cX2_freeBeds 5 = .ok (.ifCond .eq 21, 3) := by decide +kernel
theorem dX2_freeBeds_8 : decode cX2_freeBeds 8 = .ok (.aload_n 0, 1) := by decide +kernel
theorem dX2_freeBeds_9 : decode cX2_freeBeds 9 = .ok (.getfield 9, 3) := by decide +kernel
theorem dX2_freeBeds_12 : decode cX2_freeBeds 12 = .ok (.iload_n 1, 1) := by decide +kernel
theorem dX2_freeBeds_13 : decode cX2_freeBeds 13 = .ok (.iaload, 1) := by decide +kernel
theorem dX2_freeBeds_14 : decode cX2_freeBeds 14 = .ok (.aload_n 0, 1) := by decide +kernel
theorem dX2_freeBeds_15 : decode cX2_freeBeds 15 = .ok (.iload_n 1, 1) := by decide +kernel
theorem dX2_freeBeds_16 : decode cX2_freeBeds 16 = .ok (.invokevirtual 91, 3) := by decide +kernel
theorem dX2_freeBeds_19 : decode cX2_freeBeds 19 = .ok (.invokestatic 95, 3) := by decide +kernel
theorem dX2_freeBeds_22 : decode cX2_freeBeds 22 = .ok (.isub, 1) := by decide +kernel
theorem dX2_freeBeds_23 : decode cX2_freeBeds 23 = .ok (.goto 4, 3) := by decide +kernel
theorem dX2_freeBeds_26 : decode cX2_freeBeds 26 = .ok (.iconst (-1), 1) := by decide +kernel
theorem dX2_freeBeds_27 : decode cX2_freeBeds 27 = .ok (.ireturn, 1) := by decide +kernel
theorem dX2_insideCount_0 : decode cX2_insideCount 0 = .ok (.aload_n 0, 1) := by decide +kernel
theorem dX2_insideCount_1 : decode cX2_insideCount 1 = .ok (.getfield 52, 3) := by decide +kernel
theorem dX2_insideCount_4 : decode cX2_insideCount 4 = .ok (.aload_n 0, 1) := by decide +kernel
theorem dX2_insideCount_5 : decode cX2_insideCount 5 = .ok (.iconst (-1), 1) := by decide +kernel
theorem dX2_insideCount_6 : decode cX2_insideCount 6 = .ok (.invokevirtual 91, 3) := by decide +kernel
theorem dX2_insideCount_9 : decode cX2_insideCount 9 = .ok (.invokestatic 95, 3) := by decide +kernel
theorem dX2_insideCount_12 : decode cX2_insideCount 12 = .ok (.isub, 1) := by decide +kernel
theorem dX2_insideCount_13 : decode cX2_insideCount 13 = .ok (.ireturn, 1) := by decide +kernel
theorem dX2_inAfter_0 : decode cX2_inAfter 0 = .ok (.iconst 0, 1) := by decide +kernel
theorem dX2_inAfter_1 : decode cX2_inAfter 1 = .ok (.istore_n 2, 1) := by decide +kernel
theorem dX2_inAfter_2 : decode cX2_inAfter 2 = .ok (.iconst 0, 1) := by decide +kernel
theorem dX2_inAfter_3 : decode cX2_inAfter 3 = .ok (.istore_n 3, 1) := by decide +kernel
theorem dX2_inAfter_4 : decode cX2_inAfter 4 = .ok (.iload_n 3, 1) := by decide +kernel
theorem dX2_inAfter_5 : decode cX2_inAfter 5 = .ok (.aload_n 0, 1) := by decide +kernel
theorem dX2_inAfter_6 : decode cX2_inAfter 6 = .ok (.getfield 52, 3) := by decide +kernel
theorem dX2_inAfter_9 : decode cX2_inAfter 9 = .ok (.if_icmp .ge 25, 3) := by decide +kernel
theorem dX2_inAfter_12 : decode cX2_inAfter 12 = .ok (.aload_n 0, 1) := by decide +kernel
theorem dX2_inAfter_13 : decode cX2_inAfter 13 = .ok (.getfield 24, 3) := by decide +kernel
theorem dX2_inAfter_16 : decode cX2_inAfter 16 = .ok (.iload_n 3, 1) := by decide +kernel
theorem dX2_inAfter_17 : decode cX2_inAfter 17 = .ok (.iaload, 1) := by decide +kernel
theorem dX2_inAfter_18 : decode cX2_inAfter 18 = .ok (.iload_n 1, 1) := by decide +kernel
theorem dX2_inAfter_19 : decode cX2_inAfter 19 = .ok (.if_icmp .le 9, 3) := by decide +kernel
theorem dX2_inAfter_22 : decode cX2_inAfter 22 = .ok (.iload_n 2, 1) := by decide +kernel
theorem dX2_inAfter_23 : decode cX2_inAfter 23 = .ok (.iconst 1, 1) := by decide +kernel
theorem dX2_inAfter_24 : decode cX2_inAfter 24 = .ok (.iload_n 3, 1) := by decide +kernel
theorem dX2_inAfter_25 : decode cX2_inAfter 25 = .ok (.ishl, 1) := by decide +kernel
theorem dX2_inAfter_26 : decode cX2_inAfter 26 = .ok (.ior, 1) := by decide +kernel
theorem dX2_inAfter_27 : decode cX2_inAfter 27 = .ok (.istore_n 2, 1) := by decide +kernel
theorem dX2_inAfter_28 : decode cX2_inAfter 28 = .ok (.iinc 3 1, 3) := by decide +kernel
theorem dX2_inAfter_31 : decode cX2_inAfter 31 = .ok (.goto (-27), 3) := by decide +kernel
theorem dX2_inAfter_34 : decode cX2_inAfter 34 = .ok (.iload_n 2, 1) := by decide +kernel
theorem dX2_inAfter_35 : decode cX2_inAfter 35 = .ok (.ireturn, 1) := by decide +kernel
theorem dX2_strangers_0 : decode cX2_strangers 0 = .ok (.iconst 1, 1) := by decide +kernel
theorem dX2_strangers_1 : decode cX2_strangers 1 = .ok (.aload_n 0, 1) := by decide +kernel
theorem dX2_strangers_2 : decode cX2_strangers 2 = .ok (.getfield 52, 3) := by decide +kernel
theorem dX2_strangers_5 : decode cX2_strangers 5 = .ok (.ishl, 1) := by decide +kernel
theorem dX2_strangers_6 : decode cX2_strangers 6 = .ok (.iconst 1, 1) := by decide +kernel
theorem dX2_strangers_7 : decode cX2_strangers 7 = .ok (.isub, 1) := by decide +kernel
theorem dX2_strangers_8 : decode cX2_strangers 8 = .ok (.istore_n 1, 1) := by decide +kernel
theorem dX2_strangers_9 : decode cX2_strangers 9 = .ok (.iload_n 1, 1) := by decide +kernel
theorem dX2_strangers_10 : decode cX2_strangers 10 = .ok (.istore_n 2, 1) := by decide +kernel
theorem dX2_strangers_11 : decode cX2_strangers 11 = .ok (.iconst 0, 1) := by decide +kernel
theorem dX2_strangers_12 : decode cX2_strangers 12 = .ok (.istore_n 3, 1) := by decide +kernel
theorem dX2_strangers_13 : decode cX2_strangers 13 = .ok (.iload_n 3, 1) := by decide +kernel
theorem dX2_strangers_14 : decode cX2_strangers 14 = .ok (.aload_n 0, 1) := by decide +kernel
theorem dX2_strangers_15 : decode cX2_strangers 15 = .ok (.getfield 58, 3) := by decide +kernel
theorem dX2_strangers_18 : decode cX2_strangers 18 = .ok (.if_icmp .ge 45, 3) := by decide +kernel
theorem dX2_strangers_21 : decode cX2_strangers 21 = .ok (.aload_n 0, 1) := by decide +kernel
theorem dX2_strangers_22 : decode cX2_strangers 22 = .ok (.aload_n 0, 1) := by decide +kernel
theorem dX2_strangers_23 : decode cX2_strangers 23 = .ok (.getfield 30, 3) := by decide +kernel
theorem dX2_strangers_26 : decode cX2_strangers 26 = .ok (.iload_n 3, 1) := by decide +kernel
theorem dX2_strangers_27 : decode cX2_strangers 27 = .ok (.iaload, 1) := by decide +kernel
theorem dX2_strangers_28 : decode cX2_strangers 28 = .ok (.invokevirtual 100, 3) := by decide +kernel
theorem dX2_strangers_31 : decode cX2_strangers 31 = .ok (.istore 4, 2) := by decide +kernel
theorem dX2_strangers_33 : decode cX2_strangers 33 = .ok (.iload_n 2, 1) := by decide +kernel
theorem dX2_strangers_34 : decode cX2_strangers 34 = .ok (.aload_n 0, 1) := by decide +kernel
theorem dX2_strangers_35 : decode cX2_strangers 35 = .ok (.getfield 33, 3) := by decide +kernel
theorem dX2_strangers_38 : decode cX2_strangers 38 = .ok (.iload_n 3, 1) := by decide +kernel
theorem dX2_strangers_39 : decode cX2_strangers 39 = .ok (.iaload, 1) := by decide +kernel
theorem dX2_strangers_40 : decode cX2_strangers 40 = .ok (.iconst 1, 1) := by decide +kernel
theorem dX2_strangers_41 : decode cX2_strangers 41 = .ok (.if_icmp .ne 12, 3) := by decide +kernel
theorem dX2_strangers_44 : decode cX2_strangers 44 = .ok (.iload_n 1, 1) := by decide +kernel
theorem dX2_strangers_45 : decode cX2_strangers 45 = .ok (.iload 4, 2) := by decide +kernel
theorem dX2_strangers_47 : decode cX2_strangers 47 = .ok (.iconst (-1), 1) := by decide +kernel
theorem dX2_strangers_48 : decode cX2_strangers 48 = .ok (.ixor, 1) := by decide +kernel
theorem dX2_strangers_49 : decode cX2_strangers 49 = .ok (.iand, 1) := by decide +kernel
theorem dX2_strangers_50 : decode cX2_strangers 50 = .ok (.goto 5, 3) := by decide +kernel
theorem dX2_strangers_53 : decode cX2_strangers 53 = .ok (.iload 4, 2) := by decide +kernel
theorem dX2_strangers_55 : decode cX2_strangers 55 = .ok (.iand, 1) := by decide +kernel
theorem dX2_strangers_56 : decode cX2_strangers 56 = .ok (.istore_n 2, 1) := by decide +kernel
theorem dX2_strangers_57 : decode cX2_strangers 57 = .ok (.iinc 3 1, 3) := by decide +kernel
theorem dX2_strangers_60 : decode cX2_strangers 60 = .ok (.goto (-47), 3) := by decide +kernel
theorem dX2_strangers_63 : decode cX2_strangers 63 = .ok (.iload_n 2, 1) := by decide +kernel
theorem dX2_strangers_64 : decode cX2_strangers 64 = .ok (.ireturn, 1) := by decide +kernel
theorem dX2_deadOf_0 : decode cX2_deadOf 0 = .ok (.iconst 0, 1) := by decide +kernel
theorem dX2_deadOf_1 : decode cX2_deadOf 1 = .ok (.istore_n 2, 1) := by decide +kernel
theorem dX2_deadOf_2 : decode cX2_deadOf 2 = .ok (.iconst 0, 1) := by decide +kernel
theorem dX2_deadOf_3 : decode cX2_deadOf 3 = .ok (.istore_n 3, 1) := by decide +kernel
theorem dX2_deadOf_4 : decode cX2_deadOf 4 = .ok (.iload_n 3, 1) := by decide +kernel
theorem dX2_deadOf_5 : decode cX2_deadOf 5 = .ok (.aload_n 0, 1) := by decide +kernel
theorem dX2_deadOf_6 : decode cX2_deadOf 6 = .ok (.getfield 52, 3) := by decide +kernel
theorem dX2_deadOf_9 : decode cX2_deadOf 9 = .ok (.if_icmp .ge 25, 3) := by decide +kernel
theorem dX2_deadOf_12 : decode cX2_deadOf 12 = .ok (.aload_n 0, 1) := by decide +kernel
theorem dX2_deadOf_13 : decode cX2_deadOf 13 = .ok (.getfield 18, 3) := by decide +kernel
theorem dX2_deadOf_16 : decode cX2_deadOf 16 = .ok (.iload_n 3, 1) := by decide +kernel
theorem dX2_deadOf_17 : decode cX2_deadOf 17 = .ok (.iaload, 1) := by decide +kernel
theorem dX2_deadOf_18 : decode cX2_deadOf 18 = .ok (.iload_n 1, 1) := by decide +kernel
theorem dX2_deadOf_19 : decode cX2_deadOf 19 = .ok (.if_icmp .ne 9, 3) := by decide +kernel
theorem dX2_deadOf_22 : decode cX2_deadOf 22 = .ok (.iload_n 2, 1) := by decide +kernel
theorem dX2_deadOf_23 : decode cX2_deadOf 23 = .ok (.iconst 1, 1) := by decide +kernel
theorem dX2_deadOf_24 : decode cX2_deadOf 24 = .ok (.iload_n 3, 1) := by decide +kernel
theorem dX2_deadOf_25 : decode cX2_deadOf 25 = .ok (.ishl, 1) := by decide +kernel
theorem dX2_deadOf_26 : decode cX2_deadOf 26 = .ok (.ior, 1) := by decide +kernel
theorem dX2_deadOf_27 : decode cX2_deadOf 27 = .ok (.istore_n 2, 1) := by decide +kernel
theorem dX2_deadOf_28 : decode cX2_deadOf 28 = .ok (.iinc 3 1, 3) := by decide +kernel
theorem dX2_deadOf_31 : decode cX2_deadOf 31 = .ok (.goto (-27), 3) := by decide +kernel
theorem dX2_deadOf_34 : decode cX2_deadOf 34 = .ok (.iload_n 2, 1) := by decide +kernel
theorem dX2_deadOf_35 : decode cX2_deadOf 35 = .ok (.ireturn, 1) := by decide +kernel
theorem dX2_bill_0 : decode cX2_bill 0 = .ok (.iconst 0, 1) := by decide +kernel
theorem dX2_bill_1 : decode cX2_bill 1 = .ok (.istore_n 2, 1) := by decide +kernel
theorem dX2_bill_2 : decode cX2_bill 2 = .ok (.iconst 0, 1) := by decide +kernel
theorem dX2_bill_3 : decode cX2_bill 3 = .ok (.istore_n 3, 1) := by decide +kernel
theorem dX2_bill_4 : decode cX2_bill 4 = .ok (.iload_n 3, 1) := by decide +kernel
theorem dX2_bill_5 : decode cX2_bill 5 = .ok (.aload_n 0, 1) := by decide +kernel
theorem dX2_bill_6 : decode cX2_bill 6 = .ok (.getfield 52, 3) := by decide +kernel
theorem dX2_bill_9 : decode cX2_bill 9 = .ok (.if_icmp .ge 40, 3) := by decide +kernel
theorem dX2_bill_12 : decode cX2_bill 12 = .ok (.aload_n 0, 1) := by decide +kernel
theorem dX2_bill_13 : decode cX2_bill 13 = .ok (.getfield 18, 3) := by decide +kernel
theorem dX2_bill_16 : decode cX2_bill 16 = .ok (.iload_n 3, 1) := by decide +kernel
theorem dX2_bill_17 : decode cX2_bill 17 = .ok (.iaload, 1) := by decide +kernel
theorem dX2_bill_18 : decode cX2_bill 18 = .ok (.iload_n 1, 1) := by decide +kernel
theorem dX2_bill_19 : decode cX2_bill 19 = .ok (.if_icmp .ne 24, 3) := by decide +kernel
theorem dX2_bill_22 : decode cX2_bill 22 = .ok (.aload_n 0, 1) := by decide +kernel
theorem dX2_bill_23 : decode cX2_bill 23 = .ok (.iload_n 3, 1) := by decide +kernel
theorem dX2_bill_24 : decode cX2_bill 24 = .ok (.invokevirtual 103, 3) := by decide +kernel
theorem dX2_bill_27 : decode cX2_bill 27 = .ok (.ifCond .eq 16, 3) := by decide +kernel
theorem dX2_bill_30 : decode cX2_bill 30 = .ok (.iload_n 2, 1) := by decide +kernel
theorem dX2_bill_31 : decode cX2_bill 31 = .ok (.aload_n 0, 1) := by decide +kernel
theorem dX2_bill_32 : decode cX2_bill 32 = .ok (.aload_n 0, 1) := by decide +kernel
theorem dX2_bill_33 : decode cX2_bill 33 = .ok (.invokevirtual 106, 3) := by decide +kernel
theorem dX2_bill_36 : decode cX2_bill 36 = .ok (.iconst 0, 1) := by decide +kernel
theorem dX2_bill_37 : decode cX2_bill 37 = .ok (.iload_n 3, 1) := by decide +kernel
theorem dX2_bill_38 : decode cX2_bill 38 = .ok (.invokevirtual 110, 3) := by decide +kernel
theorem dX2_bill_41 : decode cX2_bill 41 = .ok (.iadd, 1) := by decide +kernel
theorem dX2_bill_42 : decode cX2_bill 42 = .ok (.istore_n 2, 1) := by decide +kernel
theorem dX2_bill_43 : decode cX2_bill 43 = .ok (.iinc 3 1, 3) := by decide +kernel
theorem dX2_bill_46 : decode cX2_bill 46 = .ok (.goto (-42), 3) := by decide +kernel
theorem dX2_bill_49 : decode cX2_bill 49 = .ok (.iload_n 2, 1) := by decide +kernel
theorem dX2_bill_50 : decode cX2_bill 50 = .ok (.ireturn, 1) := by decide +kernel
theorem dX2_told_0 : decode cX2_told 0 = .ok (.aload_n 0, 1) := by decide +kernel
theorem dX2_told_1 : decode cX2_told 1 = .ok (.getfield 67, 3) := by decide +kernel
theorem dX2_told_4 : decode cX2_told 4 = .ok (.aload_n 0, 1) := by decide +kernel
theorem dX2_told_5 : decode cX2_told 5 = .ok (.iload_n 3, 1) := by decide +kernel
theorem dX2_told_6 : decode cX2_told 6 = .ok (.aload_n 0, 1) := by decide +kernel
theorem dX2_told_7 : decode cX2_told 7 = .ok (.iload_n 3, 1) := by decide +kernel
theorem dX2_told_8 : decode cX2_told 8 = .ok (.invokevirtual 77, 3) := by decide +kernel
theorem dX2_told_11 : decode cX2_told 11 = .ok (.ifCond .eq 12, 3) := by decide +kernel
theorem dX2_told_14 : decode cX2_told 14 = .ok (.aload_n 0, 1) := by decide +kernel
theorem dX2_told_15 : decode cX2_told 15 = .ok (.getfield 21, 3) := by decide +kernel
theorem dX2_told_18 : decode cX2_told 18 = .ok (.iload_n 3, 1) := by decide +kernel
theorem dX2_told_19 : decode cX2_told 19 = .ok (.iaload, 1) := by decide +kernel
theorem dX2_told_20 : decode cX2_told 20 = .ok (.goto 4, 3) := by decide +kernel
theorem dX2_told_23 : decode cX2_told 23 = .ok (.iconst (-1), 1) := by decide +kernel
theorem dX2_told_24 : decode cX2_told 24 = .ok (.invokevirtual 114, 3) := by decide +kernel
theorem dX2_told_27 : decode cX2_told 27 = .ok (.aload_n 0, 1) := by decide +kernel
theorem dX2_told_28 : decode cX2_told 28 = .ok (.getfield 67, 3) := by decide +kernel
theorem dX2_told_31 : decode cX2_told 31 = .ok (.aload_n 1, 1) := by decide +kernel
theorem dX2_told_32 : decode cX2_told 32 = .ok (.iload_n 2, 1) := by decide +kernel
theorem dX2_told_33 : decode cX2_told 33 = .ok (.invokevirtual 120, 3) := by decide +kernel
theorem dX2_told_36 : decode cX2_told 36 = .ok (.ireturn, 1) := by decide +kernel
theorem dX2_pricedAfter_0 : decode cX2_pricedAfter 0 = .ok (.aload_n 0, 1) := by decide +kernel
theorem dX2_pricedAfter_1 : decode cX2_pricedAfter 1 = .ok (.getfield 67, 3) := by decide +kernel
theorem dX2_pricedAfter_4 : decode cX2_pricedAfter 4 = .ok (.aload_n 0, 1) := by decide +kernel
theorem dX2_pricedAfter_5 : decode cX2_pricedAfter 5 = .ok (.iload_n 1, 1) := by decide +kernel
theorem dX2_pricedAfter_6 : decode cX2_pricedAfter 6 = .ok (.aload_n 0, 1) := by decide +kernel
theorem dX2_pricedAfter_7 : decode cX2_pricedAfter 7 = .ok (.iload_n 1, 1) := by decide +kernel
theorem dX2_pricedAfter_8 : decode cX2_pricedAfter 8 = .ok (.invokevirtual 77, 3) := by decide +kernel
theorem dX2_pricedAfter_11 : decode cX2_pricedAfter 11 = .ok (.ifCond .eq 12, 3) := by decide +kernel
theorem dX2_pricedAfter_14 : decode cX2_pricedAfter 14 = .ok (.aload_n 0, 1) := by decide +kernel
theorem dX2_pricedAfter_15 : decode cX2_pricedAfter 15 = .ok (.getfield 21, 3) := by decide +kernel
theorem dX2_pricedAfter_18 : decode cX2_pricedAfter 18 = .ok (.iload_n 1, 1) := by decide +kernel
theorem dX2_pricedAfter_19 : decode cX2_pricedAfter 19 = .ok (.iaload, 1) := by decide +kernel
theorem dX2_pricedAfter_20 : decode cX2_pricedAfter 20 = .ok (.goto 4, 3) := by decide +kernel
theorem dX2_pricedAfter_23 : decode cX2_pricedAfter 23 = .ok (.iconst (-1), 1) := by decide +kernel
theorem dX2_pricedAfter_24 : decode cX2_pricedAfter 24 = .ok (.invokevirtual 114, 3) := by decide +kernel
theorem dX2_pricedAfter_27 : decode cX2_pricedAfter 27 = .ok (.aload_n 0, 1) := by decide +kernel
theorem dX2_pricedAfter_28 : decode cX2_pricedAfter 28 = .ok (.getfield 67, 3) := by decide +kernel
theorem dX2_pricedAfter_31 : decode cX2_pricedAfter 31 = .ok (.iload_n 2, 1) := by decide +kernel
theorem dX2_pricedAfter_32 : decode cX2_pricedAfter 32 = .ok (.invokevirtual 123, 3) := by decide +kernel
theorem dX2_pricedAfter_35 : decode cX2_pricedAfter 35 = .ok (.aload_n 0, 1) := by decide +kernel
theorem dX2_pricedAfter_36 : decode cX2_pricedAfter 36 = .ok (.getfield 67, 3) := by decide +kernel
theorem dX2_pricedAfter_39 : decode cX2_pricedAfter 39 = .ok (.aload_n 0, 1) := by decide +kernel
theorem dX2_pricedAfter_40 : decode cX2_pricedAfter 40 = .ok (.invokevirtual 106, 3) := by decide +kernel
theorem dX2_pricedAfter_43 : decode cX2_pricedAfter 43 = .ok (.iconst 0, 1) := by decide +kernel
theorem dX2_pricedAfter_44 : decode cX2_pricedAfter 44 = .ok (.invokevirtual 120, 3) := by decide +kernel
theorem dX2_pricedAfter_47 : decode cX2_pricedAfter 47 = .ok (.ireturn, 1) := by decide +kernel
theorem dX2_earned_0 : decode cX2_earned 0 = .ok (.aload_n 0, 1) := by decide +kernel
theorem dX2_earned_1 : decode cX2_earned 1 = .ok (.getfield 67, 3) := by decide +kernel
theorem dX2_earned_4 : decode cX2_earned 4 = .ok (.aload_n 0, 1) := by decide +kernel
theorem dX2_earned_5 : decode cX2_earned 5 = .ok (.iload_n 1, 1) := by decide +kernel
theorem dX2_earned_6 : decode cX2_earned 6 = .ok (.invokevirtual 127, 3) := by decide +kernel
theorem dX2_earned_9 : decode cX2_earned 9 = .ok (.aload_n 0, 1) := by decide +kernel
theorem dX2_earned_10 : decode cX2_earned 10 = .ok (.getfield 67, 3) := by decide +kernel
theorem dX2_earned_13 : decode cX2_earned 13 = .ok (.aload_n 0, 1) := by decide +kernel
theorem dX2_earned_14 : decode cX2_earned 14 = .ok (.invokevirtual 106, 3) := by decide +kernel
theorem dX2_earned_17 : decode cX2_earned 17 = .ok (.iconst 2, 1) := by decide +kernel
theorem dX2_earned_18 : decode cX2_earned 18 = .ok (.invokevirtual 120, 3) := by decide +kernel
theorem dX2_earned_21 : decode cX2_earned 21 = .ok (.ireturn, 1) := by decide +kernel
theorem dX2_isBarred_0 : decode cX2_isBarred 0 = .ok (.aload_n 0, 1) := by decide +kernel
theorem dX2_isBarred_1 : decode cX2_isBarred 1 = .ok (.getfield 67, 3) := by decide +kernel
theorem dX2_isBarred_4 : decode cX2_isBarred 4 = .ok (.aload_n 0, 1) := by decide +kernel
theorem dX2_isBarred_5 : decode cX2_isBarred 5 = .ok (.iload_n 1, 1) := by decide +kernel
theorem dX2_isBarred_6 : decode cX2_isBarred 6 = .ok (.iload_n 2, 1) := by decide +kernel
theorem dX2_isBarred_7 : decode cX2_isBarred 7 = .ok (.invokevirtual 114, 3) := by decide +kernel
theorem dX2_isBarred_10 : decode cX2_isBarred 10 = .ok (.aload_n 0, 1) := by decide +kernel
theorem dX2_isBarred_11 : decode cX2_isBarred 11 = .ok (.getfield 67, 3) := by decide +kernel
theorem dX2_isBarred_14 : decode cX2_isBarred 14 = .ok (.aload_n 0, 1) := by decide +kernel
theorem dX2_isBarred_15 : decode cX2_isBarred 15 = .ok (.invokevirtual 106, 3) := by decide +kernel
theorem dX2_isBarred_18 : decode cX2_isBarred 18 = .ok (.invokevirtual 131, 3) := by decide +kernel
theorem dX2_isBarred_21 : decode cX2_isBarred 21 = .ok (.ireturn, 1) := by decide +kernel
theorem dX2_whyNotDead_0 : decode cX2_whyNotDead 0 = .ok (.iload_n 3, 1) := by decide +kernel
theorem dX2_whyNotDead_1 : decode cX2_whyNotDead 1 = .ok (.iconst 1, 1) := by decide +kernel
theorem dX2_whyNotDead_2 : decode cX2_whyNotDead 2 = .ok (.if_icmp .lt 9, 3) := by decide +kernel
theorem dX2_whyNotDead_5 : decode cX2_whyNotDead 5 = .ok (.iload_n 3, 1) := by decide +kernel
theorem dX2_whyNotDead_6 : decode cX2_whyNotDead 6 = .ok (.bipush 99, 2) := by decide +kernel
theorem dX2_whyNotDead_8 : decode cX2_whyNotDead 8 = .ok (.if_icmp .le 5, 3) := by decide +kernel
theorem dX2_whyNotDead_11 : decode cX2_whyNotDead 11 = .ok (.iconst (-1), 1) := by decide +kernel
theorem dX2_whyNotDead_12 : decode cX2_whyNotDead 12 = .ok (.ireturn, 1) := by decide +kernel
theorem dX2_whyNotDead_13 : decode cX2_whyNotDead 13 = .ok (.aload_n 0, 1) := by decide +kernel
theorem dX2_whyNotDead_14 : decode cX2_whyNotDead 14 = .ok (.iload_n 1, 1) := by decide +kernel
theorem dX2_whyNotDead_15 : decode cX2_whyNotDead 15 = .ok (.invokevirtual 135, 3) := by decide +kernel
theorem dX2_whyNotDead_18 : decode cX2_whyNotDead 18 = .ok (.ifCond .eq 11, 3) := by decide +kernel
theorem dX2_whyNotDead_21 : decode cX2_whyNotDead 21 = .ok (.aload_n 0, 1) := by decide +kernel
theorem dX2_whyNotDead_22 : decode cX2_whyNotDead 22 = .ok (.iload_n 2, 1) := by decide +kernel
theorem dX2_whyNotDead_23 : decode cX2_whyNotDead 23 = .ok (.invokevirtual 88, 3) := by decide +kernel
theorem dX2_whyNotDead_26 : decode cX2_whyNotDead 26 = .ok (.ifCond .ne 6, 3) := by decide +kernel
theorem dX2_whyNotDead_29 : decode cX2_whyNotDead 29 = .ok (.bipush (-2), 2) := by decide +kernel
theorem dX2_whyNotDead_31 : decode cX2_whyNotDead 31 = .ok (.ireturn, 1) := by decide +kernel
theorem dX2_whyNotDead_32 : decode cX2_whyNotDead 32 = .ok (.aload_n 0, 1) := by decide +kernel
theorem dX2_whyNotDead_33 : decode cX2_whyNotDead 33 = .ok (.iload_n 2, 1) := by decide +kernel
theorem dX2_whyNotDead_34 : decode cX2_whyNotDead 34 = .ok (.invokevirtual 138, 3) := by decide +kernel
theorem dX2_whyNotDead_37 : decode cX2_whyNotDead 37 = .ok (.iconst 1, 1) := by decide +kernel
theorem dX2_whyNotDead_38 : decode cX2_whyNotDead 38 = .ok (.if_icmp .ge 6, 3) := by decide +kernel
theorem dX2_whyNotDead_41 : decode cX2_whyNotDead 41 = .ok (.bipush (-3), 2) := by decide +kernel
theorem dX2_whyNotDead_43 : decode cX2_whyNotDead 43 = .ok (.ireturn, 1) := by decide +kernel
theorem dX2_whyNotDead_44 : decode cX2_whyNotDead 44 = .ok (.aload_n 0, 1) := by decide +kernel
theorem dX2_whyNotDead_45 : decode cX2_whyNotDead 45 = .ok (.getfield 52, 3) := by decide +kernel
theorem dX2_whyNotDead_48 : decode cX2_whyNotDead 48 = .ok (.bipush 8, 2) := by decide +kernel
theorem dX2_whyNotDead_50 : decode cX2_whyNotDead 50 = .ok (.if_icmp .lt 8, 3) := by decide +kernel
theorem dX2_whyNotDead_53 : decode cX2_whyNotDead 53 = .ok (.bipush (-5), 2) := by decide +kernel
theorem dX2_whyNotDead_55 : decode cX2_whyNotDead 55 = .ok (.goto 4, 3) := by decide +kernel
theorem dX2_whyNotDead_58 : decode cX2_whyNotDead 58 = .ok (.iconst 0, 1) := by decide +kernel
theorem dX2_whyNotDead_59 : decode cX2_whyNotDead 59 = .ok (.ireturn, 1) := by decide +kernel
theorem dX2_addDead_0 : decode cX2_addDead 0 = .ok (.aload_n 0, 1) := by decide +kernel
theorem dX2_addDead_1 : decode cX2_addDead 1 = .ok (.getfield 52, 3) := by decide +kernel
theorem dX2_addDead_4 : decode cX2_addDead 4 = .ok (.bipush 8, 2) := by decide +kernel
theorem dX2_addDead_6 : decode cX2_addDead 6 = .ok (.if_icmp .ge 43, 3) := by decide +kernel
theorem dX2_addDead_9 : decode cX2_addDead 9 = .ok (.aload_n 0, 1) := by decide +kernel
theorem dX2_addDead_10 : decode cX2_addDead 10 = .ok (.getfield 18, 3) := by decide +kernel
theorem dX2_addDead_13 : decode cX2_addDead 13 = .ok (.aload_n 0, 1) := by decide +kernel
theorem dX2_addDead_14 : decode cX2_addDead 14 = .ok (.getfield 52, 3) := by decide +kernel
theorem dX2_addDead_17 : decode cX2_addDead 17 = .ok (.iload_n 1, 1) := by decide +kernel
theorem dX2_addDead_18 : decode cX2_addDead 18 = .ok (.iastore, 1) := by decide +kernel
theorem dX2_addDead_19 : decode cX2_addDead 19 = .ok (.aload_n 0, 1) := by decide +kernel
theorem dX2_addDead_20 : decode cX2_addDead 20 = .ok (.getfield 21, 3) := by decide +kernel
theorem dX2_addDead_23 : decode cX2_addDead 23 = .ok (.aload_n 0, 1) := by decide +kernel
theorem dX2_addDead_24 : decode cX2_addDead 24 = .ok (.getfield 52, 3) := by decide +kernel
theorem dX2_addDead_27 : decode cX2_addDead 27 = .ok (.iload_n 2, 1) := by decide +kernel
theorem dX2_addDead_28 : decode cX2_addDead 28 = .ok (.iastore, 1) := by decide +kernel
theorem dX2_addDead_29 : decode cX2_addDead 29 = .ok (.aload_n 0, 1) := by decide +kernel
theorem dX2_addDead_30 : decode cX2_addDead 30 = .ok (.getfield 24, 3) := by decide +kernel
theorem dX2_addDead_33 : decode cX2_addDead 33 = .ok (.aload_n 0, 1) := by decide +kernel
theorem dX2_addDead_34 : decode cX2_addDead 34 = .ok (.getfield 52, 3) := by decide +kernel
theorem dX2_addDead_37 : decode cX2_addDead 37 = .ok (.iload_n 3, 1) := by decide +kernel
theorem dX2_addDead_38 : decode cX2_addDead 38 = .ok (.iastore, 1) := by decide +kernel
theorem dX2_addDead_39 : decode cX2_addDead 39 = .ok (.aload_n 0, 1) := by decide +kernel
theorem dX2_addDead_40 : decode cX2_addDead 40 = .ok (.dup, 1) := by decide +kernel
theorem dX2_addDead_41 : decode cX2_addDead 41 = .ok (.getfield 52, 3) := by decide +kernel
theorem dX2_addDead_44 : decode cX2_addDead 44 = .ok (.iconst 1, 1) := by decide +kernel
theorem dX2_addDead_45 : decode cX2_addDead 45 = .ok (.iadd, 1) := by decide +kernel
theorem dX2_addDead_46 : decode cX2_addDead 46 = .ok (.putfield 52, 3) := by decide +kernel
theorem dX2_addDead_49 : decode cX2_addDead 49 = .ok (.return_, 1) := by decide +kernel
theorem dX2_renewFor_0 : decode cX2_renewFor 0 = .ok (.aload_n 0, 1) := by decide +kernel
theorem dX2_renewFor_1 : decode cX2_renewFor 1 = .ok (.iload_n 1, 1) := by decide +kernel
theorem dX2_renewFor_2 : decode cX2_renewFor 2 = .ok (.invokevirtual 77, 3) := by decide +kernel
theorem dX2_renewFor_5 : decode cX2_renewFor 5 = .ok (.ifCond .ne 6, 3) := by decide +kernel
theorem dX2_renewFor_8 : decode cX2_renewFor 8 = .ok (.bipush (-2), 2) := by decide +kernel
theorem dX2_renewFor_10 : decode cX2_renewFor 10 = .ok (.ireturn, 1) := by decide +kernel
theorem dX2_renewFor_11 : decode cX2_renewFor 11 = .ok (.aload_n 0, 1) := by decide +kernel
theorem dX2_renewFor_12 : decode cX2_renewFor 12 = .ok (.getfield 18, 3) := by decide +kernel
theorem dX2_renewFor_15 : decode cX2_renewFor 15 = .ok (.iload_n 1, 1) := by decide +kernel
theorem dX2_renewFor_16 : decode cX2_renewFor 16 = .ok (.iaload, 1) := by decide +kernel
theorem dX2_renewFor_17 : decode cX2_renewFor 17 = .ok (.istore_n 2, 1) := by decide +kernel
theorem dX2_renewFor_18 : decode cX2_renewFor 18 = .ok (.aload_n 0, 1) := by decide +kernel
theorem dX2_renewFor_19 : decode cX2_renewFor 19 = .ok (.iload_n 1, 1) := by decide +kernel
theorem dX2_renewFor_20 : decode cX2_renewFor 20 = .ok (.invokevirtual 103, 3) := by decide +kernel
theorem dX2_renewFor_23 : decode cX2_renewFor 23 = .ok (.ifCond .eq 11, 3) := by decide +kernel
theorem dX2_renewFor_26 : decode cX2_renewFor 26 = .ok (.aload_n 0, 1) := by decide +kernel
theorem dX2_renewFor_27 : decode cX2_renewFor 27 = .ok (.iload_n 2, 1) := by decide +kernel
theorem dX2_renewFor_28 : decode cX2_renewFor 28 = .ok (.invokevirtual 135, 3) := by decide +kernel
theorem dX2_renewFor_31 : decode cX2_renewFor 31 = .ok (.ifCond .ne 6, 3) := by decide +kernel
theorem dX2_renewFor_34 : decode cX2_renewFor 34 = .ok (.bipush (-3), 2) := by decide +kernel
theorem dX2_renewFor_36 : decode cX2_renewFor 36 = .ok (.ireturn, 1) := by decide +kernel
theorem dX2_renewFor_37 : decode cX2_renewFor 37 = .ok (.aload_n 0, 1) := by decide +kernel
theorem dX2_renewFor_38 : decode cX2_renewFor 38 = .ok (.getfield 67, 3) := by decide +kernel
theorem dX2_renewFor_41 : decode cX2_renewFor 41 = .ok (.aload_n 0, 1) := by decide +kernel
theorem dX2_renewFor_42 : decode cX2_renewFor 42 = .ok (.iload_n 1, 1) := by decide +kernel
theorem dX2_renewFor_43 : decode cX2_renewFor 43 = .ok (.aload_n 0, 1) := by decide +kernel
theorem dX2_renewFor_44 : decode cX2_renewFor 44 = .ok (.getfield 21, 3) := by decide +kernel
theorem dX2_renewFor_47 : decode cX2_renewFor 47 = .ok (.iload_n 1, 1) := by decide +kernel
theorem dX2_renewFor_48 : decode cX2_renewFor 48 = .ok (.iaload, 1) := by decide +kernel
theorem dX2_renewFor_49 : decode cX2_renewFor 49 = .ok (.invokevirtual 114, 3) := by decide +kernel
theorem dX2_renewFor_52 : decode cX2_renewFor 52 = .ok (.aload_n 0, 1) := by decide +kernel
theorem dX2_renewFor_53 : decode cX2_renewFor 53 = .ok (.getfield 67, 3) := by decide +kernel
theorem dX2_renewFor_56 : decode cX2_renewFor 56 = .ok (.aload_n 0, 1) := by decide +kernel
theorem dX2_renewFor_57 : decode cX2_renewFor 57 = .ok (.invokevirtual 106, 3) := by decide +kernel
theorem dX2_renewFor_60 : decode cX2_renewFor 60 = .ok (.iconst 0, 1) := by decide +kernel
theorem dX2_renewFor_61 : decode cX2_renewFor 61 = .ok (.invokevirtual 120, 3) := by decide +kernel
theorem dX2_renewFor_64 : decode cX2_renewFor 64 = .ok (.istore_n 3, 1) := by decide +kernel
theorem dX2_renewFor_65 : decode cX2_renewFor 65 = .ok (.aload_n 0, 1) := by decide +kernel
theorem dX2_renewFor_66 : decode cX2_renewFor 66 = .ok (.getfield 67, 3) := by decide +kernel
theorem dX2_renewFor_69 : decode cX2_renewFor 69 = .ok (.aload_n 0, 1) := by decide +kernel
theorem dX2_renewFor_70 : decode cX2_renewFor 70 = .ok (.invokevirtual 106, 3) := by decide +kernel
theorem dX2_renewFor_73 : decode cX2_renewFor 73 = .ok (.iconst 1, 1) := by decide +kernel
theorem dX2_renewFor_74 : decode cX2_renewFor 74 = .ok (.invokevirtual 120, 3) := by decide +kernel
theorem dX2_renewFor_77 : decode cX2_renewFor 77 = .ok (.istore 4, 2) := by decide +kernel
theorem dX2_renewFor_79 : decode cX2_renewFor 79 = .ok (.aload_n 0, 1) := by decide +kernel
theorem dX2_renewFor_80 : decode cX2_renewFor 80 = .ok (.getfield 15, 3) := by decide +kernel
theorem dX2_renewFor_83 : decode cX2_renewFor 83 = .ok (.iload_n 2, 1) := by decide +kernel
theorem dX2_renewFor_84 : decode cX2_renewFor 84 = .ok (.iaload, 1) := by decide +kernel
theorem dX2_renewFor_85 : decode cX2_renewFor 85 = .ok (.iload_n 3, 1) := by decide +kernel
theorem dX2_renewFor_86 : decode cX2_renewFor 86 = .ok (.if_icmp .ge 6, 3) := by decide +kernel
theorem dX2_renewFor_89 : decode cX2_renewFor 89 = .ok (.bipush (-3), 2) := by decide +kernel
theorem dX2_renewFor_91 : decode cX2_renewFor 91 = .ok (.ireturn, 1) := by decide +kernel
theorem dX2_renewFor_92 : decode cX2_renewFor 92 = .ok (.aload_n 0, 1) := by decide +kernel
theorem dX2_renewFor_93 : decode cX2_renewFor 93 = .ok (.getfield 15, 3) := by decide +kernel
theorem dX2_renewFor_96 : decode cX2_renewFor 96 = .ok (.iload_n 2, 1) := by decide +kernel
theorem dX2_renewFor_97 : decode cX2_renewFor 97 = .ok (.dup2, 1) := by decide +kernel
theorem dX2_renewFor_98 : decode cX2_renewFor 98 = .ok (.iaload, 1) := by decide +kernel
theorem dX2_renewFor_99 : decode cX2_renewFor 99 = .ok (.iload_n 3, 1) := by decide +kernel
theorem dX2_renewFor_100 : decode cX2_renewFor 100 = .ok (.isub, 1) := by decide +kernel
theorem dX2_renewFor_101 : decode cX2_renewFor 101 = .ok (.iastore, 1) := by decide +kernel
theorem dX2_renewFor_102 : decode cX2_renewFor 102 = .ok (.aload_n 0, 1) := by decide +kernel
theorem dX2_renewFor_103 : decode cX2_renewFor 103 = .ok (.getfield 24, 3) := by decide +kernel
theorem dX2_renewFor_106 : decode cX2_renewFor 106 = .ok (.iload_n 1, 1) := by decide +kernel
theorem dX2_renewFor_107 : decode cX2_renewFor 107 = .ok (.bipush 99, 2) := by decide +kernel
theorem dX2_renewFor_109 : decode cX2_renewFor 109 = .ok (.aload_n 0, 1) := by decide +kernel
theorem dX2_renewFor_110 : decode cX2_renewFor 110 = .ok (.getfield 24, 3) := by decide +kernel
theorem dX2_renewFor_113 : decode cX2_renewFor 113 = .ok (.iload_n 1, 1) := by decide +kernel
theorem dX2_renewFor_114 : decode cX2_renewFor 114 = .ok (.iaload, 1) := by decide +kernel
theorem dX2_renewFor_115 : decode cX2_renewFor 115 = .ok (.iload 4, 2) := by decide +kernel
theorem dX2_renewFor_117 : decode cX2_renewFor 117 = .ok (.iadd, 1) := by decide +kernel
theorem dX2_renewFor_118 : decode cX2_renewFor 118 = .ok (.invokestatic 141, 3) := by decide +kernel
theorem dX2_renewFor_121 : decode cX2_renewFor 121 = .ok (.iastore, 1) := by decide +kernel
theorem dX2_renewFor_122 : decode cX2_renewFor 122 = .ok (.iload_n 3, 1) := by decide +kernel
theorem dX2_renewFor_123 : decode cX2_renewFor 123 = .ok (.ireturn, 1) := by decide +kernel
theorem dX2_lodgeIn_0 : decode cX2_lodgeIn 0 = .ok (.aload_n 0, 1) := by decide +kernel
theorem dX2_lodgeIn_1 : decode cX2_lodgeIn 1 = .ok (.iload_n 1, 1) := by decide +kernel
theorem dX2_lodgeIn_2 : decode cX2_lodgeIn 2 = .ok (.invokevirtual 77, 3) := by decide +kernel
theorem dX2_lodgeIn_5 : decode cX2_lodgeIn 5 = .ok (.ifCond .eq 11, 3) := by decide +kernel
theorem dX2_lodgeIn_8 : decode cX2_lodgeIn 8 = .ok (.aload_n 0, 1) := by decide +kernel
theorem dX2_lodgeIn_9 : decode cX2_lodgeIn 9 = .ok (.iload_n 2, 1) := by decide +kernel
theorem dX2_lodgeIn_10 : decode cX2_lodgeIn 10 = .ok (.invokevirtual 88, 3) := by decide +kernel
theorem dX2_lodgeIn_13 : decode cX2_lodgeIn 13 = .ok (.ifCond .ne 6, 3) := by decide +kernel
theorem dX2_lodgeIn_16 : decode cX2_lodgeIn 16 = .ok (.bipush (-2), 2) := by decide +kernel
theorem dX2_lodgeIn_18 : decode cX2_lodgeIn 18 = .ok (.ireturn, 1) := by decide +kernel
theorem dX2_lodgeIn_19 : decode cX2_lodgeIn 19 = .ok (.aload_n 0, 1) := by decide +kernel
theorem dX2_lodgeIn_20 : decode cX2_lodgeIn 20 = .ok (.getfield 21, 3) := by decide +kernel
theorem dX2_lodgeIn_23 : decode cX2_lodgeIn 23 = .ok (.iload_n 1, 1) := by decide +kernel
theorem dX2_lodgeIn_24 : decode cX2_lodgeIn 24 = .ok (.iaload, 1) := by decide +kernel
theorem dX2_lodgeIn_25 : decode cX2_lodgeIn 25 = .ok (.iload_n 2, 1) := by decide +kernel
theorem dX2_lodgeIn_26 : decode cX2_lodgeIn 26 = .ok (.if_icmp .eq 12, 3) := by decide +kernel
theorem dX2_lodgeIn_29 : decode cX2_lodgeIn 29 = .ok (.aload_n 0, 1) := by decide +kernel
theorem dX2_lodgeIn_30 : decode cX2_lodgeIn 30 = .ok (.iload_n 2, 1) := by decide +kernel
theorem dX2_lodgeIn_31 : decode cX2_lodgeIn 31 = .ok (.invokevirtual 138, 3) := by decide +kernel
theorem dX2_lodgeIn_34 : decode cX2_lodgeIn 34 = .ok (.iconst 1, 1) := by decide +kernel
theorem dX2_lodgeIn_35 : decode cX2_lodgeIn 35 = .ok (.if_icmp .ge 6, 3) := by decide +kernel
theorem dX2_lodgeIn_38 : decode cX2_lodgeIn 38 = .ok (.bipush (-3), 2) := by decide +kernel
theorem dX2_lodgeIn_40 : decode cX2_lodgeIn 40 = .ok (.ireturn, 1) := by decide +kernel
theorem dX2_lodgeIn_41 : decode cX2_lodgeIn 41 = .ok (.aload_n 0, 1) := by decide +kernel
theorem dX2_lodgeIn_42 : decode cX2_lodgeIn 42 = .ok (.getfield 67, 3) := by decide +kernel
theorem dX2_lodgeIn_45 : decode cX2_lodgeIn 45 = .ok (.aload_n 0, 1) := by decide +kernel
theorem dX2_lodgeIn_46 : decode cX2_lodgeIn 46 = .ok (.iload_n 1, 1) := by decide +kernel
theorem dX2_lodgeIn_47 : decode cX2_lodgeIn 47 = .ok (.iload_n 2, 1) := by decide +kernel
theorem dX2_lodgeIn_48 : decode cX2_lodgeIn 48 = .ok (.invokevirtual 114, 3) := by decide +kernel
theorem dX2_lodgeIn_51 : decode cX2_lodgeIn 51 = .ok (.aload_n 0, 1) := by decide +kernel
theorem dX2_lodgeIn_52 : decode cX2_lodgeIn 52 = .ok (.getfield 67, 3) := by decide +kernel
theorem dX2_lodgeIn_55 : decode cX2_lodgeIn 55 = .ok (.aload_n 0, 1) := by decide +kernel
theorem dX2_lodgeIn_56 : decode cX2_lodgeIn 56 = .ok (.invokevirtual 106, 3) := by decide +kernel
theorem dX2_lodgeIn_59 : decode cX2_lodgeIn 59 = .ok (.invokevirtual 131, 3) := by decide +kernel
theorem dX2_lodgeIn_62 : decode cX2_lodgeIn 62 = .ok (.ifCond .eq 6, 3) := by decide +kernel
theorem dX2_lodgeIn_65 : decode cX2_lodgeIn 65 = .ok (.bipush (-3), 2) := by decide +kernel
theorem dX2_lodgeIn_67 : decode cX2_lodgeIn 67 = .ok (.ireturn, 1) := by decide +kernel
theorem dX2_lodgeIn_68 : decode cX2_lodgeIn 68 = .ok (.aload_n 0, 1) := by decide +kernel
theorem dX2_lodgeIn_69 : decode cX2_lodgeIn 69 = .ok (.iload_n 1, 1) := by decide +kernel
theorem dX2_lodgeIn_70 : decode cX2_lodgeIn 70 = .ok (.invokevirtual 147, 3) := by decide +kernel
theorem dX2_lodgeIn_73 : decode cX2_lodgeIn 73 = .ok (.ifCond .eq 10, 3) := by decide +kernel
theorem dX2_lodgeIn_76 : decode cX2_lodgeIn 76 = .ok (.aload_n 0, 1) := by decide +kernel
theorem dX2_lodgeIn_77 : decode cX2_lodgeIn 77 = .ok (.getfield 24, 3) := by decide +kernel
theorem dX2_lodgeIn_80 : decode cX2_lodgeIn 80 = .ok (.iload_n 1, 1) := by decide +kernel
theorem dX2_lodgeIn_81 : decode cX2_lodgeIn 81 = .ok (.iconst 1, 1) := by decide +kernel
theorem dX2_lodgeIn_82 : decode cX2_lodgeIn 82 = .ok (.iastore, 1) := by decide +kernel
theorem dX2_lodgeIn_83 : decode cX2_lodgeIn 83 = .ok (.aload_n 0, 1) := by decide +kernel
theorem dX2_lodgeIn_84 : decode cX2_lodgeIn 84 = .ok (.getfield 21, 3) := by decide +kernel
theorem dX2_lodgeIn_87 : decode cX2_lodgeIn 87 = .ok (.iload_n 1, 1) := by decide +kernel
theorem dX2_lodgeIn_88 : decode cX2_lodgeIn 88 = .ok (.iload_n 2, 1) := by decide +kernel
theorem dX2_lodgeIn_89 : decode cX2_lodgeIn 89 = .ok (.iastore, 1) := by decide +kernel
theorem dX2_lodgeIn_90 : decode cX2_lodgeIn 90 = .ok (.aload_n 0, 1) := by decide +kernel
theorem dX2_lodgeIn_91 : decode cX2_lodgeIn 91 = .ok (.iload_n 2, 1) := by decide +kernel
theorem dX2_lodgeIn_92 : decode cX2_lodgeIn 92 = .ok (.invokevirtual 138, 3) := by decide +kernel
theorem dX2_lodgeIn_95 : decode cX2_lodgeIn 95 = .ok (.ireturn, 1) := by decide +kernel
theorem dX2_knockBy_0 : decode cX2_knockBy 0 = .ok (.aload_n 0, 1) := by decide +kernel
theorem dX2_knockBy_1 : decode cX2_knockBy 1 = .ok (.iload_n 1, 1) := by decide +kernel
theorem dX2_knockBy_2 : decode cX2_knockBy 2 = .ok (.invokevirtual 77, 3) := by decide +kernel
theorem dX2_knockBy_5 : decode cX2_knockBy 5 = .ok (.ifCond .ne 6, 3) := by decide +kernel
theorem dX2_knockBy_8 : decode cX2_knockBy 8 = .ok (.bipush (-2), 2) := by decide +kernel
theorem dX2_knockBy_10 : decode cX2_knockBy 10 = .ok (.ireturn, 1) := by decide +kernel
theorem dX2_knockBy_11 : decode cX2_knockBy 11 = .ok (.aload_n 0, 1) := by decide +kernel
theorem dX2_knockBy_12 : decode cX2_knockBy 12 = .ok (.iload_n 1, 1) := by decide +kernel
theorem dX2_knockBy_13 : decode cX2_knockBy 13 = .ok (.invokevirtual 103, 3) := by decide +kernel
theorem dX2_knockBy_16 : decode cX2_knockBy 16 = .ok (.ifCond .eq 15, 3) := by decide +kernel
theorem dX2_knockBy_19 : decode cX2_knockBy 19 = .ok (.aload_n 0, 1) := by decide +kernel
theorem dX2_knockBy_20 : decode cX2_knockBy 20 = .ok (.getfield 55, 3) := by decide +kernel
theorem dX2_knockBy_23 : decode cX2_knockBy 23 = .ok (.iload_n 1, 1) := by decide +kernel
theorem dX2_knockBy_24 : decode cX2_knockBy 24 = .ok (.ishr, 1) := by decide +kernel
theorem dX2_knockBy_25 : decode cX2_knockBy 25 = .ok (.iconst 1, 1) := by decide +kernel
theorem dX2_knockBy_26 : decode cX2_knockBy 26 = .ok (.iand, 1) := by decide +kernel
theorem dX2_knockBy_27 : decode cX2_knockBy 27 = .ok (.iconst 1, 1) := by decide +kernel
theorem dX2_knockBy_28 : decode cX2_knockBy 28 = .ok (.if_icmp .ne 6, 3) := by decide +kernel
theorem dX2_knockBy_31 : decode cX2_knockBy 31 = .ok (.bipush (-3), 2) := by decide +kernel
theorem dX2_knockBy_33 : decode cX2_knockBy 33 = .ok (.ireturn, 1) := by decide +kernel
theorem dX2_knockBy_34 : decode cX2_knockBy 34 = .ok (.aload_n 0, 1) := by decide +kernel
theorem dX2_knockBy_35 : decode cX2_knockBy 35 = .ok (.dup, 1) := by decide +kernel
theorem dX2_knockBy_36 : decode cX2_knockBy 36 = .ok (.getfield 55, 3) := by decide +kernel
theorem dX2_knockBy_39 : decode cX2_knockBy 39 = .ok (.iconst 1, 1) := by decide +kernel
theorem dX2_knockBy_40 : decode cX2_knockBy 40 = .ok (.iload_n 1, 1) := by decide +kernel
theorem dX2_knockBy_41 : decode cX2_knockBy 41 = .ok (.ishl, 1) := by decide +kernel
theorem dX2_knockBy_42 : decode cX2_knockBy 42 = .ok (.ior, 1) := by decide +kernel
theorem dX2_knockBy_43 : decode cX2_knockBy 43 = .ok (.putfield 55, 3) := by decide +kernel
theorem dX2_knockBy_46 : decode cX2_knockBy 46 = .ok (.aload_n 0, 1) := by decide +kernel
theorem dX2_knockBy_47 : decode cX2_knockBy 47 = .ok (.getfield 24, 3) := by decide +kernel
theorem dX2_knockBy_50 : decode cX2_knockBy 50 = .ok (.iload_n 1, 1) := by decide +kernel
theorem dX2_knockBy_51 : decode cX2_knockBy 51 = .ok (.bipush 99, 2) := by decide +kernel
theorem dX2_knockBy_53 : decode cX2_knockBy 53 = .ok (.aload_n 0, 1) := by decide +kernel
theorem dX2_knockBy_54 : decode cX2_knockBy 54 = .ok (.getfield 24, 3) := by decide +kernel
theorem dX2_knockBy_57 : decode cX2_knockBy 57 = .ok (.iload_n 1, 1) := by decide +kernel
theorem dX2_knockBy_58 : decode cX2_knockBy 58 = .ok (.iaload, 1) := by decide +kernel
theorem dX2_knockBy_59 : decode cX2_knockBy 59 = .ok (.iconst 1, 1) := by decide +kernel
theorem dX2_knockBy_60 : decode cX2_knockBy 60 = .ok (.iadd, 1) := by decide +kernel
theorem dX2_knockBy_61 : decode cX2_knockBy 61 = .ok (.invokestatic 141, 3) := by decide +kernel
theorem dX2_knockBy_64 : decode cX2_knockBy 64 = .ok (.iastore, 1) := by decide +kernel
theorem dX2_knockBy_65 : decode cX2_knockBy 65 = .ok (.aload_n 0, 1) := by decide +kernel
theorem dX2_knockBy_66 : decode cX2_knockBy 66 = .ok (.getfield 24, 3) := by decide +kernel
theorem dX2_knockBy_69 : decode cX2_knockBy 69 = .ok (.iload_n 1, 1) := by decide +kernel
theorem dX2_knockBy_70 : decode cX2_knockBy 70 = .ok (.iaload, 1) := by decide +kernel
theorem dX2_knockBy_71 : decode cX2_knockBy 71 = .ok (.ireturn, 1) := by decide +kernel
theorem dX2_passYear_0 : decode cX2_passYear 0 = .ok (.aload_n 0, 1) := by decide +kernel
theorem dX2_passYear_1 : decode cX2_passYear 1 = .ok (.getfield 36, 3) := by decide +kernel
theorem dX2_passYear_4 : decode cX2_passYear 4 = .ok (.iconst 0, 1) := by decide +kernel
theorem dX2_passYear_5 : decode cX2_passYear 5 = .ok (.iaload, 1) := by decide +kernel
theorem dX2_passYear_6 : decode cX2_passYear 6 = .ok (.sipush 999, 3) := by decide +kernel
theorem dX2_passYear_9 : decode cX2_passYear 9 = .ok (.if_icmp .lt 6, 3) := by decide +kernel
theorem dX2_passYear_12 : decode cX2_passYear 12 = .ok (.bipush (-3), 2) := by decide +kernel
theorem dX2_passYear_14 : decode cX2_passYear 14 = .ok (.ireturn, 1) := by decide +kernel
theorem dX2_passYear_15 : decode cX2_passYear 15 = .ok (.iconst 0, 1) := by decide +kernel
theorem dX2_passYear_16 : decode cX2_passYear 16 = .ok (.istore_n 1, 1) := by decide +kernel
theorem dX2_passYear_17 : decode cX2_passYear 17 = .ok (.iload_n 1, 1) := by decide +kernel
theorem dX2_passYear_18 : decode cX2_passYear 18 = .ok (.aload_n 0, 1) := by decide +kernel
theorem dX2_passYear_19 : decode cX2_passYear 19 = .ok (.getfield 49, 3) := by decide +kernel
theorem dX2_passYear_22 : decode cX2_passYear 22 = .ok (.if_icmp .ge 49, 3) := by decide +kernel
theorem dX2_passYear_25 : decode cX2_passYear 25 = .ok (.aload_n 0, 1) := by decide +kernel
theorem dX2_passYear_26 : decode cX2_passYear 26 = .ok (.getfield 67, 3) := by decide +kernel
theorem dX2_passYear_29 : decode cX2_passYear 29 = .ok (.aload_n 0, 1) := by decide +kernel
theorem dX2_passYear_30 : decode cX2_passYear 30 = .ok (.iload_n 1, 1) := by decide +kernel
theorem dX2_passYear_31 : decode cX2_passYear 31 = .ok (.invokevirtual 127, 3) := by decide +kernel
theorem dX2_passYear_34 : decode cX2_passYear 34 = .ok (.aload_n 0, 1) := by decide +kernel
theorem dX2_passYear_35 : decode cX2_passYear 35 = .ok (.getfield 15, 3) := by decide +kernel
theorem dX2_passYear_38 : decode cX2_passYear 38 = .ok (.iload_n 1, 1) := by decide +kernel
theorem dX2_passYear_39 : decode cX2_passYear 39 = .ok (.sipush 999, 3) := by decide +kernel
theorem dX2_passYear_42 : decode cX2_passYear 42 = .ok (.aload_n 0, 1) := by decide +kernel
theorem dX2_passYear_43 : decode cX2_passYear 43 = .ok (.getfield 15, 3) := by decide +kernel
theorem dX2_passYear_46 : decode cX2_passYear 46 = .ok (.iload_n 1, 1) := by decide +kernel
theorem dX2_passYear_47 : decode cX2_passYear 47 = .ok (.iaload, 1) := by decide +kernel
theorem dX2_passYear_48 : decode cX2_passYear 48 = .ok (.aload_n 0, 1) := by decide +kernel
theorem dX2_passYear_49 : decode cX2_passYear 49 = .ok (.getfield 67, 3) := by decide +kernel
theorem dX2_passYear_52 : decode cX2_passYear 52 = .ok (.aload_n 0, 1) := by decide +kernel
theorem dX2_passYear_53 : decode cX2_passYear 53 = .ok (.invokevirtual 106, 3) := by decide +kernel
theorem dX2_passYear_56 : decode cX2_passYear 56 = .ok (.iconst 2, 1) := by decide +kernel
theorem dX2_passYear_57 : decode cX2_passYear 57 = .ok (.invokevirtual 120, 3) := by decide +kernel
theorem dX2_passYear_60 : decode cX2_passYear 60 = .ok (.iadd, 1) := by decide +kernel
theorem dX2_passYear_61 : decode cX2_passYear 61 = .ok (.invokestatic 141, 3) := by decide +kernel
theorem dX2_passYear_64 : decode cX2_passYear 64 = .ok (.iastore, 1) := by decide +kernel
theorem dX2_passYear_65 : decode cX2_passYear 65 = .ok (.iinc 1 1, 3) := by decide +kernel
theorem dX2_passYear_68 : decode cX2_passYear 68 = .ok (.goto (-51), 3) := by decide +kernel
theorem dX2_passYear_71 : decode cX2_passYear 71 = .ok (.iconst 0, 1) := by decide +kernel
theorem dX2_passYear_72 : decode cX2_passYear 72 = .ok (.istore_n 1, 1) := by decide +kernel
theorem dX2_passYear_73 : decode cX2_passYear 73 = .ok (.iload_n 1, 1) := by decide +kernel
theorem dX2_passYear_74 : decode cX2_passYear 74 = .ok (.aload_n 0, 1) := by decide +kernel
theorem dX2_passYear_75 : decode cX2_passYear 75 = .ok (.getfield 52, 3) := by decide +kernel
theorem dX2_passYear_78 : decode cX2_passYear 78 = .ok (.if_icmp .ge 52, 3) := by decide +kernel
theorem dX2_passYear_81 : decode cX2_passYear 81 = .ok (.aload_n 0, 1) := by decide +kernel
theorem dX2_passYear_82 : decode cX2_passYear 82 = .ok (.iload_n 1, 1) := by decide +kernel
theorem dX2_passYear_83 : decode cX2_passYear 83 = .ok (.invokevirtual 103, 3) := by decide +kernel
theorem dX2_passYear_86 : decode cX2_passYear 86 = .ok (.ifCond .eq 38, 3) := by decide +kernel
theorem dX2_passYear_89 : decode cX2_passYear 89 = .ok (.aload_n 0, 1) := by decide +kernel
theorem dX2_passYear_90 : decode cX2_passYear 90 = .ok (.getfield 24, 3) := by decide +kernel
theorem dX2_passYear_93 : decode cX2_passYear 93 = .ok (.iload_n 1, 1) := by decide +kernel
theorem dX2_passYear_94 : decode cX2_passYear 94 = .ok (.dup2, 1) := by decide +kernel
theorem dX2_passYear_95 : decode cX2_passYear 95 = .ok (.iaload, 1) := by decide +kernel
theorem dX2_passYear_96 : decode cX2_passYear 96 = .ok (.iconst 1, 1) := by decide +kernel
theorem dX2_passYear_97 : decode cX2_passYear 97 = .ok (.isub, 1) := by decide +kernel
theorem dX2_passYear_98 : decode cX2_passYear 98 = .ok (.iastore, 1) := by decide +kernel
theorem dX2_passYear_99 : decode cX2_passYear 99 = .ok (.aload_n 0, 1) := by decide +kernel
theorem dX2_passYear_100 : decode cX2_passYear 100 = .ok (.getfield 21, 3) := by decide +kernel
theorem dX2_passYear_103 : decode cX2_passYear 103 = .ok (.iload_n 1, 1) := by decide +kernel
theorem dX2_passYear_104 : decode cX2_passYear 104 = .ok (.aload_n 0, 1) := by decide +kernel
theorem dX2_passYear_105 : decode cX2_passYear 105 = .ok (.getfield 24, 3) := by decide +kernel
theorem dX2_passYear_108 : decode cX2_passYear 108 = .ok (.iload_n 1, 1) := by decide +kernel
theorem dX2_passYear_109 : decode cX2_passYear 109 = .ok (.iaload, 1) := by decide +kernel
theorem dX2_passYear_110 : decode cX2_passYear 110 = .ok (.ifCond .ne 7, 3) := by decide +kernel
theorem dX2_passYear_113 : decode cX2_passYear 113 = .ok (.iconst (-1), 1) := by decide +kernel
theorem dX2_passYear_114 : decode cX2_passYear 114 = .ok (.goto 9, 3) := by decide +kernel
theorem dX2_passYear_117 : decode cX2_passYear 117 = .ok (.aload_n 0, 1) := by decide +kernel
theorem dX2_passYear_118 : decode cX2_passYear 118 = .ok (.getfield 21, 3) := by decide +kernel
theorem dX2_passYear_121 : decode cX2_passYear 121 = .ok (.iload_n 1, 1) := by decide +kernel
theorem dX2_passYear_122 : decode cX2_passYear 122 = .ok (.iaload, 1) := by decide +kernel
theorem dX2_passYear_123 : decode cX2_passYear 123 = .ok (.iastore, 1) := by decide +kernel
theorem dX2_passYear_124 : decode cX2_passYear 124 = .ok (.iinc 1 1, 3) := by decide +kernel
theorem dX2_passYear_127 : decode cX2_passYear 127 = .ok (.goto (-54), 3) := by decide +kernel
theorem dX2_passYear_130 : decode cX2_passYear 130 = .ok (.aload_n 0, 1) := by decide +kernel
theorem dX2_passYear_131 : decode cX2_passYear 131 = .ok (.getfield 36, 3) := by decide +kernel
theorem dX2_passYear_134 : decode cX2_passYear 134 = .ok (.iconst 0, 1) := by decide +kernel
theorem dX2_passYear_135 : decode cX2_passYear 135 = .ok (.dup2, 1) := by decide +kernel
theorem dX2_passYear_136 : decode cX2_passYear 136 = .ok (.iaload, 1) := by decide +kernel
theorem dX2_passYear_137 : decode cX2_passYear 137 = .ok (.iconst 1, 1) := by decide +kernel
theorem dX2_passYear_138 : decode cX2_passYear 138 = .ok (.iadd, 1) := by decide +kernel
theorem dX2_passYear_139 : decode cX2_passYear 139 = .ok (.iastore, 1) := by decide +kernel
theorem dX2_passYear_140 : decode cX2_passYear 140 = .ok (.aload_n 0, 1) := by decide +kernel
theorem dX2_passYear_141 : decode cX2_passYear 141 = .ok (.getfield 36, 3) := by decide +kernel
theorem dX2_passYear_144 : decode cX2_passYear 144 = .ok (.iconst 0, 1) := by decide +kernel
theorem dX2_passYear_145 : decode cX2_passYear 145 = .ok (.iaload, 1) := by decide +kernel
theorem dX2_passYear_146 : decode cX2_passYear 146 = .ok (.ireturn, 1) := by decide +kernel
theorem dX3_init_0 : decode cX3_init 0 = .ok (.aload_n 0, 1) := by decide +kernel
theorem dX3_init_1 : decode cX3_init 1 = .ok (.invokespecial 5, 3) := by decide +kernel
theorem dX3_init_4 : decode cX3_init 4 = .ok (.aload_n 0, 1) := by decide +kernel
theorem dX3_init_5 : decode cX3_init 5 = .ok (.sipush 391, 3) := by decide +kernel
theorem dX3_init_8 : decode cX3_init 8 = .ok (.newarray .int, 2) := by decide +kernel
theorem dX3_init_10 : decode cX3_init 10 = .ok (.putfield 11, 3) := by decide +kernel
theorem dX3_init_13 : decode cX3_init 13 = .ok (.aload_n 0, 1) := by decide +kernel
theorem dX3_init_14 : decode cX3_init 14 = .ok (.iconst 0, 1) := by decide +kernel
theorem dX3_init_15 : decode cX3_init 15 = .ok (.putfield 15, 3) := by decide +kernel
theorem dX3_init_18 : decode cX3_init 18 = .ok (.aload_n 0, 1) := by decide +kernel
theorem dX3_init_19 : decode cX3_init 19 = .ok (.iconst 0, 1) := by decide +kernel
theorem dX3_init_20 : decode cX3_init 20 = .ok (.putfield 19, 3) := by decide +kernel
theorem dX3_init_23 : decode cX3_init 23 = .ok (.return_, 1) := by decide +kernel
theorem dX3_clear_0 : decode cX3_clear 0 = .ok (.aload_n 0, 1) := by decide +kernel
theorem dX3_clear_1 : decode cX3_clear 1 = .ok (.iconst 0, 1) := by decide +kernel
theorem dX3_clear_2 : decode cX3_clear 2 = .ok (.putfield 19, 3) := by decide +kernel
theorem dX3_clear_5 : decode cX3_clear 5 = .ok (.return_, 1) := by decide +kernel
theorem dX3_copyFrom_0 : decode cX3_copyFrom 0 = .ok (.aload_n 1, 1) := by decide +kernel
theorem dX3_copyFrom_1 : decode cX3_copyFrom 1 = .ok (.getfield 11, 3) := by decide +kernel
theorem dX3_copyFrom_4 : decode cX3_copyFrom 4 = .ok (.iconst 0, 1) := by decide +kernel
theorem dX3_copyFrom_5 : decode cX3_copyFrom 5 = .ok (.aload_n 0, 1) := by decide +kernel
theorem dX3_copyFrom_6 : decode cX3_copyFrom 6 = .ok (.getfield 11, 3) := by decide +kernel
theorem dX3_copyFrom_9 : decode cX3_copyFrom 9 = .ok (.iconst 0, 1) := by decide +kernel
theorem dX3_copyFrom_10 : decode cX3_copyFrom 10 = .ok (.aload_n 0, 1) := by decide +kernel
theorem dX3_copyFrom_11 : decode cX3_copyFrom 11 = .ok (.getfield 11, 3) := by decide +kernel
theorem dX3_copyFrom_14 : decode cX3_copyFrom 14 = .ok (.arraylength, 1) := by decide +kernel
theorem dX3_copyFrom_15 : decode cX3_copyFrom 15 = .ok (.invokestatic 22, 3) := by decide +kernel
theorem dX3_copyFrom_18 : decode cX3_copyFrom 18 = .ok (.aload_n 0, 1) := by decide +kernel
theorem dX3_copyFrom_19 : decode cX3_copyFrom 19 = .ok (.aload_n 1, 1) := by decide +kernel
theorem dX3_copyFrom_20 : decode cX3_copyFrom 20 = .ok (.getfield 15, 3) := by decide +kernel
theorem dX3_copyFrom_23 : decode cX3_copyFrom 23 = .ok (.putfield 15, 3) := by decide +kernel
theorem dX3_copyFrom_26 : decode cX3_copyFrom 26 = .ok (.aload_n 0, 1) := by decide +kernel
theorem dX3_copyFrom_27 : decode cX3_copyFrom 27 = .ok (.aload_n 1, 1) := by decide +kernel
theorem dX3_copyFrom_28 : decode cX3_copyFrom 28 = .ok (.getfield 19, 3) := by decide +kernel
theorem dX3_copyFrom_31 : decode cX3_copyFrom 31 = .ok (.putfield 19, 3) := by decide +kernel
theorem dX3_copyFrom_34 : decode cX3_copyFrom 34 = .ok (.return_, 1) := by decide +kernel
theorem dX3_prepare_0 : decode cX3_prepare 0 = .ok (.aload_n 0, 1) := by decide +kernel
theorem dX3_prepare_1 : decode cX3_prepare 1 = .ok (.getfield 15, 3) := by decide +kernel
theorem dX3_prepare_4 : decode cX3_prepare 4 = .ok (.bipush 23, 2) := by decide +kernel
theorem dX3_prepare_6 : decode cX3_prepare 6 = .ok (.imul, 1) := by decide +kernel
theorem dX3_prepare_7 : decode cX3_prepare 7 = .ok (.istore_n 3, 1) := by decide +kernel
theorem dX3_prepare_8 : decode cX3_prepare 8 = .ok (.aload_n 0, 1) := by decide +kernel
theorem dX3_prepare_9 : decode cX3_prepare 9 = .ok (.getfield 11, 3) := by decide +kernel
theorem dX3_prepare_12 : decode cX3_prepare 12 = .ok (.iload_n 3, 1) := by decide +kernel
theorem dX3_prepare_13 : decode cX3_prepare 13 = .ok (.iload_n 2, 1) := by decide +kernel
theorem dX3_prepare_14 : decode cX3_prepare 14 = .ok (.iastore, 1) := by decide +kernel
theorem dX3_prepare_15 : decode cX3_prepare 15 = .ok (.aload_n 0, 1) := by decide +kernel
theorem dX3_prepare_16 : decode cX3_prepare 16 = .ok (.getfield 11, 3) := by decide +kernel
theorem dX3_prepare_19 : decode cX3_prepare 19 = .ok (.iload_n 3, 1) := by decide +kernel
theorem dX3_prepare_20 : decode cX3_prepare 20 = .ok (.iconst 1, 1) := by decide +kernel
theorem dX3_prepare_21 : decode cX3_prepare 21 = .ok (.iadd, 1) := by decide +kernel
theorem dX3_prepare_22 : decode cX3_prepare 22 = .ok (.aload_n 1, 1) := by decide +kernel
theorem dX3_prepare_23 : decode cX3_prepare 23 = .ok (.getfield 28, 3) := by decide +kernel
theorem dX3_prepare_26 : decode cX3_prepare 26 = .ok (.iconst 0, 1) := by decide +kernel
theorem dX3_prepare_27 : decode cX3_prepare 27 = .ok (.iaload, 1) := by decide +kernel
theorem dX3_prepare_28 : decode cX3_prepare 28 = .ok (.iastore, 1) := by decide +kernel
theorem dX3_prepare_29 : decode cX3_prepare 29 = .ok (.aload_n 0, 1) := by decide +kernel
theorem dX3_prepare_30 : decode cX3_prepare 30 = .ok (.getfield 11, 3) := by decide +kernel
theorem dX3_prepare_33 : decode cX3_prepare 33 = .ok (.iload_n 3, 1) := by decide +kernel
theorem dX3_prepare_34 : decode cX3_prepare 34 = .ok (.iconst 2, 1) := by decide +kernel
theorem dX3_prepare_35 : decode cX3_prepare 35 = .ok (.iadd, 1) := by decide +kernel
theorem dX3_prepare_36 : decode cX3_prepare 36 = .ok (.aload_n 1, 1) := by decide +kernel
theorem dX3_prepare_37 : decode cX3_prepare 37 = .ok (.getfield 33, 3) := by decide +kernel
theorem dX3_prepare_40 : decode cX3_prepare 40 = .ok (.iastore, 1) := by decide +kernel
theorem dX3_prepare_41 : decode cX3_prepare 41 = .ok (.aload_n 1, 1) := by decide +kernel
theorem dX3_prepare_42 : decode cX3_prepare 42 = .ok (.getfield 36, 3) := by decide +kernel
theorem dX3_prepare_45 : decode cX3_prepare 45 = .ok (.iconst 0, 1) := by decide +kernel
theorem dX3_prepare_46 : decode cX3_prepare 46 = .ok (.aload_n 0, 1) := by decide +kernel
theorem dX3_prepare_47 : decode cX3_prepare 47 = .ok (.getfield 11, 3) := by decide +kernel
theorem dX3_prepare_50 : decode cX3_prepare 50 = .ok (.iload_n 3, 1) := by decide +kernel
theorem dX3_prepare_51 : decode cX3_prepare 51 = .ok (.iconst 3, 1) := by decide +kernel
theorem dX3_prepare_52 : decode cX3_prepare 52 = .ok (.iadd, 1) := by decide +kernel
theorem dX3_prepare_53 : decode cX3_prepare 53 = .ok (.iconst 4, 1) := by decide +kernel
theorem dX3_prepare_54 : decode cX3_prepare 54 = .ok (.invokestatic 22, 3) := by decide +kernel
theorem dX3_prepare_57 : decode cX3_prepare 57 = .ok (.aload_n 1, 1) := by decide +kernel
theorem dX3_prepare_58 : decode cX3_prepare 58 = .ok (.getfield 39, 3) := by decide +kernel
theorem dX3_prepare_61 : decode cX3_prepare 61 = .ok (.iconst 0, 1) := by decide +kernel
theorem dX3_prepare_62 : decode cX3_prepare 62 = .ok (.aload_n 0, 1) := by decide +kernel
theorem dX3_prepare_63 : decode cX3_prepare 63 = .ok (.getfield 11, 3) := by decide +kernel
theorem dX3_prepare_66 : decode cX3_prepare 66 = .ok (.iload_n 3, 1) := by decide +kernel
theorem dX3_prepare_67 : decode cX3_prepare 67 = .ok (.bipush 7, 2) := by decide +kernel
theorem dX3_prepare_69 : decode cX3_prepare 69 = .ok (.iadd, 1) := by decide +kernel
theorem dX3_prepare_70 : decode cX3_prepare 70 = .ok (.bipush 8, 2) := by decide +kernel
theorem dX3_prepare_72 : decode cX3_prepare 72 = .ok (.invokestatic 22, 3) := by decide +kernel
theorem dX3_prepare_75 : decode cX3_prepare 75 = .ok (.aload_n 1, 1) := by decide +kernel
theorem dX3_prepare_76 : decode cX3_prepare 76 = .ok (.getfield 42, 3) := by decide +kernel
theorem dX3_prepare_79 : decode cX3_prepare 79 = .ok (.iconst 0, 1) := by decide +kernel
theorem dX3_prepare_80 : decode cX3_prepare 80 = .ok (.aload_n 0, 1) := by decide +kernel
theorem dX3_prepare_81 : decode cX3_prepare 81 = .ok (.getfield 11, 3) := by decide +kernel
theorem dX3_prepare_84 : decode cX3_prepare 84 = .ok (.iload_n 3, 1) := by decide +kernel
theorem dX3_prepare_85 : decode cX3_prepare 85 = .ok (.bipush 15, 2) := by decide +kernel
theorem dX3_prepare_87 : decode cX3_prepare 87 = .ok (.iadd, 1) := by decide +kernel
theorem dX3_prepare_88 : decode cX3_prepare 88 = .ok (.bipush 8, 2) := by decide +kernel
theorem dX3_prepare_90 : decode cX3_prepare 90 = .ok (.invokestatic 22, 3) := by decide +kernel
theorem dX3_prepare_93 : decode cX3_prepare 93 = .ok (.return_, 1) := by decide +kernel
theorem dX3_commit_0 : decode cX3_commit 0 = .ok (.aload_n 0, 1) := by decide +kernel
theorem dX3_commit_1 : decode cX3_commit 1 = .ok (.aload_n 0, 1) := by decide +kernel
theorem dX3_commit_2 : decode cX3_commit 2 = .ok (.getfield 15, 3) := by decide +kernel
theorem dX3_commit_5 : decode cX3_commit 5 = .ok (.iconst 1, 1) := by decide +kernel
theorem dX3_commit_6 : decode cX3_commit 6 = .ok (.iadd, 1) := by decide +kernel
theorem dX3_commit_7 : decode cX3_commit 7 = .ok (.bipush 17, 2) := by decide +kernel
theorem dX3_commit_9 : decode cX3_commit 9 = .ok (.irem, 1) := by decide +kernel
theorem dX3_commit_10 : decode cX3_commit 10 = .ok (.putfield 15, 3) := by decide +kernel
theorem dX3_commit_13 : decode cX3_commit 13 = .ok (.aload_n 0, 1) := by decide +kernel
theorem dX3_commit_14 : decode cX3_commit 14 = .ok (.bipush 16, 2) := by decide +kernel
theorem dX3_commit_16 : decode cX3_commit 16 = .ok (.aload_n 0, 1) := by decide +kernel
theorem dX3_commit_17 : decode cX3_commit 17 = .ok (.getfield 19, 3) := by decide +kernel
theorem dX3_commit_20 : decode cX3_commit 20 = .ok (.iconst 1, 1) := by decide +kernel
theorem dX3_commit_21 : decode cX3_commit 21 = .ok (.iadd, 1) := by decide +kernel
theorem dX3_commit_22 : decode cX3_commit 22 = .ok (.invokestatic 45, 3) := by decide +kernel
theorem dX3_commit_25 : decode cX3_commit 25 = .ok (.putfield 19, 3) := by decide +kernel
theorem dX3_commit_28 : decode cX3_commit 28 = .ok (.return_, 1) := by decide +kernel
theorem dX3_takeBack_0 : decode cX3_takeBack 0 = .ok (.aload_n 0, 1) := by decide +kernel
theorem dX3_takeBack_1 : decode cX3_takeBack 1 = .ok (.aload_n 0, 1) := by decide +kernel
theorem dX3_takeBack_2 : decode cX3_takeBack 2 = .ok (.getfield 15, 3) := by decide +kernel
theorem dX3_takeBack_5 : decode cX3_takeBack 5 = .ok (.bipush 16, 2) := by decide +kernel
theorem dX3_takeBack_7 : decode cX3_takeBack 7 = .ok (.iadd, 1) := by decide +kernel
theorem dX3_takeBack_8 : decode cX3_takeBack 8 = .ok (.bipush 17, 2) := by decide +kernel
theorem dX3_takeBack_10 : decode cX3_takeBack 10 = .ok (.irem, 1) := by decide +kernel
theorem dX3_takeBack_11 : decode cX3_takeBack 11 = .ok (.putfield 15, 3) := by decide +kernel
theorem dX3_takeBack_14 : decode cX3_takeBack 14 = .ok (.aload_n 0, 1) := by decide +kernel
theorem dX3_takeBack_15 : decode cX3_takeBack 15 = .ok (.dup, 1) := by decide +kernel
theorem dX3_takeBack_16 : decode cX3_takeBack 16 = .ok (.getfield 19, 3) := by decide +kernel
theorem dX3_takeBack_19 : decode cX3_takeBack 19 = .ok (.iconst 1, 1) := by decide +kernel
theorem dX3_takeBack_20 : decode cX3_takeBack 20 = .ok (.isub, 1) := by decide +kernel
theorem dX3_takeBack_21 : decode cX3_takeBack 21 = .ok (.putfield 19, 3) := by decide +kernel
theorem dX3_takeBack_24 : decode cX3_takeBack 24 = .ok (.aload_n 0, 1) := by decide +kernel
theorem dX3_takeBack_25 : decode cX3_takeBack 25 = .ok (.getfield 15, 3) := by decide +kernel
theorem dX3_takeBack_28 : decode cX3_takeBack 28 = .ok (.bipush 23, 2) := by decide +kernel
theorem dX3_takeBack_30 : decode cX3_takeBack 30 = .ok (.imul, 1) := by decide +kernel
theorem dX3_takeBack_31 : decode cX3_takeBack 31 = .ok (.istore_n 2, 1) := by decide +kernel
theorem dX3_takeBack_32 : decode cX3_takeBack 32 = .ok (.aload_n 1, 1) := by decide +kernel
theorem dX3_takeBack_33 : decode cX3_takeBack 33 = .ok (.getfield 28, 3) := by decide +kernel
theorem dX3_takeBack_36 : decode cX3_takeBack 36 = .ok (.iconst 0, 1) := by decide +kernel
theorem dX3_takeBack_37 : decode cX3_takeBack 37 = .ok (.aload_n 0, 1) := by decide +kernel
theorem dX3_takeBack_38 : decode cX3_takeBack 38 = .ok (.getfield 11, 3) := by decide +kernel
theorem dX3_takeBack_41 : decode cX3_takeBack 41 = .ok (.iload_n 2, 1) := by decide +kernel
theorem dX3_takeBack_42 : decode cX3_takeBack 42 = .ok (.iconst 1, 1) := by decide +kernel
theorem dX3_takeBack_43 : decode cX3_takeBack 43 = .ok (.iadd, 1) := by decide +kernel
theorem dX3_takeBack_44 : decode cX3_takeBack 44 = .ok (.iaload, 1) := by decide +kernel
theorem dX3_takeBack_45 : decode cX3_takeBack 45 = .ok (.iastore, 1) := by decide +kernel
theorem dX3_takeBack_46 : decode cX3_takeBack 46 = .ok (.aload_n 1, 1) := by decide +kernel
theorem dX3_takeBack_47 : decode cX3_takeBack 47 = .ok (.aload_n 0, 1) := by decide +kernel
theorem dX3_takeBack_48 : decode cX3_takeBack 48 = .ok (.getfield 11, 3) := by decide +kernel
theorem dX3_takeBack_51 : decode cX3_takeBack 51 = .ok (.iload_n 2, 1) := by decide +kernel
theorem dX3_takeBack_52 : decode cX3_takeBack 52 = .ok (.iconst 2, 1) := by decide +kernel
theorem dX3_takeBack_53 : decode cX3_takeBack 53 = .ok (.iadd, 1) := by decide +kernel
theorem dX3_takeBack_54 : decode cX3_takeBack 54 = .ok (.iaload, 1) := by decide +kernel
theorem dX3_takeBack_55 : decode cX3_takeBack 55 = .ok (.putfield 33, 3) := by decide +kernel
theorem dX3_takeBack_58 : decode cX3_takeBack 58 = .ok (.aload_n 0, 1) := by decide +kernel
theorem dX3_takeBack_59 : decode cX3_takeBack 59 = .ok (.getfield 11, 3) := by decide +kernel
theorem dX3_takeBack_62 : decode cX3_takeBack 62 = .ok (.iload_n 2, 1) := by decide +kernel
theorem dX3_takeBack_63 : decode cX3_takeBack 63 = .ok (.iconst 3, 1) := by decide +kernel
theorem dX3_takeBack_64 : decode cX3_takeBack 64 = .ok (.iadd, 1) := by decide +kernel
theorem dX3_takeBack_65 : decode cX3_takeBack 65 = .ok (.aload_n 1, 1) := by decide +kernel
theorem dX3_takeBack_66 : decode cX3_takeBack 66 = .ok (.getfield 36, 3) := by decide +kernel
theorem dX3_takeBack_69 : decode cX3_takeBack 69 = .ok (.iconst 0, 1) := by decide +kernel
theorem dX3_takeBack_70 : decode cX3_takeBack 70 = .ok (.iconst 4, 1) := by decide +kernel
theorem dX3_takeBack_71 : decode cX3_takeBack 71 = .ok (.invokestatic 22, 3) := by decide +kernel
theorem dX3_takeBack_74 : decode cX3_takeBack 74 = .ok (.aload_n 0, 1) := by decide +kernel
theorem dX3_takeBack_75 : decode cX3_takeBack 75 = .ok (.getfield 11, 3) := by decide +kernel
theorem dX3_takeBack_78 : decode cX3_takeBack 78 = .ok (.iload_n 2, 1) := by decide +kernel
theorem dX3_takeBack_79 : decode cX3_takeBack 79 = .ok (.bipush 7, 2) := by decide +kernel
theorem dX3_takeBack_81 : decode cX3_takeBack 81 = .ok (.iadd, 1) := by decide +kernel
theorem dX3_takeBack_82 : decode cX3_takeBack 82 = .ok (.aload_n 1, 1) := by decide +kernel
theorem dX3_takeBack_83 : decode cX3_takeBack 83 = .ok (.getfield 39, 3) := by decide +kernel
theorem dX3_takeBack_86 : decode cX3_takeBack 86 = .ok (.iconst 0, 1) := by decide +kernel
theorem dX3_takeBack_87 : decode cX3_takeBack 87 = .ok (.bipush 8, 2) := by decide +kernel
theorem dX3_takeBack_89 : decode cX3_takeBack 89 = .ok (.invokestatic 22, 3) := by decide +kernel
theorem dX3_takeBack_92 : decode cX3_takeBack 92 = .ok (.aload_n 0, 1) := by decide +kernel
theorem dX3_takeBack_93 : decode cX3_takeBack 93 = .ok (.getfield 11, 3) := by decide +kernel
theorem dX3_takeBack_96 : decode cX3_takeBack 96 = .ok (.iload_n 2, 1) := by decide +kernel
theorem dX3_takeBack_97 : decode cX3_takeBack 97 = .ok (.bipush 15, 2) := by decide +kernel
theorem dX3_takeBack_99 : decode cX3_takeBack 99 = .ok (.iadd, 1) := by decide +kernel
theorem dX3_takeBack_100 : decode cX3_takeBack 100 = .ok (.aload_n 1, 1) := by decide +kernel
theorem dX3_takeBack_101 : decode cX3_takeBack 101 = .ok (.getfield 42, 3) := by decide +kernel
theorem dX3_takeBack_104 : decode cX3_takeBack 104 = .ok (.iconst 0, 1) := by decide +kernel
theorem dX3_takeBack_105 : decode cX3_takeBack 105 = .ok (.bipush 8, 2) := by decide +kernel
theorem dX3_takeBack_107 : decode cX3_takeBack 107 = .ok (.invokestatic 22, 3) := by decide +kernel
theorem dX3_takeBack_110 : decode cX3_takeBack 110 = .ok (.aload_n 0, 1) := by decide +kernel
theorem dX3_takeBack_111 : decode cX3_takeBack 111 = .ok (.getfield 11, 3) := by decide +kernel
theorem dX3_takeBack_114 : decode cX3_takeBack 114 = .ok (.iload_n 2, 1) := by decide +kernel
theorem dX3_takeBack_115 : decode cX3_takeBack 115 = .ok (.iaload, 1) := by decide +kernel
theorem dX3_takeBack_116 : decode cX3_takeBack 116 = .ok (.ireturn, 1) := by decide +kernel
theorem dX4_init_0 : decode cX4_init 0 = .ok (.aload_n 0, 1) := by decide +kernel
theorem dX4_init_1 : decode cX4_init 1 = .ok (.invokespecial 3, 3) := by decide +kernel
theorem dX4_init_4 : decode cX4_init 4 = .ok (.aload_n 0, 1) := by decide +kernel
theorem dX4_init_5 : decode cX4_init 5 = .ok (.bipush 8, 2) := by decide +kernel
theorem dX4_init_7 : decode cX4_init 7 = .ok (.newarray .int, 2) := by decide +kernel
theorem dX4_init_9 : decode cX4_init 9 = .ok (.putfield 9, 3) := by decide +kernel
theorem dX4_init_12 : decode cX4_init 12 = .ok (.aload_n 0, 1) := by decide +kernel
theorem dX4_init_13 : decode cX4_init 13 = .ok (.bipush 8, 2) := by decide +kernel
theorem dX4_init_15 : decode cX4_init 15 = .ok (.newarray .int, 2) := by decide +kernel
theorem dX4_init_17 : decode cX4_init 17 = .ok (.putfield 15, 3) := by decide +kernel
theorem dX4_init_20 : decode cX4_init 20 = .ok (.return_, 1) := by decide +kernel
theorem dX4_kept_0 : decode cX4_kept 0 = .ok (.aload_n 1, 1) := by decide +kernel
theorem dX4_kept_1 : decode cX4_kept 1 = .ok (.iload_n 2, 1) := by decide +kernel
theorem dX4_kept_2 : decode cX4_kept 2 = .ok (.invokevirtual 18, 3) := by decide +kernel
theorem dX4_kept_5 : decode cX4_kept 5 = .ok (.aload_n 1, 1) := by decide +kernel
theorem dX4_kept_6 : decode cX4_kept 6 = .ok (.iconst 0, 1) := by decide +kernel
theorem dX4_kept_7 : decode cX4_kept 7 = .ok (.invokevirtual 24, 3) := by decide +kernel
theorem dX4_kept_10 : decode cX4_kept 10 = .ok (.iand, 1) := by decide +kernel
theorem dX4_kept_11 : decode cX4_kept 11 = .ok (.istore 5, 2) := by decide +kernel
theorem dX4_kept_13 : decode cX4_kept 13 = .ok (.iconst 0, 1) := by decide +kernel
theorem dX4_kept_14 : decode cX4_kept 14 = .ok (.istore 6, 2) := by decide +kernel
theorem dX4_kept_16 : decode cX4_kept 16 = .ok (.iload 6, 2) := by decide +kernel
theorem dX4_kept_18 : decode cX4_kept 18 = .ok (.aload_n 1, 1) := by decide +kernel
theorem dX4_kept_19 : decode cX4_kept 19 = .ok (.getfield 27, 3) := by decide +kernel
theorem dX4_kept_22 : decode cX4_kept 22 = .ok (.if_icmp .ge 38, 3) := by decide +kernel
theorem dX4_kept_25 : decode cX4_kept 25 = .ok (.aload_n 0, 1) := by decide +kernel
theorem dX4_kept_26 : decode cX4_kept 26 = .ok (.getfield 9, 3) := by decide +kernel
theorem dX4_kept_29 : decode cX4_kept 29 = .ok (.iload 6, 2) := by decide +kernel
theorem dX4_kept_31 : decode cX4_kept 31 = .ok (.iload 5, 2) := by decide +kernel
theorem dX4_kept_33 : decode cX4_kept 33 = .ok (.iload 6, 2) := by decide +kernel
theorem dX4_kept_35 : decode cX4_kept 35 = .ok (.ishr, 1) := by decide +kernel
theorem dX4_kept_36 : decode cX4_kept 36 = .ok (.iconst 1, 1) := by decide +kernel
theorem dX4_kept_37 : decode cX4_kept 37 = .ok (.iand, 1) := by decide +kernel
theorem dX4_kept_38 : decode cX4_kept 38 = .ok (.iconst 1, 1) := by decide +kernel
theorem dX4_kept_39 : decode cX4_kept 39 = .ok (.if_icmp .ne 13, 3) := by decide +kernel
theorem dX4_kept_42 : decode cX4_kept 42 = .ok (.aload_n 1, 1) := by decide +kernel
theorem dX4_kept_43 : decode cX4_kept 43 = .ok (.iload 6, 2) := by decide +kernel
theorem dX4_kept_45 : decode cX4_kept 45 = .ok (.iload_n 3, 1) := by decide +kernel
theorem dX4_kept_46 : decode cX4_kept 46 = .ok (.invokestatic 31, 3) := by decide +kernel
theorem dX4_kept_49 : decode cX4_kept 49 = .ok (.goto 4, 3) := by decide +kernel
theorem dX4_kept_52 : decode cX4_kept 52 = .ok (.iconst 0, 1) := by decide +kernel
theorem dX4_kept_53 : decode cX4_kept 53 = .ok (.iastore, 1) := by decide +kernel
theorem dX4_kept_54 : decode cX4_kept 54 = .ok (.iinc 6 1, 3) := by decide +kernel
theorem dX4_kept_57 : decode cX4_kept 57 = .ok (.goto (-41), 3) := by decide +kernel
theorem dX4_kept_60 : decode cX4_kept 60 = .ok (.iconst 0, 1) := by decide +kernel
theorem dX4_kept_61 : decode cX4_kept 61 = .ok (.istore 6, 2) := by decide +kernel
theorem dX4_kept_63 : decode cX4_kept 63 = .ok (.iconst 0, 1) := by decide +kernel
theorem dX4_kept_64 : decode cX4_kept 64 = .ok (.istore 7, 2) := by decide +kernel
theorem dX4_kept_66 : decode cX4_kept 66 = .ok (.iconst 1, 1) := by decide +kernel
theorem dX4_kept_67 : decode cX4_kept 67 = .ok (.istore 8, 2) := by decide +kernel
theorem dX4_kept_69 : decode cX4_kept 69 = .ok (.iload 8, 2) := by decide +kernel
theorem dX4_kept_71 : decode cX4_kept 71 = .ok (.iload 5, 2) := by decide +kernel
theorem dX4_kept_73 : decode cX4_kept 73 = .ok (.if_icmp .gt 88, 3) := by decide +kernel
theorem dX4_kept_76 : decode cX4_kept 76 = .ok (.aload_n 0, 1) := by decide +kernel
theorem dX4_kept_77 : decode cX4_kept 77 = .ok (.iload 8, 2) := by decide +kernel
theorem dX4_kept_79 : decode cX4_kept 79 = .ok (.invokevirtual 35, 3) := by decide +kernel
theorem dX4_kept_82 : decode cX4_kept 82 = .ok (.istore 9, 2) := by decide +kernel
theorem dX4_kept_84 : decode cX4_kept 84 = .ok (.iload 8, 2) := by decide +kernel
theorem dX4_kept_86 : decode cX4_kept 86 = .ok (.invokestatic 38, 3) := by decide +kernel
theorem dX4_kept_89 : decode cX4_kept 89 = .ok (.iload 6, 2) := by decide +kernel
theorem dX4_kept_91 : decode cX4_kept 91 = .ok (.invokestatic 38, 3) := by decide +kernel
theorem dX4_kept_94 : decode cX4_kept 94 = .ok (.isub, 1) := by decide +kernel
theorem dX4_kept_95 : decode cX4_kept 95 = .ok (.istore 10, 2) := by decide +kernel
theorem dX4_kept_97 : decode cX4_kept 97 = .ok (.iload 10, 2) := by decide +kernel
theorem dX4_kept_99 : decode cX4_kept 99 = .ok (.ifCond .gt 15, 3) := by decide +kernel
theorem dX4_kept_102 : decode cX4_kept 102 = .ok (.iload 10, 2) := by decide +kernel
theorem dX4_kept_104 : decode cX4_kept 104 = .ok (.ifCond .ne 14, 3) := by decide +kernel
theorem dX4_kept_107 : decode cX4_kept 107 = .ok (.iload 9, 2) := by decide +kernel
theorem dX4_kept_109 : decode cX4_kept 109 = .ok (.iload 7, 2) := by decide +kernel
theorem dX4_kept_111 : decode cX4_kept 111 = .ok (.if_icmp .ge 7, 3) := by decide +kernel
theorem dX4_kept_114 : decode cX4_kept 114 = .ok (.iconst 1, 1) := by decide +kernel
theorem dX4_kept_115 : decode cX4_kept 115 = .ok (.goto 4, 3) := by decide +kernel
theorem dX4_kept_118 : decode cX4_kept 118 = .ok (.iconst 0, 1) := by decide +kernel
theorem dX4_kept_119 : decode cX4_kept 119 = .ok (.istore 11, 2) := by decide +kernel
theorem dX4_kept_121 : decode cX4_kept 121 = .ok (.iload 8, 2) := by decide +kernel
theorem dX4_kept_123 : decode cX4_kept 123 = .ok (.iload 5, 2) := by decide +kernel
theorem dX4_kept_125 : decode cX4_kept 125 = .ok (.iconst (-1), 1) := by decide +kernel
theorem dX4_kept_126 : decode cX4_kept 126 = .ok (.ixor, 1) := by decide +kernel
theorem dX4_kept_127 : decode cX4_kept 127 = .ok (.iand, 1) := by decide +kernel
theorem dX4_kept_128 : decode cX4_kept 128 = .ok (.ifCond .ne 27, 3) := by decide +kernel
theorem dX4_kept_131 : decode cX4_kept 131 = .ok (.iload 9, 2) := by decide +kernel
theorem dX4_kept_133 : decode cX4_kept 133 = .ok (.aload_n 1, 1) := by decide +kernel
theorem dX4_kept_134 : decode cX4_kept 134 = .ok (.getfield 43, 3) := by decide +kernel
theorem dX4_kept_137 : decode cX4_kept 137 = .ok (.iload_n 2, 1) := by decide +kernel
theorem dX4_kept_138 : decode cX4_kept 138 = .ok (.iaload, 1) := by decide +kernel
theorem dX4_kept_139 : decode cX4_kept 139 = .ok (.if_icmp .gt 16, 3) := by decide +kernel
theorem dX4_kept_142 : decode cX4_kept 142 = .ok (.iload 11, 2) := by decide +kernel
theorem dX4_kept_144 : decode cX4_kept 144 = .ok (.ifCond .eq 11, 3) := by decide +kernel
theorem dX4_kept_147 : decode cX4_kept 147 = .ok (.iload 8, 2) := by decide +kernel
theorem dX4_kept_149 : decode cX4_kept 149 = .ok (.istore 6, 2) := by decide +kernel
theorem dX4_kept_151 : decode cX4_kept 151 = .ok (.iload 9, 2) := by decide +kernel
theorem dX4_kept_153 : decode cX4_kept 153 = .ok (.istore 7, 2) := by decide +kernel
theorem dX4_kept_155 : decode cX4_kept 155 = .ok (.iinc 8 1, 3) := by decide +kernel
theorem dX4_kept_158 : decode cX4_kept 158 = .ok (.goto (-89), 3) := by decide +kernel
theorem dX4_kept_161 : decode cX4_kept 161 = .ok (.iload 4, 2) := by decide +kernel
theorem dX4_kept_163 : decode cX4_kept 163 = .ok (.ifCond .ne 9, 3) := by decide +kernel
theorem dX4_kept_166 : decode cX4_kept 166 = .ok (.iload 6, 2) := by decide +kernel
theorem dX4_kept_168 : decode cX4_kept 168 = .ok (.invokestatic 38, 3) := by decide +kernel
theorem dX4_kept_171 : decode cX4_kept 171 = .ok (.ireturn, 1) := by decide +kernel
theorem dX4_kept_172 : decode cX4_kept 172 = .ok (.iload 4, 2) := by decide +kernel
theorem dX4_kept_174 : decode cX4_kept 174 = .ok (.iconst 1, 1) := by decide +kernel
theorem dX4_kept_175 : decode cX4_kept 175 = .ok (.if_icmp .ne 8, 3) := by decide +kernel
theorem dX4_kept_178 : decode cX4_kept 178 = .ok (.iload 7, 2) := by decide +kernel
theorem dX4_kept_180 : decode cX4_kept 180 = .ok (.goto 5, 3) := by decide +kernel
theorem dX4_kept_183 : decode cX4_kept 183 = .ok (.iload 6, 2) := by decide +kernel
theorem dX4_kept_185 : decode cX4_kept 185 = .ok (.ireturn, 1) := by decide +kernel
theorem dX4_costOf_0 : decode cX4_costOf 0 = .ok (.iconst 0, 1) := by decide +kernel
theorem dX4_costOf_1 : decode cX4_costOf 1 = .ok (.iload_n 2, 1) := by decide +kernel
theorem dX4_costOf_2 : decode cX4_costOf 2 = .ok (.aload_n 0, 1) := by decide +kernel
theorem dX4_costOf_3 : decode cX4_costOf 3 = .ok (.getfield 46, 3) := by decide +kernel
theorem dX4_costOf_6 : decode cX4_costOf 6 = .ok (.iload_n 1, 1) := by decide +kernel
theorem dX4_costOf_7 : decode cX4_costOf 7 = .ok (.iaload, 1) := by decide +kernel
theorem dX4_costOf_8 : decode cX4_costOf 8 = .ok (.isub, 1) := by decide +kernel
theorem dX4_costOf_9 : decode cX4_costOf 9 = .ok (.invokestatic 49, 3) := by decide +kernel
theorem dX4_costOf_12 : decode cX4_costOf 12 = .ok (.istore_n 3, 1) := by decide +kernel
theorem dX4_costOf_13 : decode cX4_costOf 13 = .ok (.iconst 1, 1) := by decide +kernel
theorem dX4_costOf_14 : decode cX4_costOf 14 = .ok (.aload_n 0, 1) := by decide +kernel
theorem dX4_costOf_15 : decode cX4_costOf 15 = .ok (.aload_n 0, 1) := by decide +kernel
theorem dX4_costOf_16 : decode cX4_costOf 16 = .ok (.invokevirtual 55, 3) := by decide +kernel
theorem dX4_costOf_19 : decode cX4_costOf 19 = .ok (.iconst 1, 1) := by decide +kernel
theorem dX4_costOf_20 : decode cX4_costOf 20 = .ok (.iload_n 1, 1) := by decide +kernel
theorem dX4_costOf_21 : decode cX4_costOf 21 = .ok (.invokevirtual 59, 3) := by decide +kernel
theorem dX4_costOf_24 : decode cX4_costOf 24 = .ok (.invokestatic 49, 3) := by decide +kernel
theorem dX4_costOf_27 : decode cX4_costOf 27 = .ok (.istore 4, 2) := by decide +kernel
theorem dX4_costOf_29 : decode cX4_costOf 29 = .ok (.iload_n 3, 1) := by decide +kernel
theorem dX4_costOf_30 : decode cX4_costOf 30 = .ok (.iload 4, 2) := by decide +kernel
theorem dX4_costOf_32 : decode cX4_costOf 32 = .ok (.iadd, 1) := by decide +kernel
theorem dX4_costOf_33 : decode cX4_costOf 33 = .ok (.iconst 1, 1) := by decide +kernel
theorem dX4_costOf_34 : decode cX4_costOf 34 = .ok (.isub, 1) := by decide +kernel
theorem dX4_costOf_35 : decode cX4_costOf 35 = .ok (.iload 4, 2) := by decide +kernel
theorem dX4_costOf_37 : decode cX4_costOf 37 = .ok (.idiv, 1) := by decide +kernel
theorem dX4_costOf_38 : decode cX4_costOf 38 = .ok (.aload_n 0, 1) := by decide +kernel
theorem dX4_costOf_39 : decode cX4_costOf 39 = .ok (.aload_n 0, 1) := by decide +kernel
theorem dX4_costOf_40 : decode cX4_costOf 40 = .ok (.invokevirtual 55, 3) := by decide +kernel
theorem dX4_costOf_43 : decode cX4_costOf 43 = .ok (.iconst 0, 1) := by decide +kernel
theorem dX4_costOf_44 : decode cX4_costOf 44 = .ok (.iload_n 1, 1) := by decide +kernel
theorem dX4_costOf_45 : decode cX4_costOf 45 = .ok (.invokevirtual 59, 3) := by decide +kernel
theorem dX4_costOf_48 : decode cX4_costOf 48 = .ok (.imul, 1) := by decide +kernel
theorem dX4_costOf_49 : decode cX4_costOf 49 = .ok (.ireturn, 1) := by decide +kernel
theorem dX4_costOfAll_0 : decode cX4_costOfAll 0 = .ok (.iconst 0, 1) := by decide +kernel
theorem dX4_costOfAll_1 : decode cX4_costOfAll 1 = .ok (.istore_n 2, 1) := by decide +kernel
theorem dX4_costOfAll_2 : decode cX4_costOfAll 2 = .ok (.iconst 0, 1) := by decide +kernel
theorem dX4_costOfAll_3 : decode cX4_costOfAll 3 = .ok (.istore_n 3, 1) := by decide +kernel
theorem dX4_costOfAll_4 : decode cX4_costOfAll 4 = .ok (.iload_n 3, 1) := by decide +kernel
theorem dX4_costOfAll_5 : decode cX4_costOfAll 5 = .ok (.bipush 8, 2) := by decide +kernel
theorem dX4_costOfAll_7 : decode cX4_costOfAll 7 = .ok (.if_icmp .ge 24, 3) := by decide +kernel
theorem dX4_costOfAll_10 : decode cX4_costOfAll 10 = .ok (.iload_n 2, 1) := by decide +kernel
theorem dX4_costOfAll_11 : decode cX4_costOfAll 11 = .ok (.iload_n 1, 1) := by decide +kernel
theorem dX4_costOfAll_12 : decode cX4_costOfAll 12 = .ok (.iload_n 3, 1) := by decide +kernel
theorem dX4_costOfAll_13 : decode cX4_costOfAll 13 = .ok (.ishr, 1) := by decide +kernel
theorem dX4_costOfAll_14 : decode cX4_costOfAll 14 = .ok (.iconst 1, 1) := by decide +kernel
theorem dX4_costOfAll_15 : decode cX4_costOfAll 15 = .ok (.iand, 1) := by decide +kernel
theorem dX4_costOfAll_16 : decode cX4_costOfAll 16 = .ok (.aload_n 0, 1) := by decide +kernel
theorem dX4_costOfAll_17 : decode cX4_costOfAll 17 = .ok (.getfield 9, 3) := by decide +kernel
theorem dX4_costOfAll_20 : decode cX4_costOfAll 20 = .ok (.iload_n 3, 1) := by decide +kernel
theorem dX4_costOfAll_21 : decode cX4_costOfAll 21 = .ok (.iaload, 1) := by decide +kernel
theorem dX4_costOfAll_22 : decode cX4_costOfAll 22 = .ok (.imul, 1) := by decide +kernel
theorem dX4_costOfAll_23 : decode cX4_costOfAll 23 = .ok (.iadd, 1) := by decide +kernel
theorem dX4_costOfAll_24 : decode cX4_costOfAll 24 = .ok (.istore_n 2, 1) := by decide +kernel
theorem dX4_costOfAll_25 : decode cX4_costOfAll 25 = .ok (.iinc 3 1, 3) := by decide +kernel
theorem dX4_costOfAll_28 : decode cX4_costOfAll 28 = .ok (.goto (-24), 3) := by decide +kernel
theorem dX4_costOfAll_31 : decode cX4_costOfAll 31 = .ok (.iload_n 2, 1) := by decide +kernel
theorem dX4_costOfAll_32 : decode cX4_costOfAll 32 = .ok (.ireturn, 1) := by decide +kernel
theorem dX4_cheapestYear_0 : decode cX4_cheapestYear 0 = .ok (.iconst 0, 1) := by decide +kernel
theorem dX4_cheapestYear_1 : decode cX4_cheapestYear 1 = .ok (.istore 4, 2) := by decide +kernel
theorem dX4_cheapestYear_3 : decode cX4_cheapestYear 3 = .ok (.aload_n 1, 1) := by decide +kernel
theorem dX4_cheapestYear_4 : decode cX4_cheapestYear 4 = .ok (.iload_n 2, 1) := by decide +kernel
theorem dX4_cheapestYear_5 : decode cX4_cheapestYear 5 = .ok (.iconst 0, 1) := by decide +kernel
theorem dX4_cheapestYear_6 : decode cX4_cheapestYear 6 = .ok (.invokevirtual 63, 3) := by decide +kernel
theorem dX4_cheapestYear_9 : decode cX4_cheapestYear 9 = .ok (.istore 5, 2) := by decide +kernel
theorem dX4_cheapestYear_11 : decode cX4_cheapestYear 11 = .ok (.iconst 1, 1) := by decide +kernel
theorem dX4_cheapestYear_12 : decode cX4_cheapestYear 12 = .ok (.istore 6, 2) := by decide +kernel
theorem dX4_cheapestYear_14 : decode cX4_cheapestYear 14 = .ok (.iload 6, 2) := by decide +kernel
theorem dX4_cheapestYear_16 : decode cX4_cheapestYear 16 = .ok (.aload_n 1, 1) := by decide +kernel
theorem dX4_cheapestYear_17 : decode cX4_cheapestYear 17 = .ok (.getfield 46, 3) := by decide +kernel
theorem dX4_cheapestYear_20 : decode cX4_cheapestYear 20 = .ok (.iload_n 2, 1) := by decide +kernel
theorem dX4_cheapestYear_21 : decode cX4_cheapestYear 21 = .ok (.iaload, 1) := by decide +kernel
theorem dX4_cheapestYear_22 : decode cX4_cheapestYear 22 = .ok (.if_icmp .ge 33, 3) := by decide +kernel
theorem dX4_cheapestYear_25 : decode cX4_cheapestYear 25 = .ok (.aload_n 1, 1) := by decide +kernel
theorem dX4_cheapestYear_26 : decode cX4_cheapestYear 26 = .ok (.iload_n 2, 1) := by decide +kernel
theorem dX4_cheapestYear_27 : decode cX4_cheapestYear 27 = .ok (.iload 6, 2) := by decide +kernel
theorem dX4_cheapestYear_29 : decode cX4_cheapestYear 29 = .ok (.invokevirtual 63, 3) := by decide +kernel
theorem dX4_cheapestYear_32 : decode cX4_cheapestYear 32 = .ok (.istore 7, 2) := by decide +kernel
theorem dX4_cheapestYear_34 : decode cX4_cheapestYear 34 = .ok (.iload 7, 2) := by decide +kernel
theorem dX4_cheapestYear_36 : decode cX4_cheapestYear 36 = .ok (.iload 5, 2) := by decide +kernel
theorem dX4_cheapestYear_38 : decode cX4_cheapestYear 38 = .ok (.if_icmp .ge 11, 3) := by decide +kernel
theorem dX4_cheapestYear_41 : decode cX4_cheapestYear 41 = .ok (.iload 6, 2) := by decide +kernel
theorem dX4_cheapestYear_43 : decode cX4_cheapestYear 43 = .ok (.istore 4, 2) := by decide +kernel
theorem dX4_cheapestYear_45 : decode cX4_cheapestYear 45 = .ok (.iload 7, 2) := by decide +kernel
theorem dX4_cheapestYear_47 : decode cX4_cheapestYear 47 = .ok (.istore 5, 2) := by decide +kernel
theorem dX4_cheapestYear_49 : decode cX4_cheapestYear 49 = .ok (.iinc 6 1, 3) := by decide +kernel
theorem dX4_cheapestYear_52 : decode cX4_cheapestYear 52 = .ok (.goto (-38), 3) := by decide +kernel
theorem dX4_cheapestYear_55 : decode cX4_cheapestYear 55 = .ok (.iload_n 3, 1) := by decide +kernel
theorem dX4_cheapestYear_56 : decode cX4_cheapestYear 56 = .ok (.ifCond .ne 8, 3) := by decide +kernel
theorem dX4_cheapestYear_59 : decode cX4_cheapestYear 59 = .ok (.iload 4, 2) := by decide +kernel
theorem dX4_cheapestYear_61 : decode cX4_cheapestYear 61 = .ok (.goto 5, 3) := by decide +kernel
theorem dX4_cheapestYear_64 : decode cX4_cheapestYear 64 = .ok (.iload 5, 2) := by decide +kernel
theorem dX4_cheapestYear_66 : decode cX4_cheapestYear 66 = .ok (.ireturn, 1) := by decide +kernel
theorem dX4_bestLook_0 : decode cX4_bestLook 0 = .ok (.aload_n 1, 1) := by decide +kernel
theorem dX4_bestLook_1 : decode cX4_bestLook 1 = .ok (.invokevirtual 66, 3) := by decide +kernel
theorem dX4_bestLook_4 : decode cX4_bestLook 4 = .ok (.istore_n 3, 1) := by decide +kernel
theorem dX4_bestLook_5 : decode cX4_bestLook 5 = .ok (.iload_n 3, 1) := by decide +kernel
theorem dX4_bestLook_6 : decode cX4_bestLook 6 = .ok (.ifCond .ne 5, 3) := by decide +kernel
theorem dX4_bestLook_9 : decode cX4_bestLook 9 = .ok (.iconst (-1), 1) := by decide +kernel
theorem dX4_bestLook_10 : decode cX4_bestLook 10 = .ok (.ireturn, 1) := by decide +kernel
theorem dX4_bestLook_11 : decode cX4_bestLook 11 = .ok (.iload_n 3, 1) := by decide +kernel
theorem dX4_bestLook_12 : decode cX4_bestLook 12 = .ok (.invokestatic 38, 3) := by decide +kernel
theorem dX4_bestLook_15 : decode cX4_bestLook 15 = .ok (.istore 4, 2) := by decide +kernel
theorem dX4_bestLook_17 : decode cX4_bestLook 17 = .ok (.iconst 0, 1) := by decide +kernel
theorem dX4_bestLook_18 : decode cX4_bestLook 18 = .ok (.istore 5, 2) := by decide +kernel
theorem dX4_bestLook_20 : decode cX4_bestLook 20 = .ok (.iload 4, 2) := by decide +kernel
theorem dX4_bestLook_22 : decode cX4_bestLook 22 = .ok (.iconst 1, 1) := by decide +kernel
theorem dX4_bestLook_23 : decode cX4_bestLook 23 = .ok (.iadd, 1) := by decide +kernel
theorem dX4_bestLook_24 : decode cX4_bestLook 24 = .ok (.istore 6, 2) := by decide +kernel
theorem dX4_bestLook_26 : decode cX4_bestLook 26 = .ok (.iconst 0, 1) := by decide +kernel
theorem dX4_bestLook_27 : decode cX4_bestLook 27 = .ok (.istore 7, 2) := by decide +kernel
theorem dX4_bestLook_29 : decode cX4_bestLook 29 = .ok (.iload 7, 2) := by decide +kernel
theorem dX4_bestLook_31 : decode cX4_bestLook 31 = .ok (.bipush 99, 2) := by decide +kernel
theorem dX4_bestLook_33 : decode cX4_bestLook 33 = .ok (.if_icmp .gt 49, 3) := by decide +kernel
theorem dX4_bestLook_36 : decode cX4_bestLook 36 = .ok (.iload_n 3, 1) := by decide +kernel
theorem dX4_bestLook_37 : decode cX4_bestLook 37 = .ok (.aload_n 1, 1) := by decide +kernel
theorem dX4_bestLook_38 : decode cX4_bestLook 38 = .ok (.iload 7, 2) := by decide +kernel
theorem dX4_bestLook_40 : decode cX4_bestLook 40 = .ok (.invokevirtual 24, 3) := by decide +kernel
theorem dX4_bestLook_43 : decode cX4_bestLook 43 = .ok (.iand, 1) := by decide +kernel
theorem dX4_bestLook_44 : decode cX4_bestLook 44 = .ok (.invokestatic 38, 3) := by decide +kernel
theorem dX4_bestLook_47 : decode cX4_bestLook 47 = .ok (.istore 8, 2) := by decide +kernel
theorem dX4_bestLook_49 : decode cX4_bestLook 49 = .ok (.iload 8, 2) := by decide +kernel
theorem dX4_bestLook_51 : decode cX4_bestLook 51 = .ok (.iload 4, 2) := by decide +kernel
theorem dX4_bestLook_53 : decode cX4_bestLook 53 = .ok (.iload 8, 2) := by decide +kernel
theorem dX4_bestLook_55 : decode cX4_bestLook 55 = .ok (.isub, 1) := by decide +kernel
theorem dX4_bestLook_56 : decode cX4_bestLook 56 = .ok (.invokestatic 49, 3) := by decide +kernel
theorem dX4_bestLook_59 : decode cX4_bestLook 59 = .ok (.istore 9, 2) := by decide +kernel
theorem dX4_bestLook_61 : decode cX4_bestLook 61 = .ok (.iload 9, 2) := by decide +kernel
theorem dX4_bestLook_63 : decode cX4_bestLook 63 = .ok (.iload 6, 2) := by decide +kernel
theorem dX4_bestLook_65 : decode cX4_bestLook 65 = .ok (.if_icmp .ge 11, 3) := by decide +kernel
theorem dX4_bestLook_68 : decode cX4_bestLook 68 = .ok (.iload 7, 2) := by decide +kernel
theorem dX4_bestLook_70 : decode cX4_bestLook 70 = .ok (.istore 5, 2) := by decide +kernel
theorem dX4_bestLook_72 : decode cX4_bestLook 72 = .ok (.iload 9, 2) := by decide +kernel
theorem dX4_bestLook_74 : decode cX4_bestLook 74 = .ok (.istore 6, 2) := by decide +kernel
theorem dX4_bestLook_76 : decode cX4_bestLook 76 = .ok (.iinc 7 1, 3) := by decide +kernel
theorem dX4_bestLook_79 : decode cX4_bestLook 79 = .ok (.goto (-50), 3) := by decide +kernel
theorem dX4_bestLook_82 : decode cX4_bestLook 82 = .ok (.iload_n 2, 1) := by decide +kernel
theorem dX4_bestLook_83 : decode cX4_bestLook 83 = .ok (.ifCond .ne 8, 3) := by decide +kernel
theorem dX4_bestLook_86 : decode cX4_bestLook 86 = .ok (.iload 5, 2) := by decide +kernel
theorem dX4_bestLook_88 : decode cX4_bestLook 88 = .ok (.goto 5, 3) := by decide +kernel
theorem dX4_bestLook_91 : decode cX4_bestLook 91 = .ok (.iload 6, 2) := by decide +kernel
theorem dX4_bestLook_93 : decode cX4_bestLook 93 = .ok (.ireturn, 1) := by decide +kernel
theorem dX4_packing_0 : decode cX4_packing 0 = .ok (.iconst 0, 1) := by decide +kernel
theorem dX4_packing_1 : decode cX4_packing 1 = .ok (.istore_n 3, 1) := by decide +kernel
theorem dX4_packing_2 : decode cX4_packing 2 = .ok (.iload_n 3, 1) := by decide +kernel
theorem dX4_packing_3 : decode cX4_packing 3 = .ok (.aload_n 1, 1) := by decide +kernel
theorem dX4_packing_4 : decode cX4_packing 4 = .ok (.getfield 27, 3) := by decide +kernel
theorem dX4_packing_7 : decode cX4_packing 7 = .ok (.if_icmp .ge 32, 3) := by decide +kernel
theorem dX4_packing_10 : decode cX4_packing 10 = .ok (.aload_n 0, 1) := by decide +kernel
theorem dX4_packing_11 : decode cX4_packing 11 = .ok (.getfield 15, 3) := by decide +kernel
theorem dX4_packing_14 : decode cX4_packing 14 = .ok (.iload_n 3, 1) := by decide +kernel
theorem dX4_packing_15 : decode cX4_packing 15 = .ok (.aload_n 1, 1) := by decide +kernel
theorem dX4_packing_16 : decode cX4_packing 16 = .ok (.iload_n 3, 1) := by decide +kernel
theorem dX4_packing_17 : decode cX4_packing 17 = .ok (.invokevirtual 70, 3) := by decide +kernel
theorem dX4_packing_20 : decode cX4_packing 20 = .ok (.ifCond .eq 11, 3) := by decide +kernel
theorem dX4_packing_23 : decode cX4_packing 23 = .ok (.aload_n 1, 1) := by decide +kernel
theorem dX4_packing_24 : decode cX4_packing 24 = .ok (.iload_n 3, 1) := by decide +kernel
theorem dX4_packing_25 : decode cX4_packing 25 = .ok (.invokestatic 74, 3) := by decide +kernel
theorem dX4_packing_28 : decode cX4_packing 28 = .ok (.goto 4, 3) := by decide +kernel
theorem dX4_packing_31 : decode cX4_packing 31 = .ok (.iconst 0, 1) := by decide +kernel
theorem dX4_packing_32 : decode cX4_packing 32 = .ok (.iastore, 1) := by decide +kernel
theorem dX4_packing_33 : decode cX4_packing 33 = .ok (.iinc 3 1, 3) := by decide +kernel
theorem dX4_packing_36 : decode cX4_packing 36 = .ok (.goto (-34), 3) := by decide +kernel
theorem dX4_packing_39 : decode cX4_packing 39 = .ok (.iconst (-1), 1) := by decide +kernel
theorem dX4_packing_40 : decode cX4_packing 40 = .ok (.istore_n 3, 1) := by decide +kernel
theorem dX4_packing_41 : decode cX4_packing 41 = .ok (.iconst 0, 1) := by decide +kernel
theorem dX4_packing_42 : decode cX4_packing 42 = .ok (.istore 4, 2) := by decide +kernel
theorem dX4_packing_44 : decode cX4_packing 44 = .ok (.iload 4, 2) := by decide +kernel
theorem dX4_packing_46 : decode cX4_packing 46 = .ok (.iconst 1, 1) := by decide +kernel
theorem dX4_packing_47 : decode cX4_packing 47 = .ok (.aload_n 1, 1) := by decide +kernel
theorem dX4_packing_48 : decode cX4_packing 48 = .ok (.getfield 78, 3) := by decide +kernel
theorem dX4_packing_51 : decode cX4_packing 51 = .ok (.ishl, 1) := by decide +kernel
theorem dX4_packing_52 : decode cX4_packing 52 = .ok (.if_icmp .ge 51, 3) := by decide +kernel
theorem dX4_packing_55 : decode cX4_packing 55 = .ok (.iload_n 3, 1) := by decide +kernel
theorem dX4_packing_56 : decode cX4_packing 56 = .ok (.iconst (-1), 1) := by decide +kernel
theorem dX4_packing_57 : decode cX4_packing 57 = .ok (.if_icmp .eq 15, 3) := by decide +kernel
theorem dX4_packing_60 : decode cX4_packing 60 = .ok (.iload 4, 2) := by decide +kernel
theorem dX4_packing_62 : decode cX4_packing 62 = .ok (.invokestatic 38, 3) := by decide +kernel
theorem dX4_packing_65 : decode cX4_packing 65 = .ok (.iload_n 3, 1) := by decide +kernel
theorem dX4_packing_66 : decode cX4_packing 66 = .ok (.invokestatic 38, 3) := by decide +kernel
theorem dX4_packing_69 : decode cX4_packing 69 = .ok (.if_icmp .ge 7, 3) := by decide +kernel
theorem dX4_packing_72 : decode cX4_packing 72 = .ok (.iconst 1, 1) := by decide +kernel
theorem dX4_packing_73 : decode cX4_packing 73 = .ok (.goto 4, 3) := by decide +kernel
theorem dX4_packing_76 : decode cX4_packing 76 = .ok (.iconst 0, 1) := by decide +kernel
theorem dX4_packing_77 : decode cX4_packing 77 = .ok (.istore 5, 2) := by decide +kernel
theorem dX4_packing_79 : decode cX4_packing 79 = .ok (.iload 5, 2) := by decide +kernel
theorem dX4_packing_81 : decode cX4_packing 81 = .ok (.ifCond .eq 16, 3) := by decide +kernel
theorem dX4_packing_84 : decode cX4_packing 84 = .ok (.aload_n 0, 1) := by decide +kernel
theorem dX4_packing_85 : decode cX4_packing 85 = .ok (.aload_n 1, 1) := by decide +kernel
theorem dX4_packing_86 : decode cX4_packing 86 = .ok (.iload 4, 2) := by decide +kernel
theorem dX4_packing_88 : decode cX4_packing 88 = .ok (.invokevirtual 81, 3) := by decide +kernel
theorem dX4_packing_91 : decode cX4_packing 91 = .ok (.ifCond .eq 6, 3) := by decide +kernel
theorem dX4_packing_94 : decode cX4_packing 94 = .ok (.iload 4, 2) := by decide +kernel
theorem dX4_packing_96 : decode cX4_packing 96 = .ok (.istore_n 3, 1) := by decide +kernel
theorem dX4_packing_97 : decode cX4_packing 97 = .ok (.iinc 4 1, 3) := by decide +kernel
theorem dX4_packing_100 : decode cX4_packing 100 = .ok (.goto (-56), 3) := by decide +kernel
theorem dX4_packing_103 : decode cX4_packing 103 = .ok (.iload_n 3, 1) := by decide +kernel
theorem dX4_packing_104 : decode cX4_packing 104 = .ok (.iconst (-1), 1) := by decide +kernel
theorem dX4_packing_105 : decode cX4_packing 105 = .ok (.if_icmp .ne 5, 3) := by decide +kernel
theorem dX4_packing_108 : decode cX4_packing 108 = .ok (.iconst (-1), 1) := by decide +kernel
theorem dX4_packing_109 : decode cX4_packing 109 = .ok (.ireturn, 1) := by decide +kernel
theorem dX4_packing_110 : decode cX4_packing 110 = .ok (.iload_n 2, 1) := by decide +kernel
theorem dX4_packing_111 : decode cX4_packing 111 = .ok (.ifCond .ne 10, 3) := by decide +kernel
theorem dX4_packing_114 : decode cX4_packing 114 = .ok (.iload_n 3, 1) := by decide +kernel
theorem dX4_packing_115 : decode cX4_packing 115 = .ok (.invokestatic 38, 3) := by decide +kernel
theorem dX4_packing_118 : decode cX4_packing 118 = .ok (.goto 4, 3) := by decide +kernel
theorem dX4_packing_121 : decode cX4_packing 121 = .ok (.iload_n 3, 1) := by decide +kernel
theorem dX4_packing_122 : decode cX4_packing 122 = .ok (.ireturn, 1) := by decide +kernel
theorem dX4_vaultsOpenTo_0 : decode cX4_vaultsOpenTo 0 = .ok (.iconst 0, 1) := by decide +kernel
theorem dX4_vaultsOpenTo_1 : decode cX4_vaultsOpenTo 1 = .ok (.istore_n 2, 1) := by decide +kernel
theorem dX4_vaultsOpenTo_2 : decode cX4_vaultsOpenTo 2 = .ok (.iconst 0, 1) := by decide +kernel
theorem dX4_vaultsOpenTo_3 : decode cX4_vaultsOpenTo 3 = .ok (.istore_n 3, 1) := by decide +kernel
theorem dX4_vaultsOpenTo_4 : decode cX4_vaultsOpenTo 4 = .ok (.iload_n 3, 1) := by decide +kernel
theorem dX4_vaultsOpenTo_5 : decode cX4_vaultsOpenTo 5 = .ok (.aload_n 0, 1) := by decide +kernel
theorem dX4_vaultsOpenTo_6 : decode cX4_vaultsOpenTo 6 = .ok (.getfield 78, 3) := by decide +kernel
theorem dX4_vaultsOpenTo_9 : decode cX4_vaultsOpenTo 9 = .ok (.if_icmp .ge 24, 3) := by decide +kernel
theorem dX4_vaultsOpenTo_12 : decode cX4_vaultsOpenTo 12 = .ok (.aload_n 0, 1) := by decide +kernel
theorem dX4_vaultsOpenTo_13 : decode cX4_vaultsOpenTo 13 = .ok (.iload_n 1, 1) := by decide +kernel
theorem dX4_vaultsOpenTo_14 : decode cX4_vaultsOpenTo 14 = .ok (.iload_n 3, 1) := by decide +kernel
theorem dX4_vaultsOpenTo_15 : decode cX4_vaultsOpenTo 15 = .ok (.invokevirtual 85, 3) := by decide +kernel
theorem dX4_vaultsOpenTo_18 : decode cX4_vaultsOpenTo 18 = .ok (.ifCond .ne 9, 3) := by decide +kernel
theorem dX4_vaultsOpenTo_21 : decode cX4_vaultsOpenTo 21 = .ok (.iload_n 2, 1) := by decide +kernel
theorem dX4_vaultsOpenTo_22 : decode cX4_vaultsOpenTo 22 = .ok (.iconst 1, 1) := by decide +kernel
theorem dX4_vaultsOpenTo_23 : decode cX4_vaultsOpenTo 23 = .ok (.iload_n 3, 1) := by decide +kernel
theorem dX4_vaultsOpenTo_24 : decode cX4_vaultsOpenTo 24 = .ok (.ishl, 1) := by decide +kernel
theorem dX4_vaultsOpenTo_25 : decode cX4_vaultsOpenTo 25 = .ok (.ior, 1) := by decide +kernel
theorem dX4_vaultsOpenTo_26 : decode cX4_vaultsOpenTo 26 = .ok (.istore_n 2, 1) := by decide +kernel
theorem dX4_vaultsOpenTo_27 : decode cX4_vaultsOpenTo 27 = .ok (.iinc 3 1, 3) := by decide +kernel
theorem dX4_vaultsOpenTo_30 : decode cX4_vaultsOpenTo 30 = .ok (.goto (-26), 3) := by decide +kernel
theorem dX4_vaultsOpenTo_33 : decode cX4_vaultsOpenTo 33 = .ok (.iload_n 2, 1) := by decide +kernel
theorem dX4_vaultsOpenTo_34 : decode cX4_vaultsOpenTo 34 = .ok (.ireturn, 1) := by decide +kernel
theorem dX4_allCanLie_0 : decode cX4_allCanLie 0 = .ok (.iconst 0, 1) := by decide +kernel
theorem dX4_allCanLie_1 : decode cX4_allCanLie 1 = .ok (.istore_n 3, 1) := by decide +kernel
theorem dX4_allCanLie_2 : decode cX4_allCanLie 2 = .ok (.iload_n 3, 1) := by decide +kernel
theorem dX4_allCanLie_3 : decode cX4_allCanLie 3 = .ok (.iload_n 2, 1) := by decide +kernel
theorem dX4_allCanLie_4 : decode cX4_allCanLie 4 = .ok (.if_icmp .gt 34, 3) := by decide +kernel
theorem dX4_allCanLie_7 : decode cX4_allCanLie 7 = .ok (.iload_n 3, 1) := by decide +kernel
theorem dX4_allCanLie_8 : decode cX4_allCanLie 8 = .ok (.iload_n 2, 1) := by decide +kernel
theorem dX4_allCanLie_9 : decode cX4_allCanLie 9 = .ok (.iconst (-1), 1) := by decide +kernel
theorem dX4_allCanLie_10 : decode cX4_allCanLie 10 = .ok (.ixor, 1) := by decide +kernel
theorem dX4_allCanLie_11 : decode cX4_allCanLie 11 = .ok (.iand, 1) := by decide +kernel
theorem dX4_allCanLie_12 : decode cX4_allCanLie 12 = .ok (.ifCond .ne 20, 3) := by decide +kernel
theorem dX4_allCanLie_15 : decode cX4_allCanLie 15 = .ok (.aload_n 0, 1) := by decide +kernel
theorem dX4_allCanLie_16 : decode cX4_allCanLie 16 = .ok (.aload_n 1, 1) := by decide +kernel
theorem dX4_allCanLie_17 : decode cX4_allCanLie 17 = .ok (.iload_n 2, 1) := by decide +kernel
theorem dX4_allCanLie_18 : decode cX4_allCanLie 18 = .ok (.iload_n 3, 1) := by decide +kernel
theorem dX4_allCanLie_19 : decode cX4_allCanLie 19 = .ok (.invokevirtual 89, 3) := by decide +kernel
theorem dX4_allCanLie_22 : decode cX4_allCanLie 22 = .ok (.aload_n 1, 1) := by decide +kernel
theorem dX4_allCanLie_23 : decode cX4_allCanLie 23 = .ok (.iload_n 3, 1) := by decide +kernel
theorem dX4_allCanLie_24 : decode cX4_allCanLie 24 = .ok (.invokestatic 92, 3) := by decide +kernel
theorem dX4_allCanLie_27 : decode cX4_allCanLie 27 = .ok (.if_icmp .le 5, 3) := by decide +kernel
theorem dX4_allCanLie_30 : decode cX4_allCanLie 30 = .ok (.iconst 0, 1) := by decide +kernel
theorem dX4_allCanLie_31 : decode cX4_allCanLie 31 = .ok (.ireturn, 1) := by decide +kernel
theorem dX4_allCanLie_32 : decode cX4_allCanLie 32 = .ok (.iinc 3 1, 3) := by decide +kernel
theorem dX4_allCanLie_35 : decode cX4_allCanLie 35 = .ok (.goto (-33), 3) := by decide +kernel
theorem dX4_allCanLie_38 : decode cX4_allCanLie 38 = .ok (.iconst 1, 1) := by decide +kernel
theorem dX4_allCanLie_39 : decode cX4_allCanLie 39 = .ok (.ireturn, 1) := by decide +kernel
theorem dX4_boundTo_0 : decode cX4_boundTo 0 = .ok (.iconst 0, 1) := by decide +kernel
theorem dX4_boundTo_1 : decode cX4_boundTo 1 = .ok (.istore 4, 2) := by decide +kernel
theorem dX4_boundTo_3 : decode cX4_boundTo 3 = .ok (.iconst 0, 1) := by decide +kernel
theorem dX4_boundTo_4 : decode cX4_boundTo 4 = .ok (.istore 5, 2) := by decide +kernel
theorem dX4_boundTo_6 : decode cX4_boundTo 6 = .ok (.iload 5, 2) := by decide +kernel
theorem dX4_boundTo_8 : decode cX4_boundTo 8 = .ok (.aload_n 1, 1) := by decide +kernel
theorem dX4_boundTo_9 : decode cX4_boundTo 9 = .ok (.getfield 27, 3) := by decide +kernel
theorem dX4_boundTo_12 : decode cX4_boundTo 12 = .ok (.if_icmp .ge 37, 3) := by decide +kernel
theorem dX4_boundTo_15 : decode cX4_boundTo 15 = .ok (.aload_n 1, 1) := by decide +kernel
theorem dX4_boundTo_16 : decode cX4_boundTo 16 = .ok (.iload 5, 2) := by decide +kernel
theorem dX4_boundTo_18 : decode cX4_boundTo 18 = .ok (.invokevirtual 70, 3) := by decide +kernel
theorem dX4_boundTo_21 : decode cX4_boundTo 21 = .ok (.ifCond .eq 22, 3) := by decide +kernel
theorem dX4_boundTo_24 : decode cX4_boundTo 24 = .ok (.aload_n 0, 1) := by decide +kernel
theorem dX4_boundTo_25 : decode cX4_boundTo 25 = .ok (.getfield 15, 3) := by decide +kernel
theorem dX4_boundTo_28 : decode cX4_boundTo 28 = .ok (.iload 5, 2) := by decide +kernel
theorem dX4_boundTo_30 : decode cX4_boundTo 30 = .ok (.iaload, 1) := by decide +kernel
theorem dX4_boundTo_31 : decode cX4_boundTo 31 = .ok (.iload_n 2, 1) := by decide +kernel
theorem dX4_boundTo_32 : decode cX4_boundTo 32 = .ok (.iand, 1) := by decide +kernel
theorem dX4_boundTo_33 : decode cX4_boundTo 33 = .ok (.iload_n 3, 1) := by decide +kernel
theorem dX4_boundTo_34 : decode cX4_boundTo 34 = .ok (.iconst (-1), 1) := by decide +kernel
theorem dX4_boundTo_35 : decode cX4_boundTo 35 = .ok (.ixor, 1) := by decide +kernel
theorem dX4_boundTo_36 : decode cX4_boundTo 36 = .ok (.iand, 1) := by decide +kernel
theorem dX4_boundTo_37 : decode cX4_boundTo 37 = .ok (.ifCond .ne 6, 3) := by decide +kernel
theorem dX4_boundTo_40 : decode cX4_boundTo 40 = .ok (.iinc 4 1, 3) := by decide +kernel
theorem dX4_boundTo_43 : decode cX4_boundTo 43 = .ok (.iinc 5 1, 3) := by decide +kernel
theorem dX4_boundTo_46 : decode cX4_boundTo 46 = .ok (.goto (-40), 3) := by decide +kernel
theorem dX4_boundTo_49 : decode cX4_boundTo 49 = .ok (.iload 4, 2) := by decide +kernel
theorem dX4_boundTo_51 : decode cX4_boundTo 51 = .ok (.ireturn, 1) := by decide +kernel
theorem dX4_bedsOf_0 : decode cX4_bedsOf 0 = .ok (.iconst 0, 1) := by decide +kernel
theorem dX4_bedsOf_1 : decode cX4_bedsOf 1 = .ok (.istore_n 2, 1) := by decide +kernel
theorem dX4_bedsOf_2 : decode cX4_bedsOf 2 = .ok (.iconst 0, 1) := by decide +kernel
theorem dX4_bedsOf_3 : decode cX4_bedsOf 3 = .ok (.istore_n 3, 1) := by decide +kernel
theorem dX4_bedsOf_4 : decode cX4_bedsOf 4 = .ok (.iload_n 3, 1) := by decide +kernel
theorem dX4_bedsOf_5 : decode cX4_bedsOf 5 = .ok (.aload_n 0, 1) := by decide +kernel
theorem dX4_bedsOf_6 : decode cX4_bedsOf 6 = .ok (.getfield 78, 3) := by decide +kernel
theorem dX4_bedsOf_9 : decode cX4_bedsOf 9 = .ok (.if_icmp .ge 24, 3) := by decide +kernel
theorem dX4_bedsOf_12 : decode cX4_bedsOf 12 = .ok (.iload_n 2, 1) := by decide +kernel
theorem dX4_bedsOf_13 : decode cX4_bedsOf 13 = .ok (.iload_n 1, 1) := by decide +kernel
theorem dX4_bedsOf_14 : decode cX4_bedsOf 14 = .ok (.iload_n 3, 1) := by decide +kernel
theorem dX4_bedsOf_15 : decode cX4_bedsOf 15 = .ok (.ishr, 1) := by decide +kernel
theorem dX4_bedsOf_16 : decode cX4_bedsOf 16 = .ok (.iconst 1, 1) := by decide +kernel
theorem dX4_bedsOf_17 : decode cX4_bedsOf 17 = .ok (.iand, 1) := by decide +kernel
theorem dX4_bedsOf_18 : decode cX4_bedsOf 18 = .ok (.aload_n 0, 1) := by decide +kernel
theorem dX4_bedsOf_19 : decode cX4_bedsOf 19 = .ok (.getfield 95, 3) := by decide +kernel
theorem dX4_bedsOf_22 : decode cX4_bedsOf 22 = .ok (.iload_n 3, 1) := by decide +kernel
theorem dX4_bedsOf_23 : decode cX4_bedsOf 23 = .ok (.iaload, 1) := by decide +kernel
theorem dX4_bedsOf_24 : decode cX4_bedsOf 24 = .ok (.imul, 1) := by decide +kernel
theorem dX4_bedsOf_25 : decode cX4_bedsOf 25 = .ok (.iadd, 1) := by decide +kernel
theorem dX4_bedsOf_26 : decode cX4_bedsOf 26 = .ok (.istore_n 2, 1) := by decide +kernel
theorem dX4_bedsOf_27 : decode cX4_bedsOf 27 = .ok (.iinc 3 1, 3) := by decide +kernel
theorem dX4_bedsOf_30 : decode cX4_bedsOf 30 = .ok (.goto (-26), 3) := by decide +kernel
theorem dX4_bedsOf_33 : decode cX4_bedsOf 33 = .ok (.iload_n 2, 1) := by decide +kernel
theorem dX4_bedsOf_34 : decode cX4_bedsOf 34 = .ok (.ireturn, 1) := by decide +kernel
theorem dX4_exchange_0 : decode cX4_exchange 0 = .ok (.iconst 0, 1) := by decide +kernel
theorem dX4_exchange_1 : decode cX4_exchange 1 = .ok (.istore_n 3, 1) := by decide +kernel
theorem dX4_exchange_2 : decode cX4_exchange 2 = .ok (.iconst 0, 1) := by decide +kernel
theorem dX4_exchange_3 : decode cX4_exchange 3 = .ok (.istore 4, 2) := by decide +kernel
theorem dX4_exchange_5 : decode cX4_exchange 5 = .ok (.iload 4, 2) := by decide +kernel
theorem dX4_exchange_7 : decode cX4_exchange 7 = .ok (.aload_n 1, 1) := by decide +kernel
theorem dX4_exchange_8 : decode cX4_exchange 8 = .ok (.getfield 27, 3) := by decide +kernel
theorem dX4_exchange_11 : decode cX4_exchange 11 = .ok (.if_icmp .ge 69, 3) := by decide +kernel
theorem dX4_exchange_14 : decode cX4_exchange 14 = .ok (.iload 4, 2) := by decide +kernel
theorem dX4_exchange_16 : decode cX4_exchange 16 = .ok (.iconst 1, 1) := by decide +kernel
theorem dX4_exchange_17 : decode cX4_exchange 17 = .ok (.iadd, 1) := by decide +kernel
theorem dX4_exchange_18 : decode cX4_exchange 18 = .ok (.istore 5, 2) := by decide +kernel
theorem dX4_exchange_20 : decode cX4_exchange 20 = .ok (.iload 5, 2) := by decide +kernel
theorem dX4_exchange_22 : decode cX4_exchange 22 = .ok (.aload_n 1, 1) := by decide +kernel
theorem dX4_exchange_23 : decode cX4_exchange 23 = .ok (.getfield 27, 3) := by decide +kernel
theorem dX4_exchange_26 : decode cX4_exchange 26 = .ok (.if_icmp .ge 48, 3) := by decide +kernel
theorem dX4_exchange_29 : decode cX4_exchange 29 = .ok (.aload_n 1, 1) := by decide +kernel
theorem dX4_exchange_30 : decode cX4_exchange 30 = .ok (.iload 4, 2) := by decide +kernel
theorem dX4_exchange_32 : decode cX4_exchange 32 = .ok (.iload 5, 2) := by decide +kernel
theorem dX4_exchange_34 : decode cX4_exchange 34 = .ok (.invokestatic 98, 3) := by decide +kernel
theorem dX4_exchange_37 : decode cX4_exchange 37 = .ok (.ifCond .eq 31, 3) := by decide +kernel
theorem dX4_exchange_40 : decode cX4_exchange 40 = .ok (.aload_n 1, 1) := by decide +kernel
theorem dX4_exchange_41 : decode cX4_exchange 41 = .ok (.iload 5, 2) := by decide +kernel
theorem dX4_exchange_43 : decode cX4_exchange 43 = .ok (.iload 4, 2) := by decide +kernel
theorem dX4_exchange_45 : decode cX4_exchange 45 = .ok (.invokestatic 98, 3) := by decide +kernel
theorem dX4_exchange_48 : decode cX4_exchange 48 = .ok (.ifCond .eq 20, 3) := by decide +kernel
theorem dX4_exchange_51 : decode cX4_exchange 51 = .ok (.iload_n 3, 1) := by decide +kernel
theorem dX4_exchange_52 : decode cX4_exchange 52 = .ok (.iload_n 2, 1) := by decide +kernel
theorem dX4_exchange_53 : decode cX4_exchange 53 = .ok (.if_icmp .ne 12, 3) := by decide +kernel
theorem dX4_exchange_56 : decode cX4_exchange 56 = .ok (.bipush 10, 2) := by decide +kernel
theorem dX4_exchange_58 : decode cX4_exchange 58 = .ok (.iload 4, 2) := by decide +kernel
theorem dX4_exchange_60 : decode cX4_exchange 60 = .ok (.imul, 1) := by decide +kernel
theorem dX4_exchange_61 : decode cX4_exchange 61 = .ok (.iload 5, 2) := by decide +kernel
theorem dX4_exchange_63 : decode cX4_exchange 63 = .ok (.iadd, 1) := by decide +kernel
theorem dX4_exchange_64 : decode cX4_exchange 64 = .ok (.ireturn, 1) := by decide +kernel
theorem dX4_exchange_65 : decode cX4_exchange 65 = .ok (.iinc 3 1, 3) := by decide +kernel
theorem dX4_exchange_68 : decode cX4_exchange 68 = .ok (.iinc 5 1, 3) := by decide +kernel
theorem dX4_exchange_71 : decode cX4_exchange 71 = .ok (.goto (-51), 3) := by decide +kernel
theorem dX4_exchange_74 : decode cX4_exchange 74 = .ok (.iinc 4 1, 3) := by decide +kernel
theorem dX4_exchange_77 : decode cX4_exchange 77 = .ok (.goto (-72), 3) := by decide +kernel
theorem dX4_exchange_80 : decode cX4_exchange 80 = .ok (.iload_n 2, 1) := by decide +kernel
theorem dX4_exchange_81 : decode cX4_exchange 81 = .ok (.iconst (-1), 1) := by decide +kernel
theorem dX4_exchange_82 : decode cX4_exchange 82 = .ok (.if_icmp .ne 7, 3) := by decide +kernel
theorem dX4_exchange_85 : decode cX4_exchange 85 = .ok (.iload_n 3, 1) := by decide +kernel
theorem dX4_exchange_86 : decode cX4_exchange 86 = .ok (.goto 4, 3) := by decide +kernel
theorem dX4_exchange_89 : decode cX4_exchange 89 = .ok (.iconst (-1), 1) := by decide +kernel
theorem dX4_exchange_90 : decode cX4_exchange 90 = .ok (.ireturn, 1) := by decide +kernel
theorem dX4_wantsBedOf_0 : decode cX4_wantsBedOf 0 = .ok (.aload_n 0, 1) := by decide +kernel
theorem dX4_wantsBedOf_1 : decode cX4_wantsBedOf 1 = .ok (.iload_n 1, 1) := by decide +kernel
theorem dX4_wantsBedOf_2 : decode cX4_wantsBedOf 2 = .ok (.invokevirtual 70, 3) := by decide +kernel
theorem dX4_wantsBedOf_5 : decode cX4_wantsBedOf 5 = .ok (.ifCond .eq 26, 3) := by decide +kernel
theorem dX4_wantsBedOf_8 : decode cX4_wantsBedOf 8 = .ok (.aload_n 0, 1) := by decide +kernel
theorem dX4_wantsBedOf_9 : decode cX4_wantsBedOf 9 = .ok (.iload_n 2, 1) := by decide +kernel
theorem dX4_wantsBedOf_10 : decode cX4_wantsBedOf 10 = .ok (.invokevirtual 70, 3) := by decide +kernel
theorem dX4_wantsBedOf_13 : decode cX4_wantsBedOf 13 = .ok (.ifCond .eq 18, 3) := by decide +kernel
theorem dX4_wantsBedOf_16 : decode cX4_wantsBedOf 16 = .ok (.aload_n 0, 1) := by decide +kernel
theorem dX4_wantsBedOf_17 : decode cX4_wantsBedOf 17 = .ok (.getfield 102, 3) := by decide +kernel
theorem dX4_wantsBedOf_20 : decode cX4_wantsBedOf 20 = .ok (.iload_n 1, 1) := by decide +kernel
theorem dX4_wantsBedOf_21 : decode cX4_wantsBedOf 21 = .ok (.iaload, 1) := by decide +kernel
theorem dX4_wantsBedOf_22 : decode cX4_wantsBedOf 22 = .ok (.aload_n 0, 1) := by decide +kernel
theorem dX4_wantsBedOf_23 : decode cX4_wantsBedOf 23 = .ok (.getfield 102, 3) := by decide +kernel
theorem dX4_wantsBedOf_26 : decode cX4_wantsBedOf 26 = .ok (.iload_n 2, 1) := by decide +kernel
theorem dX4_wantsBedOf_27 : decode cX4_wantsBedOf 27 = .ok (.iaload, 1) := by decide +kernel
theorem dX4_wantsBedOf_28 : decode cX4_wantsBedOf 28 = .ok (.if_icmp .ne 5, 3) := by decide +kernel
theorem dX4_wantsBedOf_31 : decode cX4_wantsBedOf 31 = .ok (.iconst 0, 1) := by decide +kernel
theorem dX4_wantsBedOf_32 : decode cX4_wantsBedOf 32 = .ok (.ireturn, 1) := by decide +kernel
theorem dX4_wantsBedOf_33 : decode cX4_wantsBedOf 33 = .ok (.aload_n 0, 1) := by decide +kernel
theorem dX4_wantsBedOf_34 : decode cX4_wantsBedOf 34 = .ok (.getfield 102, 3) := by decide +kernel
theorem dX4_wantsBedOf_37 : decode cX4_wantsBedOf 37 = .ok (.iload_n 2, 1) := by decide +kernel
theorem dX4_wantsBedOf_38 : decode cX4_wantsBedOf 38 = .ok (.iaload, 1) := by decide +kernel
theorem dX4_wantsBedOf_39 : decode cX4_wantsBedOf 39 = .ok (.istore_n 3, 1) := by decide +kernel
theorem dX4_wantsBedOf_40 : decode cX4_wantsBedOf 40 = .ok (.aload_n 0, 1) := by decide +kernel
theorem dX4_wantsBedOf_41 : decode cX4_wantsBedOf 41 = .ok (.iload_n 1, 1) := by decide +kernel
theorem dX4_wantsBedOf_42 : decode cX4_wantsBedOf 42 = .ok (.iload_n 3, 1) := by decide +kernel
theorem dX4_wantsBedOf_43 : decode cX4_wantsBedOf 43 = .ok (.invokevirtual 105, 3) := by decide +kernel
theorem dX4_wantsBedOf_46 : decode cX4_wantsBedOf 46 = .ok (.aload_n 0, 1) := by decide +kernel
theorem dX4_wantsBedOf_47 : decode cX4_wantsBedOf 47 = .ok (.iload_n 1, 1) := by decide +kernel
theorem dX4_wantsBedOf_48 : decode cX4_wantsBedOf 48 = .ok (.aload_n 0, 1) := by decide +kernel
theorem dX4_wantsBedOf_49 : decode cX4_wantsBedOf 49 = .ok (.getfield 102, 3) := by decide +kernel
theorem dX4_wantsBedOf_52 : decode cX4_wantsBedOf 52 = .ok (.iload_n 1, 1) := by decide +kernel
theorem dX4_wantsBedOf_53 : decode cX4_wantsBedOf 53 = .ok (.iaload, 1) := by decide +kernel
theorem dX4_wantsBedOf_54 : decode cX4_wantsBedOf 54 = .ok (.invokevirtual 105, 3) := by decide +kernel
theorem dX4_wantsBedOf_57 : decode cX4_wantsBedOf 57 = .ok (.if_icmp .le 16, 3) := by decide +kernel
theorem dX4_wantsBedOf_60 : decode cX4_wantsBedOf 60 = .ok (.aload_n 0, 1) := by decide +kernel
theorem dX4_wantsBedOf_61 : decode cX4_wantsBedOf 61 = .ok (.iload_n 1, 1) := by decide +kernel
theorem dX4_wantsBedOf_62 : decode cX4_wantsBedOf 62 = .ok (.iload_n 3, 1) := by decide +kernel
theorem dX4_wantsBedOf_63 : decode cX4_wantsBedOf 63 = .ok (.invokevirtual 85, 3) := by decide +kernel
theorem dX4_wantsBedOf_66 : decode cX4_wantsBedOf 66 = .ok (.ifCond .ne 7, 3) := by decide +kernel
theorem dX4_wantsBedOf_69 : decode cX4_wantsBedOf 69 = .ok (.iconst 1, 1) := by decide +kernel
theorem dX4_wantsBedOf_70 : decode cX4_wantsBedOf 70 = .ok (.goto 4, 3) := by decide +kernel
theorem dX4_wantsBedOf_73 : decode cX4_wantsBedOf 73 = .ok (.iconst 0, 1) := by decide +kernel
theorem dX4_wantsBedOf_74 : decode cX4_wantsBedOf 74 = .ok (.ireturn, 1) := by decide +kernel
theorem dX5_init_0 : decode cX5_init 0 = .ok (.aload_n 0, 1) := by decide +kernel
theorem dX5_init_1 : decode cX5_init 1 = .ok (.invokespecial 1, 3) := by decide +kernel
theorem dX5_init_4 : decode cX5_init 4 = .ok (.aload_n 0, 1) := by decide +kernel
theorem dX5_init_5 : decode cX5_init 5 = .ok (.iconst 0, 1) := by decide +kernel
theorem dX5_init_6 : decode cX5_init 6 = .ok (.putfield 7, 3) := by decide +kernel
theorem dX5_init_9 : decode cX5_init 9 = .ok (.aload_n 0, 1) := by decide +kernel
theorem dX5_init_10 : decode cX5_init 10 = .ok (.iconst 0, 1) := by decide +kernel
theorem dX5_init_11 : decode cX5_init 11 = .ok (.putfield 13, 3) := by decide +kernel
theorem dX5_init_14 : decode cX5_init 14 = .ok (.aload_n 0, 1) := by decide +kernel
theorem dX5_init_15 : decode cX5_init 15 = .ok (.iconst 0, 1) := by decide +kernel
theorem dX5_init_16 : decode cX5_init 16 = .ok (.iload_n 1, 1) := by decide +kernel
theorem dX5_init_17 : decode cX5_init 17 = .ok (.invokestatic 16, 3) := by decide +kernel
theorem dX5_init_20 : decode cX5_init 20 = .ok (.newarray .int, 2) := by decide +kernel
theorem dX5_init_22 : decode cX5_init 22 = .ok (.putfield 22, 3) := by decide +kernel
theorem dX5_init_25 : decode cX5_init 25 = .ok (.aload_n 0, 1) := by decide +kernel
theorem dX5_init_26 : decode cX5_init 26 = .ok (.iconst 0, 1) := by decide +kernel
theorem dX5_init_27 : decode cX5_init 27 = .ok (.iload_n 2, 1) := by decide +kernel
theorem dX5_init_28 : decode cX5_init 28 = .ok (.bipush 6, 2) := by decide +kernel
theorem dX5_init_30 : decode cX5_init 30 = .ok (.imul, 1) := by decide +kernel
theorem dX5_init_31 : decode cX5_init 31 = .ok (.invokestatic 16, 3) := by decide +kernel
theorem dX5_init_34 : decode cX5_init 34 = .ok (.newarray .int, 2) := by decide +kernel
theorem dX5_init_36 : decode cX5_init 36 = .ok (.putfield 26, 3) := by decide +kernel
theorem dX5_init_39 : decode cX5_init 39 = .ok (.return_, 1) := by decide +kernel
theorem dX5_trimmed_0 : decode cX5_trimmed 0 = .ok (.new 8, 3) := by decide +kernel
theorem dX5_trimmed_3 : decode cX5_trimmed 3 = .ok (.dup, 1) := by decide +kernel
theorem dX5_trimmed_4 : decode cX5_trimmed 4 = .ok (.aload_n 0, 1) := by decide +kernel
theorem dX5_trimmed_5 : decode cX5_trimmed 5 = .ok (.getfield 7, 3) := by decide +kernel
theorem dX5_trimmed_8 : decode cX5_trimmed 8 = .ok (.aload_n 0, 1) := by decide +kernel
theorem dX5_trimmed_9 : decode cX5_trimmed 9 = .ok (.getfield 13, 3) := by decide +kernel
theorem dX5_trimmed_12 : decode cX5_trimmed 12 = .ok (.invokespecial 29, 3) := by decide +kernel
theorem dX5_trimmed_15 : decode cX5_trimmed 15 = .ok (.astore_n 1, 1) := by decide +kernel
theorem dX5_trimmed_16 : decode cX5_trimmed 16 = .ok (.aload_n 0, 1) := by decide +kernel
theorem dX5_trimmed_17 : decode cX5_trimmed 17 = .ok (.getfield 22, 3) := by decide +kernel
theorem dX5_trimmed_20 : decode cX5_trimmed 20 = .ok (.iconst 0, 1) := by decide +kernel
theorem dX5_trimmed_21 : decode cX5_trimmed 21 = .ok (.aload_n 1, 1) := by decide +kernel
theorem dX5_trimmed_22 : decode cX5_trimmed 22 = .ok (.getfield 22, 3) := by decide +kernel
theorem dX5_trimmed_25 : decode cX5_trimmed 25 = .ok (.iconst 0, 1) := by decide +kernel
theorem dX5_trimmed_26 : decode cX5_trimmed 26 = .ok (.aload_n 0, 1) := by decide +kernel
theorem dX5_trimmed_27 : decode cX5_trimmed 27 = .ok (.getfield 7, 3) := by decide +kernel
theorem dX5_trimmed_30 : decode cX5_trimmed 30 = .ok (.invokestatic 32, 3) := by decide +kernel
theorem dX5_trimmed_33 : decode cX5_trimmed 33 = .ok (.aload_n 0, 1) := by decide +kernel
theorem dX5_trimmed_34 : decode cX5_trimmed 34 = .ok (.getfield 26, 3) := by decide +kernel
theorem dX5_trimmed_37 : decode cX5_trimmed 37 = .ok (.iconst 0, 1) := by decide +kernel
theorem dX5_trimmed_38 : decode cX5_trimmed 38 = .ok (.aload_n 1, 1) := by decide +kernel
theorem dX5_trimmed_39 : decode cX5_trimmed 39 = .ok (.getfield 26, 3) := by decide +kernel
theorem dX5_trimmed_42 : decode cX5_trimmed 42 = .ok (.iconst 0, 1) := by decide +kernel
theorem dX5_trimmed_43 : decode cX5_trimmed 43 = .ok (.aload_n 0, 1) := by decide +kernel
theorem dX5_trimmed_44 : decode cX5_trimmed 44 = .ok (.getfield 13, 3) := by decide +kernel
theorem dX5_trimmed_47 : decode cX5_trimmed 47 = .ok (.bipush 6, 2) := by decide +kernel
theorem dX5_trimmed_49 : decode cX5_trimmed 49 = .ok (.imul, 1) := by decide +kernel
theorem dX5_trimmed_50 : decode cX5_trimmed 50 = .ok (.invokestatic 32, 3) := by decide +kernel
theorem dX5_trimmed_53 : decode cX5_trimmed 53 = .ok (.aload_n 1, 1) := by decide +kernel
theorem dX5_trimmed_54 : decode cX5_trimmed 54 = .ok (.aload_n 0, 1) := by decide +kernel
theorem dX5_trimmed_55 : decode cX5_trimmed 55 = .ok (.getfield 7, 3) := by decide +kernel
theorem dX5_trimmed_58 : decode cX5_trimmed 58 = .ok (.putfield 7, 3) := by decide +kernel
theorem dX5_trimmed_61 : decode cX5_trimmed 61 = .ok (.aload_n 1, 1) := by decide +kernel
theorem dX5_trimmed_62 : decode cX5_trimmed 62 = .ok (.aload_n 0, 1) := by decide +kernel
theorem dX5_trimmed_63 : decode cX5_trimmed 63 = .ok (.getfield 13, 3) := by decide +kernel
theorem dX5_trimmed_66 : decode cX5_trimmed 66 = .ok (.putfield 13, 3) := by decide +kernel
theorem dX5_trimmed_69 : decode cX5_trimmed 69 = .ok (.aload_n 1, 1) := by decide +kernel
theorem dX5_trimmed_70 : decode cX5_trimmed 70 = .ok (.areturn, 1) := by decide +kernel
theorem dX5_clear_0 : decode cX5_clear 0 = .ok (.aload_n 0, 1) := by decide +kernel
theorem dX5_clear_1 : decode cX5_clear 1 = .ok (.iconst 0, 1) := by decide +kernel
theorem dX5_clear_2 : decode cX5_clear 2 = .ok (.putfield 7, 3) := by decide +kernel
theorem dX5_clear_5 : decode cX5_clear 5 = .ok (.aload_n 0, 1) := by decide +kernel
theorem dX5_clear_6 : decode cX5_clear 6 = .ok (.iconst 0, 1) := by decide +kernel
theorem dX5_clear_7 : decode cX5_clear 7 = .ok (.putfield 13, 3) := by decide +kernel
theorem dX5_clear_10 : decode cX5_clear 10 = .ok (.return_, 1) := by decide +kernel
theorem dX5_part_0 : decode cX5_part 0 = .ok (.iload_n 1, 1) := by decide +kernel
theorem dX5_part_1 : decode cX5_part 1 = .ok (.bipush 6, 2) := by decide +kernel
theorem dX5_part_3 : decode cX5_part 3 = .ok (.imul, 1) := by decide +kernel
theorem dX5_part_4 : decode cX5_part 4 = .ok (.iload_n 2, 1) := by decide +kernel
theorem dX5_part_5 : decode cX5_part 5 = .ok (.iadd, 1) := by decide +kernel
theorem dX5_part_6 : decode cX5_part 6 = .ok (.istore_n 3, 1) := by decide +kernel
theorem dX5_part_7 : decode cX5_part 7 = .ok (.iload_n 3, 1) := by decide +kernel
theorem dX5_part_8 : decode cX5_part 8 = .ok (.ifCond .lt 21, 3) := by decide +kernel
theorem dX5_part_11 : decode cX5_part 11 = .ok (.iload_n 3, 1) := by decide +kernel
theorem dX5_part_12 : decode cX5_part 12 = .ok (.aload_n 0, 1) := by decide +kernel
theorem dX5_part_13 : decode cX5_part 13 = .ok (.getfield 26, 3) := by decide +kernel
theorem dX5_part_16 : decode cX5_part 16 = .ok (.arraylength, 1) := by decide +kernel
theorem dX5_part_17 : decode cX5_part 17 = .ok (.if_icmp .ge 12, 3) := by decide +kernel
theorem dX5_part_20 : decode cX5_part 20 = .ok (.aload_n 0, 1) := by decide +kernel
theorem dX5_part_21 : decode cX5_part 21 = .ok (.getfield 26, 3) := by decide +kernel
theorem dX5_part_24 : decode cX5_part 24 = .ok (.iload_n 3, 1) := by decide +kernel
theorem dX5_part_25 : decode cX5_part 25 = .ok (.iaload, 1) := by decide +kernel
theorem dX5_part_26 : decode cX5_part 26 = .ok (.goto 4, 3) := by decide +kernel
theorem dX5_part_29 : decode cX5_part 29 = .ok (.iconst 0, 1) := by decide +kernel
theorem dX5_part_30 : decode cX5_part 30 = .ok (.ireturn, 1) := by decide +kernel
theorem dX5_openClause_0 : decode cX5_openClause 0 = .ok (.aload_n 0, 1) := by decide +kernel
theorem dX5_openClause_1 : decode cX5_openClause 1 = .ok (.dup, 1) := by decide +kernel
theorem dX5_openClause_2 : decode cX5_openClause 2 = .ok (.getfield 13, 3) := by decide +kernel
theorem dX5_openClause_5 : decode cX5_openClause 5 = .ok (.iconst 1, 1) := by decide +kernel
theorem dX5_openClause_6 : decode cX5_openClause 6 = .ok (.iadd, 1) := by decide +kernel
theorem dX5_openClause_7 : decode cX5_openClause 7 = .ok (.putfield 13, 3) := by decide +kernel
theorem dX5_openClause_10 : decode cX5_openClause 10 = .ok (.aload_n 0, 1) := by decide +kernel
theorem dX5_openClause_11 : decode cX5_openClause 11 = .ok (.iconst 0, 1) := by decide +kernel
theorem dX5_openClause_12 : decode cX5_openClause 12 = .ok (.iload_n 1, 1) := by decide +kernel
theorem dX5_openClause_13 : decode cX5_openClause 13 = .ok (.invokevirtual 38, 3) := by decide +kernel
theorem dX5_openClause_16 : decode cX5_openClause 16 = .ok (.aload_n 0, 1) := by decide +kernel
theorem dX5_openClause_17 : decode cX5_openClause 17 = .ok (.iconst 1, 1) := by decide +kernel
theorem dX5_openClause_18 : decode cX5_openClause 18 = .ok (.iconst 1, 1) := by decide +kernel
theorem dX5_openClause_19 : decode cX5_openClause 19 = .ok (.invokevirtual 38, 3) := by decide +kernel
theorem dX5_openClause_22 : decode cX5_openClause 22 = .ok (.aload_n 0, 1) := by decide +kernel
theorem dX5_openClause_23 : decode cX5_openClause 23 = .ok (.iconst 2, 1) := by decide +kernel
theorem dX5_openClause_24 : decode cX5_openClause 24 = .ok (.aload_n 0, 1) := by decide +kernel
theorem dX5_openClause_25 : decode cX5_openClause 25 = .ok (.getfield 7, 3) := by decide +kernel
theorem dX5_openClause_28 : decode cX5_openClause 28 = .ok (.invokevirtual 38, 3) := by decide +kernel
theorem dX5_openClause_31 : decode cX5_openClause 31 = .ok (.return_, 1) := by decide +kernel
theorem dX5_set_0 : decode cX5_set 0 = .ok (.aload_n 0, 1) := by decide +kernel
theorem dX5_set_1 : decode cX5_set 1 = .ok (.getfield 13, 3) := by decide +kernel
theorem dX5_set_4 : decode cX5_set 4 = .ok (.iconst 1, 1) := by decide +kernel
theorem dX5_set_5 : decode cX5_set 5 = .ok (.isub, 1) := by decide +kernel
theorem dX5_set_6 : decode cX5_set 6 = .ok (.bipush 6, 2) := by decide +kernel
theorem dX5_set_8 : decode cX5_set 8 = .ok (.imul, 1) := by decide +kernel
theorem dX5_set_9 : decode cX5_set 9 = .ok (.iload_n 1, 1) := by decide +kernel
theorem dX5_set_10 : decode cX5_set 10 = .ok (.iadd, 1) := by decide +kernel
theorem dX5_set_11 : decode cX5_set 11 = .ok (.istore_n 3, 1) := by decide +kernel
theorem dX5_set_12 : decode cX5_set 12 = .ok (.iload_n 3, 1) := by decide +kernel
theorem dX5_set_13 : decode cX5_set 13 = .ok (.ifCond .lt 19, 3) := by decide +kernel
theorem dX5_set_16 : decode cX5_set 16 = .ok (.iload_n 3, 1) := by decide +kernel
theorem dX5_set_17 : decode cX5_set 17 = .ok (.aload_n 0, 1) := by decide +kernel
theorem dX5_set_18 : decode cX5_set 18 = .ok (.getfield 26, 3) := by decide +kernel
theorem dX5_set_21 : decode cX5_set 21 = .ok (.arraylength, 1) := by decide +kernel
theorem dX5_set_22 : decode cX5_set 22 = .ok (.if_icmp .ge 10, 3) := by decide +kernel
theorem dX5_set_25 : decode cX5_set 25 = .ok (.aload_n 0, 1) := by decide +kernel
theorem dX5_set_26 : decode cX5_set 26 = .ok (.getfield 26, 3) := by decide +kernel
theorem dX5_set_29 : decode cX5_set 29 = .ok (.iload_n 3, 1) := by decide +kernel
theorem dX5_set_30 : decode cX5_set 30 = .ok (.iload_n 2, 1) := by decide +kernel
theorem dX5_set_31 : decode cX5_set 31 = .ok (.iastore, 1) := by decide +kernel
theorem dX5_set_32 : decode cX5_set 32 = .ok (.return_, 1) := by decide +kernel
theorem dX5_add_0 : decode cX5_add 0 = .ok (.aload_n 0, 1) := by decide +kernel
theorem dX5_add_1 : decode cX5_add 1 = .ok (.getfield 7, 3) := by decide +kernel
theorem dX5_add_4 : decode cX5_add 4 = .ok (.aload_n 0, 1) := by decide +kernel
theorem dX5_add_5 : decode cX5_add 5 = .ok (.getfield 22, 3) := by decide +kernel
theorem dX5_add_8 : decode cX5_add 8 = .ok (.arraylength, 1) := by decide +kernel
theorem dX5_add_9 : decode cX5_add 9 = .ok (.if_icmp .ge 28, 3) := by decide +kernel
theorem dX5_add_12 : decode cX5_add 12 = .ok (.aload_n 0, 1) := by decide +kernel
theorem dX5_add_13 : decode cX5_add 13 = .ok (.getfield 22, 3) := by decide +kernel
theorem dX5_add_16 : decode cX5_add 16 = .ok (.aload_n 0, 1) := by decide +kernel
theorem dX5_add_17 : decode cX5_add 17 = .ok (.getfield 7, 3) := by decide +kernel
theorem dX5_add_20 : decode cX5_add 20 = .ok (.iload_n 1, 1) := by decide +kernel
theorem dX5_add_21 : decode cX5_add 21 = .ok (.bipush 16, 2) := by decide +kernel
theorem dX5_add_23 : decode cX5_add 23 = .ok (.iload_n 2, 1) := by decide +kernel
theorem dX5_add_24 : decode cX5_add 24 = .ok (.imul, 1) := by decide +kernel
theorem dX5_add_25 : decode cX5_add 25 = .ok (.iadd, 1) := by decide +kernel
theorem dX5_add_26 : decode cX5_add 26 = .ok (.iastore, 1) := by decide +kernel
theorem dX5_add_27 : decode cX5_add 27 = .ok (.aload_n 0, 1) := by decide +kernel
theorem dX5_add_28 : decode cX5_add 28 = .ok (.dup, 1) := by decide +kernel
theorem dX5_add_29 : decode cX5_add 29 = .ok (.getfield 7, 3) := by decide +kernel
theorem dX5_add_32 : decode cX5_add 32 = .ok (.iconst 1, 1) := by decide +kernel
theorem dX5_add_33 : decode cX5_add 33 = .ok (.iadd, 1) := by decide +kernel
theorem dX5_add_34 : decode cX5_add 34 = .ok (.putfield 7, 3) := by decide +kernel
theorem dX5_add_37 : decode cX5_add 37 = .ok (.aload_n 0, 1) := by decide +kernel
theorem dX5_add_38 : decode cX5_add 38 = .ok (.getfield 7, 3) := by decide +kernel
theorem dX5_add_41 : decode cX5_add 41 = .ok (.iconst 1, 1) := by decide +kernel
theorem dX5_add_42 : decode cX5_add 42 = .ok (.isub, 1) := by decide +kernel
