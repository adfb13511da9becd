theorem dX5_add_43 : decode cX5_add 43 = .ok (.ireturn, 1) := by decide +kernel
theorem dX5_aim_0 : decode cX5_aim 0 = .ok (.iload_n 1, 1) := by decide +kernel
theorem dX5_aim_1 : decode cX5_aim 1 = .ok (.ifCond .lt 34, 3) := by decide +kernel
theorem dX5_aim_4 : decode cX5_aim 4 = .ok (.iload_n 1, 1) := by decide +kernel
theorem dX5_aim_5 : decode cX5_aim 5 = .ok (.aload_n 0, 1) := by decide +kernel
theorem dX5_aim_6 : decode cX5_aim 6 = .ok (.getfield 7, 3) := by decide +kernel
theorem dX5_aim_9 : decode cX5_aim 9 = .ok (.if_icmp .ge 26, 3) := by decide +kernel
theorem dX5_aim_12 : decode cX5_aim 12 = .ok (.aload_n 0, 1) := by decide +kernel
theorem dX5_aim_13 : decode cX5_aim 13 = .ok (.getfield 22, 3) := by decide +kernel
theorem dX5_aim_16 : decode cX5_aim 16 = .ok (.iload_n 1, 1) := by decide +kernel
theorem dX5_aim_17 : decode cX5_aim 17 = .ok (.aload_n 0, 1) := by decide +kernel
theorem dX5_aim_18 : decode cX5_aim 18 = .ok (.getfield 22, 3) := by decide +kernel
theorem dX5_aim_21 : decode cX5_aim 21 = .ok (.iload_n 1, 1) := by decide +kernel
theorem dX5_aim_22 : decode cX5_aim 22 = .ok (.iaload, 1) := by decide +kernel
theorem dX5_aim_23 : decode cX5_aim 23 = .ok (.bipush 15, 2) := by decide +kernel
theorem dX5_aim_25 : decode cX5_aim 25 = .ok (.iand, 1) := by decide +kernel
theorem dX5_aim_26 : decode cX5_aim 26 = .ok (.bipush 16, 2) := by decide +kernel
theorem dX5_aim_28 : decode cX5_aim 28 = .ok (.aload_n 0, 1) := by decide +kernel
theorem dX5_aim_29 : decode cX5_aim 29 = .ok (.getfield 7, 3) := by decide +kernel
theorem dX5_aim_32 : decode cX5_aim 32 = .ok (.imul, 1) := by decide +kernel
theorem dX5_aim_33 : decode cX5_aim 33 = .ok (.iadd, 1) := by decide +kernel
theorem dX5_aim_34 : decode cX5_aim 34 = .ok (.iastore, 1) := by decide +kernel
theorem dX5_aim_35 : decode cX5_aim 35 = .ok (.return_, 1) := by decide +kernel
theorem dX6_init_0 : decode cX6_init 0 = .ok (.aload_n 0, 1) := by decide +kernel
theorem dX6_init_1 : decode cX6_init 1 = .ok (.invokespecial 5, 3) := by decide +kernel
theorem dX6_init_4 : decode cX6_init 4 = .ok (.aload_n 0, 1) := by decide +kernel
theorem dX6_init_5 : decode cX6_init 5 = .ok (.new 11, 3) := by decide +kernel
theorem dX6_init_8 : decode cX6_init 8 = .ok (.dup, 1) := by decide +kernel
theorem dX6_init_9 : decode cX6_init 9 = .ok (.sipush 400, 3) := by decide +kernel
theorem dX6_init_12 : decode cX6_init 12 = .ok (.bipush 12, 2) := by decide +kernel
theorem dX6_init_14 : decode cX6_init 14 = .ok (.invokespecial 13, 3) := by decide +kernel
theorem dX6_init_17 : decode cX6_init 17 = .ok (.putfield 16, 3) := by decide +kernel
theorem dX6_init_20 : decode cX6_init 20 = .ok (.aload_n 0, 1) := by decide +kernel
theorem dX6_init_21 : decode cX6_init 21 = .ok (.sipush 401, 3) := by decide +kernel
theorem dX6_init_24 : decode cX6_init 24 = .ok (.newarray .int, 2) := by decide +kernel
theorem dX6_init_26 : decode cX6_init 26 = .ok (.putfield 20, 3) := by decide +kernel
theorem dX6_init_29 : decode cX6_init 29 = .ok (.aload_n 0, 1) := by decide +kernel
theorem dX6_init_30 : decode cX6_init 30 = .ok (.sipush 401, 3) := by decide +kernel
theorem dX6_init_33 : decode cX6_init 33 = .ok (.newarray .int, 2) := by decide +kernel
theorem dX6_init_35 : decode cX6_init 35 = .ok (.putfield 24, 3) := by decide +kernel
theorem dX6_init_38 : decode cX6_init 38 = .ok (.aload_n 0, 1) := by decide +kernel
theorem dX6_init_39 : decode cX6_init 39 = .ok (.iconst 0, 1) := by decide +kernel
theorem dX6_init_40 : decode cX6_init 40 = .ok (.putfield 27, 3) := by decide +kernel
theorem dX6_init_43 : decode cX6_init 43 = .ok (.aload_n 0, 1) := by decide +kernel
theorem dX6_init_44 : decode cX6_init 44 = .ok (.iconst 0, 1) := by decide +kernel
theorem dX6_init_45 : decode cX6_init 45 = .ok (.putfield 31, 3) := by decide +kernel
theorem dX6_init_48 : decode cX6_init 48 = .ok (.aload_n 0, 1) := by decide +kernel
theorem dX6_init_49 : decode cX6_init 49 = .ok (.sipush 4000, 3) := by decide +kernel
theorem dX6_init_52 : decode cX6_init 52 = .ok (.putfield 34, 3) := by decide +kernel
theorem dX6_init_55 : decode cX6_init 55 = .ok (.aload_n 0, 1) := by decide +kernel
theorem dX6_init_56 : decode cX6_init 56 = .ok (.iconst (-1), 1) := by decide +kernel
theorem dX6_init_57 : decode cX6_init 57 = .ok (.putfield 37, 3) := by decide +kernel
theorem dX6_init_60 : decode cX6_init 60 = .ok (.aload_n 0, 1) := by decide +kernel
theorem dX6_init_61 : decode cX6_init 61 = .ok (.iconst 0, 1) := by decide +kernel
theorem dX6_init_62 : decode cX6_init 62 = .ok (.putfield 40, 3) := by decide +kernel
theorem dX6_init_65 : decode cX6_init 65 = .ok (.aload_n 0, 1) := by decide +kernel
theorem dX6_init_66 : decode cX6_init 66 = .ok (.iconst 0, 1) := by decide +kernel
theorem dX6_init_67 : decode cX6_init 67 = .ok (.putfield 43, 3) := by decide +kernel
theorem dX6_init_70 : decode cX6_init 70 = .ok (.aload_n 0, 1) := by decide +kernel
theorem dX6_init_71 : decode cX6_init 71 = .ok (.iconst 0, 1) := by decide +kernel
theorem dX6_init_72 : decode cX6_init 72 = .ok (.putfield 46, 3) := by decide +kernel
theorem dX6_init_75 : decode cX6_init 75 = .ok (.return_, 1) := by decide +kernel
theorem dX6_readText_0 : decode cX6_readText 0 = .ok (.aload_n 0, 1) := by decide +kernel
theorem dX6_readText_1 : decode cX6_readText 1 = .ok (.aload_n 1, 1) := by decide +kernel
theorem dX6_readText_2 : decode cX6_readText 2 = .ok (.iconst 0, 1) := by decide +kernel
theorem dX6_readText_3 : decode cX6_readText 3 = .ok (.iload_n 2, 1) := by decide +kernel
theorem dX6_readText_4 : decode cX6_readText 4 = .ok (.aload_n 1, 1) := by decide +kernel
theorem dX6_readText_5 : decode cX6_readText 5 = .ok (.arraylength, 1) := by decide +kernel
theorem dX6_readText_6 : decode cX6_readText 6 = .ok (.invokestatic 50, 3) := by decide +kernel
theorem dX6_readText_9 : decode cX6_readText 9 = .ok (.invokestatic 56, 3) := by decide +kernel
theorem dX6_readText_12 : decode cX6_readText 12 = .ok (.invokevirtual 59, 3) := by decide +kernel
theorem dX6_readText_15 : decode cX6_readText 15 = .ok (.aload_n 0, 1) := by decide +kernel
theorem dX6_readText_16 : decode cX6_readText 16 = .ok (.iload_n 3, 1) := by decide +kernel
theorem dX6_readText_17 : decode cX6_readText 17 = .ok (.putfield 46, 3) := by decide +kernel
theorem dX6_readText_20 : decode cX6_readText 20 = .ok (.aload_n 0, 1) := by decide +kernel
theorem dX6_readText_21 : decode cX6_readText 21 = .ok (.iconst 0, 1) := by decide +kernel
theorem dX6_readText_22 : decode cX6_readText 22 = .ok (.putfield 31, 3) := by decide +kernel
theorem dX6_readText_25 : decode cX6_readText 25 = .ok (.aload_n 0, 1) := by decide +kernel
theorem dX6_readText_26 : decode cX6_readText 26 = .ok (.aload_n 0, 1) := by decide +kernel
theorem dX6_readText_27 : decode cX6_readText 27 = .ok (.getfield 24, 3) := by decide +kernel
theorem dX6_readText_30 : decode cX6_readText 30 = .ok (.iconst 0, 1) := by decide +kernel
theorem dX6_readText_31 : decode cX6_readText 31 = .ok (.iaload, 1) := by decide +kernel
theorem dX6_readText_32 : decode cX6_readText 32 = .ok (.putfield 34, 3) := by decide +kernel
theorem dX6_readText_35 : decode cX6_readText 35 = .ok (.aload_n 0, 1) := by decide +kernel
theorem dX6_readText_36 : decode cX6_readText 36 = .ok (.iconst (-1), 1) := by decide +kernel
theorem dX6_readText_37 : decode cX6_readText 37 = .ok (.putfield 37, 3) := by decide +kernel
theorem dX6_readText_40 : decode cX6_readText 40 = .ok (.aload_n 0, 1) := by decide +kernel
theorem dX6_readText_41 : decode cX6_readText 41 = .ok (.iconst 0, 1) := by decide +kernel
theorem dX6_readText_42 : decode cX6_readText 42 = .ok (.putfield 40, 3) := by decide +kernel
theorem dX6_readText_45 : decode cX6_readText 45 = .ok (.aload_n 0, 1) := by decide +kernel
theorem dX6_readText_46 : decode cX6_readText 46 = .ok (.iconst 0, 1) := by decide +kernel
theorem dX6_readText_47 : decode cX6_readText 47 = .ok (.putfield 43, 3) := by decide +kernel
theorem dX6_readText_50 : decode cX6_readText 50 = .ok (.aload_n 0, 1) := by decide +kernel
theorem dX6_readText_51 : decode cX6_readText 51 = .ok (.getfield 16, 3) := by decide +kernel
theorem dX6_readText_54 : decode cX6_readText 54 = .ok (.invokevirtual 63, 3) := by decide +kernel
theorem dX6_readText_57 : decode cX6_readText 57 = .ok (.iconst 1, 1) := by decide +kernel
theorem dX6_readText_58 : decode cX6_readText 58 = .ok (.istore 4, 2) := by decide +kernel
theorem dX6_readText_60 : decode cX6_readText 60 = .ok (.iconst 0, 1) := by decide +kernel
theorem dX6_readText_61 : decode cX6_readText 61 = .ok (.istore 5, 2) := by decide +kernel
theorem dX6_readText_63 : decode cX6_readText 63 = .ok (.iload 5, 2) := by decide +kernel
theorem dX6_readText_65 : decode cX6_readText 65 = .ok (.bipush 12, 2) := by decide +kernel
theorem dX6_readText_67 : decode cX6_readText 67 = .ok (.if_icmp .ge 47, 3) := by decide +kernel
theorem dX6_readText_70 : decode cX6_readText 70 = .ok (.iload 4, 2) := by decide +kernel
theorem dX6_readText_72 : decode cX6_readText 72 = .ok (.ifCond .eq 42, 3) := by decide +kernel
theorem dX6_readText_75 : decode cX6_readText 75 = .ok (.aload_n 0, 1) := by decide +kernel
theorem dX6_readText_76 : decode cX6_readText 76 = .ok (.invokevirtual 66, 3) := by decide +kernel
theorem dX6_readText_79 : decode cX6_readText 79 = .ok (.aload_n 0, 1) := by decide +kernel
theorem dX6_readText_80 : decode cX6_readText 80 = .ok (.getfield 34, 3) := by decide +kernel
theorem dX6_readText_83 : decode cX6_readText 83 = .ok (.sipush 4000, 3) := by decide +kernel
theorem dX6_readText_86 : decode cX6_readText 86 = .ok (.if_icmp .eq 7, 3) := by decide +kernel
theorem dX6_readText_89 : decode cX6_readText 89 = .ok (.iconst 1, 1) := by decide +kernel
theorem dX6_readText_90 : decode cX6_readText 90 = .ok (.goto 4, 3) := by decide +kernel
theorem dX6_readText_93 : decode cX6_readText 93 = .ok (.iconst 0, 1) := by decide +kernel
theorem dX6_readText_94 : decode cX6_readText 94 = .ok (.istore 4, 2) := by decide +kernel
theorem dX6_readText_96 : decode cX6_readText 96 = .ok (.iload 4, 2) := by decide +kernel
theorem dX6_readText_98 : decode cX6_readText 98 = .ok (.ifCond .eq 10, 3) := by decide +kernel
theorem dX6_readText_101 : decode cX6_readText 101 = .ok (.aload_n 0, 1) := by decide +kernel
theorem dX6_readText_102 : decode cX6_readText 102 = .ok (.sipush 3059, 3) := by decide +kernel
theorem dX6_readText_105 : decode cX6_readText 105 = .ok (.invokevirtual 69, 3) := by decide +kernel
theorem dX6_readText_108 : decode cX6_readText 108 = .ok (.iinc 5 1, 3) := by decide +kernel
theorem dX6_readText_111 : decode cX6_readText 111 = .ok (.goto (-48), 3) := by decide +kernel
theorem dX6_readText_114 : decode cX6_readText 114 = .ok (.iload 4, 2) := by decide +kernel
theorem dX6_readText_116 : decode cX6_readText 116 = .ok (.ifCond .eq 8, 3) := by decide +kernel
theorem dX6_readText_119 : decode cX6_readText 119 = .ok (.aload_n 0, 1) := by decide +kernel
theorem dX6_readText_120 : decode cX6_readText 120 = .ok (.iconst (-1), 1) := by decide +kernel
theorem dX6_readText_121 : decode cX6_readText 121 = .ok (.invokevirtual 69, 3) := by decide +kernel
theorem dX6_readText_124 : decode cX6_readText 124 = .ok (.aload_n 0, 1) := by decide +kernel
theorem dX6_readText_125 : decode cX6_readText 125 = .ok (.getfield 37, 3) := by decide +kernel
theorem dX6_readText_128 : decode cX6_readText 128 = .ok (.iconst (-1), 1) := by decide +kernel
theorem dX6_readText_129 : decode cX6_readText 129 = .ok (.if_icmp .ne 7, 3) := by decide +kernel
theorem dX6_readText_132 : decode cX6_readText 132 = .ok (.iconst 1, 1) := by decide +kernel
theorem dX6_readText_133 : decode cX6_readText 133 = .ok (.goto 4, 3) := by decide +kernel
theorem dX6_readText_136 : decode cX6_readText 136 = .ok (.iconst 0, 1) := by decide +kernel
theorem dX6_readText_137 : decode cX6_readText 137 = .ok (.ireturn, 1) := by decide +kernel
theorem dX6_split_0 : decode cX6_split 0 = .ok (.aload_n 0, 1) := by decide +kernel
theorem dX6_split_1 : decode cX6_split 1 = .ok (.iconst 0, 1) := by decide +kernel
theorem dX6_split_2 : decode cX6_split 2 = .ok (.putfield 27, 3) := by decide +kernel
theorem dX6_split_5 : decode cX6_split 5 = .ok (.iconst 0, 1) := by decide +kernel
theorem dX6_split_6 : decode cX6_split 6 = .ok (.istore_n 3, 1) := by decide +kernel
theorem dX6_split_7 : decode cX6_split 7 = .ok (.iconst 0, 1) := by decide +kernel
theorem dX6_split_8 : decode cX6_split 8 = .ok (.istore 4, 2) := by decide +kernel
theorem dX6_split_10 : decode cX6_split 10 = .ok (.iload 4, 2) := by decide +kernel
theorem dX6_split_12 : decode cX6_split 12 = .ok (.iload_n 2, 1) := by decide +kernel
theorem dX6_split_13 : decode cX6_split 13 = .ok (.if_icmp .ge 172, 3) := by decide +kernel
theorem dX6_split_16 : decode cX6_split 16 = .ok (.aload_n 1, 1) := by decide +kernel
theorem dX6_split_17 : decode cX6_split 17 = .ok (.iload 4, 2) := by decide +kernel
theorem dX6_split_19 : decode cX6_split 19 = .ok (.baload, 1) := by decide +kernel
theorem dX6_split_20 : decode cX6_split 20 = .ok (.sipush 255, 3) := by decide +kernel
theorem dX6_split_23 : decode cX6_split 23 = .ok (.iand, 1) := by decide +kernel
theorem dX6_split_24 : decode cX6_split 24 = .ok (.istore 5, 2) := by decide +kernel
theorem dX6_split_26 : decode cX6_split 26 = .ok (.iload 5, 2) := by decide +kernel
theorem dX6_split_28 : decode cX6_split 28 = .ok (.invokestatic 73, 3) := by decide +kernel
theorem dX6_split_31 : decode cX6_split 31 = .ok (.istore 6, 2) := by decide +kernel
theorem dX6_split_33 : decode cX6_split 33 = .ok (.iload 6, 2) := by decide +kernel
theorem dX6_split_35 : decode cX6_split 35 = .ok (.ifCond .eq 87, 3) := by decide +kernel
theorem dX6_split_38 : decode cX6_split 38 = .ok (.iload 6, 2) := by decide +kernel
theorem dX6_split_40 : decode cX6_split 40 = .ok (.iconst 3, 1) := by decide +kernel
theorem dX6_split_41 : decode cX6_split 41 = .ok (.if_icmp .eq 9, 3) := by decide +kernel
theorem dX6_split_44 : decode cX6_split 44 = .ok (.iload 6, 2) := by decide +kernel
theorem dX6_split_46 : decode cX6_split 46 = .ok (.iload_n 3, 1) := by decide +kernel
theorem dX6_split_47 : decode cX6_split 47 = .ok (.if_icmp .eq 75, 3) := by decide +kernel
theorem dX6_split_50 : decode cX6_split 50 = .ok (.aload_n 0, 1) := by decide +kernel
theorem dX6_split_51 : decode cX6_split 51 = .ok (.getfield 20, 3) := by decide +kernel
theorem dX6_split_54 : decode cX6_split 54 = .ok (.aload_n 0, 1) := by decide +kernel
theorem dX6_split_55 : decode cX6_split 55 = .ok (.getfield 27, 3) := by decide +kernel
theorem dX6_split_58 : decode cX6_split 58 = .ok (.iload 4, 2) := by decide +kernel
theorem dX6_split_60 : decode cX6_split 60 = .ok (.iastore, 1) := by decide +kernel
theorem dX6_split_61 : decode cX6_split 61 = .ok (.aload_n 0, 1) := by decide +kernel
theorem dX6_split_62 : decode cX6_split 62 = .ok (.getfield 24, 3) := by decide +kernel
theorem dX6_split_65 : decode cX6_split 65 = .ok (.aload_n 0, 1) := by decide +kernel
theorem dX6_split_66 : decode cX6_split 66 = .ok (.getfield 27, 3) := by decide +kernel
theorem dX6_split_69 : decode cX6_split 69 = .ok (.iload 6, 2) := by decide +kernel
theorem dX6_split_71 : decode cX6_split 71 = .ok (.iconst 1, 1) := by decide +kernel
theorem dX6_split_72 : decode cX6_split 72 = .ok (.if_icmp .ne 17, 3) := by decide +kernel
theorem dX6_split_75 : decode cX6_split 75 = .ok (.sipush 2000, 3) := by decide +kernel
theorem dX6_split_78 : decode cX6_split 78 = .ok (.aload_n 1, 1) := by decide +kernel
theorem dX6_split_79 : decode cX6_split 79 = .ok (.iload 4, 2) := by decide +kernel
theorem dX6_split_81 : decode cX6_split 81 = .ok (.iload_n 2, 1) := by decide +kernel
theorem dX6_split_82 : decode cX6_split 82 = .ok (.invokestatic 77, 3) := by decide +kernel
theorem dX6_split_85 : decode cX6_split 85 = .ok (.iadd, 1) := by decide +kernel
theorem dX6_split_86 : decode cX6_split 86 = .ok (.goto 9, 3) := by decide +kernel
theorem dX6_split_89 : decode cX6_split 89 = .ok (.sipush 3000, 3) := by decide +kernel
theorem dX6_split_92 : decode cX6_split 92 = .ok (.iload 5, 2) := by decide +kernel
theorem dX6_split_94 : decode cX6_split 94 = .ok (.iadd, 1) := by decide +kernel
theorem dX6_split_95 : decode cX6_split 95 = .ok (.iastore, 1) := by decide +kernel
theorem dX6_split_96 : decode cX6_split 96 = .ok (.iload 6, 2) := by decide +kernel
theorem dX6_split_98 : decode cX6_split 98 = .ok (.iconst 2, 1) := by decide +kernel
theorem dX6_split_99 : decode cX6_split 99 = .ok (.if_icmp .ne 13, 3) := by decide +kernel
theorem dX6_split_102 : decode cX6_split 102 = .ok (.aload_n 0, 1) := by decide +kernel
theorem dX6_split_103 : decode cX6_split 103 = .ok (.getfield 24, 3) := by decide +kernel
theorem dX6_split_106 : decode cX6_split 106 = .ok (.aload_n 0, 1) := by decide +kernel
theorem dX6_split_107 : decode cX6_split 107 = .ok (.getfield 27, 3) := by decide +kernel
theorem dX6_split_110 : decode cX6_split 110 = .ok (.iconst 0, 1) := by decide +kernel
theorem dX6_split_111 : decode cX6_split 111 = .ok (.iastore, 1) := by decide +kernel
theorem dX6_split_112 : decode cX6_split 112 = .ok (.aload_n 0, 1) := by decide +kernel
theorem dX6_split_113 : decode cX6_split 113 = .ok (.dup, 1) := by decide +kernel
theorem dX6_split_114 : decode cX6_split 114 = .ok (.getfield 27, 3) := by decide +kernel
theorem dX6_split_117 : decode cX6_split 117 = .ok (.iconst 1, 1) := by decide +kernel
theorem dX6_split_118 : decode cX6_split 118 = .ok (.iadd, 1) := by decide +kernel
theorem dX6_split_119 : decode cX6_split 119 = .ok (.putfield 27, 3) := by decide +kernel
theorem dX6_split_122 : decode cX6_split 122 = .ok (.iload 6, 2) := by decide +kernel
theorem dX6_split_124 : decode cX6_split 124 = .ok (.iconst 2, 1) := by decide +kernel
theorem dX6_split_125 : decode cX6_split 125 = .ok (.if_icmp .ne 51, 3) := by decide +kernel
theorem dX6_split_128 : decode cX6_split 128 = .ok (.aload_n 0, 1) := by decide +kernel
theorem dX6_split_129 : decode cX6_split 129 = .ok (.getfield 27, 3) := by decide +kernel
theorem dX6_split_132 : decode cX6_split 132 = .ok (.ifCond .le 44, 3) := by decide +kernel
theorem dX6_split_135 : decode cX6_split 135 = .ok (.aload_n 0, 1) := by decide +kernel
theorem dX6_split_136 : decode cX6_split 136 = .ok (.getfield 24, 3) := by decide +kernel
theorem dX6_split_139 : decode cX6_split 139 = .ok (.aload_n 0, 1) := by decide +kernel
theorem dX6_split_140 : decode cX6_split 140 = .ok (.getfield 27, 3) := by decide +kernel
theorem dX6_split_143 : decode cX6_split 143 = .ok (.iconst 1, 1) := by decide +kernel
theorem dX6_split_144 : decode cX6_split 144 = .ok (.isub, 1) := by decide +kernel
theorem dX6_split_145 : decode cX6_split 145 = .ok (.iaload, 1) := by decide +kernel
theorem dX6_split_146 : decode cX6_split 146 = .ok (.bipush 10, 2) := by decide +kernel
theorem dX6_split_148 : decode cX6_split 148 = .ok (.imul, 1) := by decide +kernel
theorem dX6_split_149 : decode cX6_split 149 = .ok (.iload 5, 2) := by decide +kernel
theorem dX6_split_151 : decode cX6_split 151 = .ok (.iadd, 1) := by decide +kernel
theorem dX6_split_152 : decode cX6_split 152 = .ok (.bipush 48, 2) := by decide +kernel
theorem dX6_split_154 : decode cX6_split 154 = .ok (.isub, 1) := by decide +kernel
theorem dX6_split_155 : decode cX6_split 155 = .ok (.istore 7, 2) := by decide +kernel
theorem dX6_split_157 : decode cX6_split 157 = .ok (.aload_n 0, 1) := by decide +kernel
theorem dX6_split_158 : decode cX6_split 158 = .ok (.getfield 24, 3) := by decide +kernel
theorem dX6_split_161 : decode cX6_split 161 = .ok (.aload_n 0, 1) := by decide +kernel
theorem dX6_split_162 : decode cX6_split 162 = .ok (.getfield 27, 3) := by decide +kernel
theorem dX6_split_165 : decode cX6_split 165 = .ok (.iconst 1, 1) := by decide +kernel
theorem dX6_split_166 : decode cX6_split 166 = .ok (.isub, 1) := by decide +kernel
theorem dX6_split_167 : decode cX6_split 167 = .ok (.sipush 1001, 3) := by decide +kernel
theorem dX6_split_170 : decode cX6_split 170 = .ok (.iload 7, 2) := by decide +kernel
theorem dX6_split_172 : decode cX6_split 172 = .ok (.invokestatic 50, 3) := by decide +kernel
theorem dX6_split_175 : decode cX6_split 175 = .ok (.iastore, 1) := by decide +kernel
theorem dX6_split_176 : decode cX6_split 176 = .ok (.iload 6, 2) := by decide +kernel
theorem dX6_split_178 : decode cX6_split 178 = .ok (.istore_n 3, 1) := by decide +kernel
theorem dX6_split_179 : decode cX6_split 179 = .ok (.iinc 4 1, 3) := by decide +kernel
theorem dX6_split_182 : decode cX6_split 182 = .ok (.goto (-172), 3) := by decide +kernel
theorem dX6_split_185 : decode cX6_split 185 = .ok (.aload_n 0, 1) := by decide +kernel
theorem dX6_split_186 : decode cX6_split 186 = .ok (.getfield 20, 3) := by decide +kernel
theorem dX6_split_189 : decode cX6_split 189 = .ok (.aload_n 0, 1) := by decide +kernel
theorem dX6_split_190 : decode cX6_split 190 = .ok (.getfield 27, 3) := by decide +kernel
theorem dX6_split_193 : decode cX6_split 193 = .ok (.iload_n 2, 1) := by decide +kernel
theorem dX6_split_194 : decode cX6_split 194 = .ok (.iastore, 1) := by decide +kernel
theorem dX6_split_195 : decode cX6_split 195 = .ok (.aload_n 0, 1) := by decide +kernel
theorem dX6_split_196 : decode cX6_split 196 = .ok (.getfield 24, 3) := by decide +kernel
theorem dX6_split_199 : decode cX6_split 199 = .ok (.aload_n 0, 1) := by decide +kernel
theorem dX6_split_200 : decode cX6_split 200 = .ok (.getfield 27, 3) := by decide +kernel
theorem dX6_split_203 : decode cX6_split 203 = .ok (.sipush 4000, 3) := by decide +kernel
theorem dX6_split_206 : decode cX6_split 206 = .ok (.iastore, 1) := by decide +kernel
theorem dX6_split_207 : decode cX6_split 207 = .ok (.return_, 1) := by decide +kernel
theorem dX6_sortOf_0 : decode cX6_sortOf 0 = .ok (.iload_n 0, 1) := by decide +kernel
theorem dX6_sortOf_1 : decode cX6_sortOf 1 = .ok (.bipush 32, 2) := by decide +kernel
theorem dX6_sortOf_3 : decode cX6_sortOf 3 = .ok (.if_icmp .ne 5, 3) := by decide +kernel
theorem dX6_sortOf_6 : decode cX6_sortOf 6 = .ok (.iconst 0, 1) := by decide +kernel
theorem dX6_sortOf_7 : decode cX6_sortOf 7 = .ok (.ireturn, 1) := by decide +kernel
theorem dX6_sortOf_8 : decode cX6_sortOf 8 = .ok (.iload_n 0, 1) := by decide +kernel
theorem dX6_sortOf_9 : decode cX6_sortOf 9 = .ok (.bipush 97, 2) := by decide +kernel
theorem dX6_sortOf_11 : decode cX6_sortOf 11 = .ok (.if_icmp .lt 11, 3) := by decide +kernel
theorem dX6_sortOf_14 : decode cX6_sortOf 14 = .ok (.iload_n 0, 1) := by decide +kernel
theorem dX6_sortOf_15 : decode cX6_sortOf 15 = .ok (.bipush 122, 2) := by decide +kernel
theorem dX6_sortOf_17 : decode cX6_sortOf 17 = .ok (.if_icmp .gt 5, 3) := by decide +kernel
theorem dX6_sortOf_20 : decode cX6_sortOf 20 = .ok (.iconst 1, 1) := by decide +kernel
theorem dX6_sortOf_21 : decode cX6_sortOf 21 = .ok (.ireturn, 1) := by decide +kernel
theorem dX6_sortOf_22 : decode cX6_sortOf 22 = .ok (.iload_n 0, 1) := by decide +kernel
theorem dX6_sortOf_23 : decode cX6_sortOf 23 = .ok (.bipush 48, 2) := by decide +kernel
theorem dX6_sortOf_25 : decode cX6_sortOf 25 = .ok (.if_icmp .lt 13, 3) := by decide +kernel
theorem dX6_sortOf_28 : decode cX6_sortOf 28 = .ok (.iload_n 0, 1) := by decide +kernel
theorem dX6_sortOf_29 : decode cX6_sortOf 29 = .ok (.bipush 57, 2) := by decide +kernel
theorem dX6_sortOf_31 : decode cX6_sortOf 31 = .ok (.if_icmp .gt 7, 3) := by decide +kernel
theorem dX6_sortOf_34 : decode cX6_sortOf 34 = .ok (.iconst 2, 1) := by decide +kernel
theorem dX6_sortOf_35 : decode cX6_sortOf 35 = .ok (.goto 4, 3) := by decide +kernel
theorem dX6_sortOf_38 : decode cX6_sortOf 38 = .ok (.iconst 3, 1) := by decide +kernel
theorem dX6_sortOf_39 : decode cX6_sortOf 39 = .ok (.ireturn, 1) := by decide +kernel
theorem dX6_wordAt_0 : decode cX6_wordAt 0 = .ok (.iconst 0, 1) := by decide +kernel
theorem dX6_wordAt_1 : decode cX6_wordAt 1 = .ok (.istore_n 3, 1) := by decide +kernel
theorem dX6_wordAt_2 : decode cX6_wordAt 2 = .ok (.iload_n 3, 1) := by decide +kernel
theorem dX6_wordAt_3 : decode cX6_wordAt 3 = .ok (.bipush 26, 2) := by decide +kernel
theorem dX6_wordAt_5 : decode cX6_wordAt 5 = .ok (.if_icmp .ge 21, 3) := by decide +kernel
theorem dX6_wordAt_8 : decode cX6_wordAt 8 = .ok (.iload_n 3, 1) := by decide +kernel
theorem dX6_wordAt_9 : decode cX6_wordAt 9 = .ok (.aload_n 0, 1) := by decide +kernel
theorem dX6_wordAt_10 : decode cX6_wordAt 10 = .ok (.iload_n 1, 1) := by decide +kernel
theorem dX6_wordAt_11 : decode cX6_wordAt 11 = .ok (.iload_n 2, 1) := by decide +kernel
theorem dX6_wordAt_12 : decode cX6_wordAt 12 = .ok (.invokestatic 81, 3) := by decide +kernel
theorem dX6_wordAt_15 : decode cX6_wordAt 15 = .ok (.ifCond .eq 5, 3) := by decide +kernel
theorem dX6_wordAt_18 : decode cX6_wordAt 18 = .ok (.iload_n 3, 1) := by decide +kernel
theorem dX6_wordAt_19 : decode cX6_wordAt 19 = .ok (.ireturn, 1) := by decide +kernel
theorem dX6_wordAt_20 : decode cX6_wordAt 20 = .ok (.iinc 3 1, 3) := by decide +kernel
theorem dX6_wordAt_23 : decode cX6_wordAt 23 = .ok (.goto (-21), 3) := by decide +kernel
theorem dX6_wordAt_26 : decode cX6_wordAt 26 = .ok (.bipush 26, 2) := by decide +kernel
theorem dX6_wordAt_28 : decode cX6_wordAt 28 = .ok (.ireturn, 1) := by decide +kernel
theorem dX6_spells_0 : decode cX6_spells 0 = .ok (.iconst 0, 1) := by decide +kernel
theorem dX6_spells_1 : decode cX6_spells 1 = .ok (.istore 4, 2) := by decide +kernel
theorem dX6_spells_3 : decode cX6_spells 3 = .ok (.iload 4, 2) := by decide +kernel
theorem dX6_spells_5 : decode cX6_spells 5 = .ok (.bipush 6, 2) := by decide +kernel
theorem dX6_spells_7 : decode cX6_spells 7 = .ok (.if_icmp .gt 91, 3) := by decide +kernel
theorem dX6_spells_10 : decode cX6_spells 10 = .ok (.iload_n 2, 1) := by decide +kernel
theorem dX6_spells_11 : decode cX6_spells 11 = .ok (.iload 4, 2) := by decide +kernel
theorem dX6_spells_13 : decode cX6_spells 13 = .ok (.iadd, 1) := by decide +kernel
theorem dX6_spells_14 : decode cX6_spells 14 = .ok (.iload_n 3, 1) := by decide +kernel
theorem dX6_spells_15 : decode cX6_spells 15 = .ok (.if_icmp .ge 16, 3) := by decide +kernel
theorem dX6_spells_18 : decode cX6_spells 18 = .ok (.aload_n 1, 1) := by decide +kernel
theorem dX6_spells_19 : decode cX6_spells 19 = .ok (.iload_n 2, 1) := by decide +kernel
theorem dX6_spells_20 : decode cX6_spells 20 = .ok (.iload 4, 2) := by decide +kernel
theorem dX6_spells_22 : decode cX6_spells 22 = .ok (.iadd, 1) := by decide +kernel
theorem dX6_spells_23 : decode cX6_spells 23 = .ok (.baload, 1) := by decide +kernel
theorem dX6_spells_24 : decode cX6_spells 24 = .ok (.sipush 255, 3) := by decide +kernel
theorem dX6_spells_27 : decode cX6_spells 27 = .ok (.iand, 1) := by decide +kernel
theorem dX6_spells_28 : decode cX6_spells 28 = .ok (.goto 5, 3) := by decide +kernel
theorem dX6_spells_31 : decode cX6_spells 31 = .ok (.bipush 32, 2) := by decide +kernel
theorem dX6_spells_33 : decode cX6_spells 33 = .ok (.istore 5, 2) := by decide +kernel
theorem dX6_spells_35 : decode cX6_spells 35 = .ok (.iload 4, 2) := by decide +kernel
theorem dX6_spells_37 : decode cX6_spells 37 = .ok (.bipush 6, 2) := by decide +kernel
theorem dX6_spells_39 : decode cX6_spells 39 = .ok (.if_icmp .ge 18, 3) := by decide +kernel
theorem dX6_spells_42 : decode cX6_spells 42 = .ok (.ldc 85, 2) := by decide +kernel
theorem dX6_spells_44 : decode cX6_spells 44 = .ok (.iload_n 0, 1) := by decide +kernel
theorem dX6_spells_45 : decode cX6_spells 45 = .ok (.bipush 6, 2) := by decide +kernel
theorem dX6_spells_47 : decode cX6_spells 47 = .ok (.imul, 1) := by decide +kernel
theorem dX6_spells_48 : decode cX6_spells 48 = .ok (.iload 4, 2) := by decide +kernel
theorem dX6_spells_50 : decode cX6_spells 50 = .ok (.iadd, 1) := by decide +kernel
theorem dX6_spells_51 : decode cX6_spells 51 = .ok (.invokevirtual 87, 3) := by decide +kernel
theorem dX6_spells_54 : decode cX6_spells 54 = .ok (.goto 5, 3) := by decide +kernel
theorem dX6_spells_57 : decode cX6_spells 57 = .ok (.bipush 32, 2) := by decide +kernel
theorem dX6_spells_59 : decode cX6_spells 59 = .ok (.istore 6, 2) := by decide +kernel
theorem dX6_spells_61 : decode cX6_spells 61 = .ok (.iload 6, 2) := by decide +kernel
theorem dX6_spells_63 : decode cX6_spells 63 = .ok (.bipush 32, 2) := by decide +kernel
theorem dX6_spells_65 : decode cX6_spells 65 = .ok (.if_icmp .ne 18, 3) := by decide +kernel
theorem dX6_spells_68 : decode cX6_spells 68 = .ok (.iload 5, 2) := by decide +kernel
theorem dX6_spells_70 : decode cX6_spells 70 = .ok (.invokestatic 73, 3) := by decide +kernel
theorem dX6_spells_73 : decode cX6_spells 73 = .ok (.iconst 1, 1) := by decide +kernel
theorem dX6_spells_74 : decode cX6_spells 74 = .ok (.if_icmp .eq 7, 3) := by decide +kernel
theorem dX6_spells_77 : decode cX6_spells 77 = .ok (.iconst 1, 1) := by decide +kernel
theorem dX6_spells_78 : decode cX6_spells 78 = .ok (.goto 4, 3) := by decide +kernel
theorem dX6_spells_81 : decode cX6_spells 81 = .ok (.iconst 0, 1) := by decide +kernel
theorem dX6_spells_82 : decode cX6_spells 82 = .ok (.ireturn, 1) := by decide +kernel
theorem dX6_spells_83 : decode cX6_spells 83 = .ok (.iload 5, 2) := by decide +kernel
theorem dX6_spells_85 : decode cX6_spells 85 = .ok (.iload 6, 2) := by decide +kernel
theorem dX6_spells_87 : decode cX6_spells 87 = .ok (.if_icmp .eq 5, 3) := by decide +kernel
theorem dX6_spells_90 : decode cX6_spells 90 = .ok (.iconst 0, 1) := by decide +kernel
theorem dX6_spells_91 : decode cX6_spells 91 = .ok (.ireturn, 1) := by decide +kernel
theorem dX6_spells_92 : decode cX6_spells 92 = .ok (.iinc 4 1, 3) := by decide +kernel
theorem dX6_spells_95 : decode cX6_spells 95 = .ok (.goto (-92), 3) := by decide +kernel
theorem dX6_spells_98 : decode cX6_spells 98 = .ok (.iconst 0, 1) := by decide +kernel
theorem dX6_spells_99 : decode cX6_spells 99 = .ok (.ireturn, 1) := by decide +kernel
theorem dX6_take_0 : decode cX6_take 0 = .ok (.aload_n 0, 1) := by decide +kernel
theorem dX6_take_1 : decode cX6_take 1 = .ok (.getfield 34, 3) := by decide +kernel
theorem dX6_take_4 : decode cX6_take 4 = .ok (.iload_n 1, 1) := by decide +kernel
theorem dX6_take_5 : decode cX6_take 5 = .ok (.if_icmp .eq 24, 3) := by decide +kernel
theorem dX6_take_8 : decode cX6_take 8 = .ok (.aload_n 0, 1) := by decide +kernel
theorem dX6_take_9 : decode cX6_take 9 = .ok (.getfield 37, 3) := by decide +kernel
theorem dX6_take_12 : decode cX6_take 12 = .ok (.iconst (-1), 1) := by decide +kernel
theorem dX6_take_13 : decode cX6_take 13 = .ok (.if_icmp .ne 16, 3) := by decide +kernel
theorem dX6_take_16 : decode cX6_take 16 = .ok (.aload_n 0, 1) := by decide +kernel
theorem dX6_take_17 : decode cX6_take 17 = .ok (.aload_n 0, 1) := by decide +kernel
theorem dX6_take_18 : decode cX6_take 18 = .ok (.getfield 20, 3) := by decide +kernel
theorem dX6_take_21 : decode cX6_take 21 = .ok (.aload_n 0, 1) := by decide +kernel
theorem dX6_take_22 : decode cX6_take 22 = .ok (.getfield 31, 3) := by decide +kernel
theorem dX6_take_25 : decode cX6_take 25 = .ok (.iaload, 1) := by decide +kernel
theorem dX6_take_26 : decode cX6_take 26 = .ok (.putfield 37, 3) := by decide +kernel
theorem dX6_take_29 : decode cX6_take 29 = .ok (.aload_n 0, 1) := by decide +kernel
theorem dX6_take_30 : decode cX6_take 30 = .ok (.aload_n 0, 1) := by decide +kernel
theorem dX6_take_31 : decode cX6_take 31 = .ok (.getfield 37, 3) := by decide +kernel
theorem dX6_take_34 : decode cX6_take 34 = .ok (.iconst (-1), 1) := by decide +kernel
theorem dX6_take_35 : decode cX6_take 35 = .ok (.if_icmp .ne 19, 3) := by decide +kernel
theorem dX6_take_38 : decode cX6_take 38 = .ok (.aload_n 0, 1) := by decide +kernel
theorem dX6_take_39 : decode cX6_take 39 = .ok (.getfield 31, 3) := by decide +kernel
theorem dX6_take_42 : decode cX6_take 42 = .ok (.iconst 1, 1) := by decide +kernel
theorem dX6_take_43 : decode cX6_take 43 = .ok (.iadd, 1) := by decide +kernel
theorem dX6_take_44 : decode cX6_take 44 = .ok (.aload_n 0, 1) := by decide +kernel
theorem dX6_take_45 : decode cX6_take 45 = .ok (.getfield 27, 3) := by decide +kernel
theorem dX6_take_48 : decode cX6_take 48 = .ok (.invokestatic 50, 3) := by decide +kernel
theorem dX6_take_51 : decode cX6_take 51 = .ok (.goto 7, 3) := by decide +kernel
theorem dX6_take_54 : decode cX6_take 54 = .ok (.aload_n 0, 1) := by decide +kernel
theorem dX6_take_55 : decode cX6_take 55 = .ok (.getfield 27, 3) := by decide +kernel
theorem dX6_take_58 : decode cX6_take 58 = .ok (.putfield 31, 3) := by decide +kernel
theorem dX6_take_61 : decode cX6_take 61 = .ok (.aload_n 0, 1) := by decide +kernel
theorem dX6_take_62 : decode cX6_take 62 = .ok (.aload_n 0, 1) := by decide +kernel
theorem dX6_take_63 : decode cX6_take 63 = .ok (.getfield 24, 3) := by decide +kernel
theorem dX6_take_66 : decode cX6_take 66 = .ok (.aload_n 0, 1) := by decide +kernel
theorem dX6_take_67 : decode cX6_take 67 = .ok (.getfield 31, 3) := by decide +kernel
theorem dX6_take_70 : decode cX6_take 70 = .ok (.iaload, 1) := by decide +kernel
theorem dX6_take_71 : decode cX6_take 71 = .ok (.putfield 34, 3) := by decide +kernel
theorem dX6_take_74 : decode cX6_take 74 = .ok (.return_, 1) := by decide +kernel
theorem dX6_clause_0 : decode cX6_clause 0 = .ok (.aload_n 0, 1) := by decide +kernel
theorem dX6_clause_1 : decode cX6_clause 1 = .ok (.getfield 34, 3) := by decide +kernel
theorem dX6_clause_4 : decode cX6_clause 4 = .ok (.sipush 2000, 3) := by decide +kernel
theorem dX6_clause_7 : decode cX6_clause 7 = .ok (.isub, 1) := by decide +kernel
theorem dX6_clause_8 : decode cX6_clause 8 = .ok (.aload_n 0, 1) := by decide +kernel
theorem dX6_clause_9 : decode cX6_clause 9 = .ok (.getfield 46, 3) := by decide +kernel
theorem dX6_clause_12 : decode cX6_clause 12 = .ok (.ifCond .eq 7, 3) := by decide +kernel
theorem dX6_clause_15 : decode cX6_clause 15 = .ok (.iconst 4, 1) := by decide +kernel
theorem dX6_clause_16 : decode cX6_clause 16 = .ok (.goto 4, 3) := by decide +kernel
theorem dX6_clause_19 : decode cX6_clause 19 = .ok (.iconst 0, 1) := by decide +kernel
theorem dX6_clause_20 : decode cX6_clause 20 = .ok (.isub, 1) := by decide +kernel
theorem dX6_clause_21 : decode cX6_clause 21 = .ok (.istore_n 1, 1) := by decide +kernel
theorem dX6_clause_22 : decode cX6_clause 22 = .ok (.iload_n 1, 1) := by decide +kernel
theorem dX6_clause_23 : decode cX6_clause 23 = .ok (.ifCond .lt 8, 3) := by decide +kernel
theorem dX6_clause_26 : decode cX6_clause 26 = .ok (.iload_n 1, 1) := by decide +kernel
theorem dX6_clause_27 : decode cX6_clause 27 = .ok (.iconst 3, 1) := by decide +kernel
theorem dX6_clause_28 : decode cX6_clause 28 = .ok (.if_icmp .le 9, 3) := by decide +kernel
theorem dX6_clause_31 : decode cX6_clause 31 = .ok (.aload_n 0, 1) := by decide +kernel
theorem dX6_clause_32 : decode cX6_clause 32 = .ok (.iconst (-1), 1) := by decide +kernel
theorem dX6_clause_33 : decode cX6_clause 33 = .ok (.invokevirtual 69, 3) := by decide +kernel
theorem dX6_clause_36 : decode cX6_clause 36 = .ok (.return_, 1) := by decide +kernel
theorem dX6_clause_37 : decode cX6_clause 37 = .ok (.aload_n 0, 1) := by decide +kernel
theorem dX6_clause_38 : decode cX6_clause 38 = .ok (.aload_n 0, 1) := by decide +kernel
theorem dX6_clause_39 : decode cX6_clause 39 = .ok (.getfield 34, 3) := by decide +kernel
theorem dX6_clause_42 : decode cX6_clause 42 = .ok (.invokevirtual 69, 3) := by decide +kernel
theorem dX6_clause_45 : decode cX6_clause 45 = .ok (.aload_n 0, 1) := by decide +kernel
theorem dX6_clause_46 : decode cX6_clause 46 = .ok (.getfield 16, 3) := by decide +kernel
theorem dX6_clause_49 : decode cX6_clause 49 = .ok (.iload_n 1, 1) := by decide +kernel
theorem dX6_clause_50 : decode cX6_clause 50 = .ok (.invokevirtual 93, 3) := by decide +kernel
theorem dX6_clause_53 : decode cX6_clause 53 = .ok (.iload_n 1, 1) := by decide +kernel
theorem dX6_clause_54 : decode cX6_clause 54 = .ok (.aload_n 0, 1) := by decide +kernel
theorem dX6_clause_55 : decode cX6_clause 55 = .ok (.getfield 46, 3) := by decide +kernel
theorem dX6_clause_58 : decode cX6_clause 58 = .ok (.ifCond .eq 7, 3) := by decide +kernel
theorem dX6_clause_61 : decode cX6_clause 61 = .ok (.iconst 3, 1) := by decide +kernel
theorem dX6_clause_62 : decode cX6_clause 62 = .ok (.goto 4, 3) := by decide +kernel
theorem dX6_clause_65 : decode cX6_clause 65 = .ok (.iconst 3, 1) := by decide +kernel
theorem dX6_clause_66 : decode cX6_clause 66 = .ok (.if_icmp .eq 8, 3) := by decide +kernel
theorem dX6_clause_69 : decode cX6_clause 69 = .ok (.aload_n 0, 1) := by decide +kernel
theorem dX6_clause_70 : decode cX6_clause 70 = .ok (.iconst 0, 1) := by decide +kernel
theorem dX6_clause_71 : decode cX6_clause 71 = .ok (.invokevirtual 96, 3) := by decide +kernel
theorem dX6_clause_74 : decode cX6_clause 74 = .ok (.aload_n 0, 1) := by decide +kernel
theorem dX6_clause_75 : decode cX6_clause 75 = .ok (.getfield 16, 3) := by decide +kernel
theorem dX6_clause_78 : decode cX6_clause 78 = .ok (.iconst 3, 1) := by decide +kernel
theorem dX6_clause_79 : decode cX6_clause 79 = .ok (.aload_n 0, 1) := by decide +kernel
theorem dX6_clause_80 : decode cX6_clause 80 = .ok (.getfield 16, 3) := by decide +kernel
theorem dX6_clause_83 : decode cX6_clause 83 = .ok (.getfield 99, 3) := by decide +kernel
theorem dX6_clause_86 : decode cX6_clause 86 = .ok (.invokevirtual 102, 3) := by decide +kernel
theorem dX6_clause_89 : decode cX6_clause 89 = .ok (.aload_n 0, 1) := by decide +kernel
theorem dX6_clause_90 : decode cX6_clause 90 = .ok (.getfield 46, 3) := by decide +kernel
theorem dX6_clause_93 : decode cX6_clause 93 = .ok (.ifCond .eq 20, 3) := by decide +kernel
theorem dX6_clause_96 : decode cX6_clause 96 = .ok (.iload_n 1, 1) := by decide +kernel
theorem dX6_clause_97 : decode cX6_clause 97 = .ok (.iconst 1, 1) := by decide +kernel
theorem dX6_clause_98 : decode cX6_clause 98 = .ok (.if_icmp .ne 15, 3) := by decide +kernel
theorem dX6_clause_101 : decode cX6_clause 101 = .ok (.aload_n 0, 1) := by decide +kernel
theorem dX6_clause_102 : decode cX6_clause 102 = .ok (.sipush 2012, 3) := by decide +kernel
theorem dX6_clause_105 : decode cX6_clause 105 = .ok (.invokevirtual 69, 3) := by decide +kernel
theorem dX6_clause_108 : decode cX6_clause 108 = .ok (.aload_n 0, 1) := by decide +kernel
theorem dX6_clause_109 : decode cX6_clause 109 = .ok (.iconst 0, 1) := by decide +kernel
theorem dX6_clause_110 : decode cX6_clause 110 = .ok (.invokevirtual 96, 3) := by decide +kernel
theorem dX6_clause_113 : decode cX6_clause 113 = .ok (.aload_n 0, 1) := by decide +kernel
theorem dX6_clause_114 : decode cX6_clause 114 = .ok (.getfield 16, 3) := by decide +kernel
theorem dX6_clause_117 : decode cX6_clause 117 = .ok (.iconst 4, 1) := by decide +kernel
theorem dX6_clause_118 : decode cX6_clause 118 = .ok (.aload_n 0, 1) := by decide +kernel
theorem dX6_clause_119 : decode cX6_clause 119 = .ok (.getfield 16, 3) := by decide +kernel
theorem dX6_clause_122 : decode cX6_clause 122 = .ok (.getfield 99, 3) := by decide +kernel
theorem dX6_clause_125 : decode cX6_clause 125 = .ok (.invokevirtual 102, 3) := by decide +kernel
theorem dX6_clause_128 : decode cX6_clause 128 = .ok (.aload_n 0, 1) := by decide +kernel
theorem dX6_clause_129 : decode cX6_clause 129 = .ok (.getfield 46, 3) := by decide +kernel
theorem dX6_clause_132 : decode cX6_clause 132 = .ok (.ifCond .eq 61, 3) := by decide +kernel
theorem dX6_clause_135 : decode cX6_clause 135 = .ok (.aload_n 0, 1) := by decide +kernel
theorem dX6_clause_136 : decode cX6_clause 136 = .ok (.getfield 34, 3) := by decide +kernel
theorem dX6_clause_139 : decode cX6_clause 139 = .ok (.sipush 2013, 3) := by decide +kernel
theorem dX6_clause_142 : decode cX6_clause 142 = .ok (.if_icmp .ne 51, 3) := by decide +kernel
theorem dX6_clause_145 : decode cX6_clause 145 = .ok (.aload_n 0, 1) := by decide +kernel
theorem dX6_clause_146 : decode cX6_clause 146 = .ok (.sipush 2013, 3) := by decide +kernel
theorem dX6_clause_149 : decode cX6_clause 149 = .ok (.invokevirtual 69, 3) := by decide +kernel
theorem dX6_clause_152 : decode cX6_clause 152 = .ok (.aload_n 0, 1) := by decide +kernel
theorem dX6_clause_153 : decode cX6_clause 153 = .ok (.getfield 16, 3) := by decide +kernel
theorem dX6_clause_156 : decode cX6_clause 156 = .ok (.iconst 1, 1) := by decide +kernel
theorem dX6_clause_157 : decode cX6_clause 157 = .ok (.aload_n 0, 1) := by decide +kernel
theorem dX6_clause_158 : decode cX6_clause 158 = .ok (.getfield 34, 3) := by decide +kernel
theorem dX6_clause_161 : decode cX6_clause 161 = .ok (.invokevirtual 102, 3) := by decide +kernel
theorem dX6_clause_164 : decode cX6_clause 164 = .ok (.aload_n 0, 1) := by decide +kernel
theorem dX6_clause_165 : decode cX6_clause 165 = .ok (.aload_n 0, 1) := by decide +kernel
theorem dX6_clause_166 : decode cX6_clause 166 = .ok (.getfield 34, 3) := by decide +kernel
theorem dX6_clause_169 : decode cX6_clause 169 = .ok (.iconst 1, 1) := by decide +kernel
theorem dX6_clause_170 : decode cX6_clause 170 = .ok (.if_icmp .lt 19, 3) := by decide +kernel
theorem dX6_clause_173 : decode cX6_clause 173 = .ok (.aload_n 0, 1) := by decide +kernel
theorem dX6_clause_174 : decode cX6_clause 174 = .ok (.getfield 34, 3) := by decide +kernel
theorem dX6_clause_177 : decode cX6_clause 177 = .ok (.bipush 20, 2) := by decide +kernel
theorem dX6_clause_179 : decode cX6_clause 179 = .ok (.if_icmp .gt 10, 3) := by decide +kernel
theorem dX6_clause_182 : decode cX6_clause 182 = .ok (.aload_n 0, 1) := by decide +kernel
theorem dX6_clause_183 : decode cX6_clause 183 = .ok (.getfield 34, 3) := by decide +kernel
theorem dX6_clause_186 : decode cX6_clause 186 = .ok (.goto 4, 3) := by decide +kernel
theorem dX6_clause_189 : decode cX6_clause 189 = .ok (.iconst (-1), 1) := by decide +kernel
theorem dX6_clause_190 : decode cX6_clause 190 = .ok (.invokevirtual 69, 3) := by decide +kernel
theorem dX6_clause_193 : decode cX6_clause 193 = .ok (.aload_n 0, 1) := by decide +kernel
theorem dX6_clause_194 : decode cX6_clause 194 = .ok (.getfield 34, 3) := by decide +kernel
theorem dX6_clause_197 : decode cX6_clause 197 = .ok (.sipush 2008, 3) := by decide +kernel
theorem dX6_clause_200 : decode cX6_clause 200 = .ok (.if_icmp .ne 15, 3) := by decide +kernel
theorem dX6_clause_203 : decode cX6_clause 203 = .ok (.aload_n 0, 1) := by decide +kernel
theorem dX6_clause_204 : decode cX6_clause 204 = .ok (.sipush 2008, 3) := by decide +kernel
theorem dX6_clause_207 : decode cX6_clause 207 = .ok (.invokevirtual 69, 3) := by decide +kernel
theorem dX6_clause_210 : decode cX6_clause 210 = .ok (.aload_n 0, 1) := by decide +kernel
theorem dX6_clause_211 : decode cX6_clause 211 = .ok (.iconst 0, 1) := by decide +kernel
theorem dX6_clause_212 : decode cX6_clause 212 = .ok (.invokevirtual 105, 3) := by decide +kernel
theorem dX6_clause_215 : decode cX6_clause 215 = .ok (.aload_n 0, 1) := by decide +kernel
theorem dX6_clause_216 : decode cX6_clause 216 = .ok (.getfield 16, 3) := by decide +kernel
theorem dX6_clause_219 : decode cX6_clause 219 = .ok (.iconst 5, 1) := by decide +kernel
theorem dX6_clause_220 : decode cX6_clause 220 = .ok (.aload_n 0, 1) := by decide +kernel
theorem dX6_clause_221 : decode cX6_clause 221 = .ok (.getfield 16, 3) := by decide +kernel
theorem dX6_clause_224 : decode cX6_clause 224 = .ok (.getfield 99, 3) := by decide +kernel
theorem dX6_clause_227 : decode cX6_clause 227 = .ok (.invokevirtual 102, 3) := by decide +kernel
theorem dX6_clause_230 : decode cX6_clause 230 = .ok (.return_, 1) := by decide +kernel
theorem dX6_test_0 : decode cX6_test 0 = .ok (.iload_n 1, 1) := by decide +kernel
theorem dX6_test_1 : decode cX6_test 1 = .ok (.iconst 1, 1) := by decide +kernel
theorem dX6_test_2 : decode cX6_test 2 = .ok (.if_icmp .le 8, 3) := by decide +kernel
theorem dX6_test_5 : decode cX6_test 5 = .ok (.aload_n 0, 1) := by decide +kernel
theorem dX6_test_6 : decode cX6_test 6 = .ok (.invokevirtual 108, 3) := by decide +kernel
theorem dX6_test_9 : decode cX6_test 9 = .ok (.return_, 1) := by decide +kernel
theorem dX6_test_10 : decode cX6_test 10 = .ok (.aload_n 0, 1) := by decide +kernel
theorem dX6_test_11 : decode cX6_test 11 = .ok (.iload_n 1, 1) := by decide +kernel
theorem dX6_test_12 : decode cX6_test 12 = .ok (.iconst 1, 1) := by decide +kernel
theorem dX6_test_13 : decode cX6_test 13 = .ok (.iadd, 1) := by decide +kernel
theorem dX6_test_14 : decode cX6_test 14 = .ok (.invokevirtual 105, 3) := by decide +kernel
theorem dX6_test_17 : decode cX6_test 17 = .ok (.iload_n 1, 1) := by decide +kernel
theorem dX6_test_18 : decode cX6_test 18 = .ok (.ifCond .ne 9, 3) := by decide +kernel
theorem dX6_test_21 : decode cX6_test 21 = .ok (.sipush 2009, 3) := by decide +kernel
theorem dX6_test_24 : decode cX6_test 24 = .ok (.goto 6, 3) := by decide +kernel
theorem dX6_test_27 : decode cX6_test 27 = .ok (.sipush 2010, 3) := by decide +kernel
theorem dX6_test_30 : decode cX6_test 30 = .ok (.istore_n 2, 1) := by decide +kernel
theorem dX6_test_31 : decode cX6_test 31 = .ok (.iconst 0, 1) := by decide +kernel
theorem dX6_test_32 : decode cX6_test 32 = .ok (.istore_n 3, 1) := by decide +kernel
theorem dX6_test_33 : decode cX6_test 33 = .ok (.iload_n 3, 1) := by decide +kernel
theorem dX6_test_34 : decode cX6_test 34 = .ok (.sipush 400, 3) := by decide +kernel
theorem dX6_test_37 : decode cX6_test 37 = .ok (.if_icmp .ge 57, 3) := by decide +kernel
theorem dX6_test_40 : decode cX6_test 40 = .ok (.aload_n 0, 1) := by decide +kernel
theorem dX6_test_41 : decode cX6_test 41 = .ok (.getfield 34, 3) := by decide +kernel
theorem dX6_test_44 : decode cX6_test 44 = .ok (.iload_n 2, 1) := by decide +kernel
theorem dX6_test_45 : decode cX6_test 45 = .ok (.if_icmp .ne 49, 3) := by decide +kernel
theorem dX6_test_48 : decode cX6_test 48 = .ok (.aload_n 0, 1) := by decide +kernel
theorem dX6_test_49 : decode cX6_test 49 = .ok (.iload_n 2, 1) := by decide +kernel
theorem dX6_test_50 : decode cX6_test 50 = .ok (.invokevirtual 69, 3) := by decide +kernel
theorem dX6_test_53 : decode cX6_test 53 = .ok (.aload_n 0, 1) := by decide +kernel
theorem dX6_test_54 : decode cX6_test 54 = .ok (.getfield 16, 3) := by decide +kernel
theorem dX6_test_57 : decode cX6_test 57 = .ok (.iload_n 1, 1) := by decide +kernel
theorem dX6_test_58 : decode cX6_test 58 = .ok (.ifCond .ne 7, 3) := by decide +kernel
theorem dX6_test_61 : decode cX6_test 61 = .ok (.iconst 3, 1) := by decide +kernel
theorem dX6_test_62 : decode cX6_test 62 = .ok (.goto 4, 3) := by decide +kernel
theorem dX6_test_65 : decode cX6_test 65 = .ok (.iconst 4, 1) := by decide +kernel
theorem dX6_test_66 : decode cX6_test 66 = .ok (.iconst 0, 1) := by decide +kernel
theorem dX6_test_67 : decode cX6_test 67 = .ok (.invokevirtual 111, 3) := by decide +kernel
theorem dX6_test_70 : decode cX6_test 70 = .ok (.istore 4, 2) := by decide +kernel
theorem dX6_test_72 : decode cX6_test 72 = .ok (.aload_n 0, 1) := by decide +kernel
theorem dX6_test_73 : decode cX6_test 73 = .ok (.iload_n 1, 1) := by decide +kernel
theorem dX6_test_74 : decode cX6_test 74 = .ok (.iconst 1, 1) := by decide +kernel
theorem dX6_test_75 : decode cX6_test 75 = .ok (.iadd, 1) := by decide +kernel
theorem dX6_test_76 : decode cX6_test 76 = .ok (.invokevirtual 105, 3) := by decide +kernel
theorem dX6_test_79 : decode cX6_test 79 = .ok (.aload_n 0, 1) := by decide +kernel
theorem dX6_test_80 : decode cX6_test 80 = .ok (.getfield 16, 3) := by decide +kernel
theorem dX6_test_83 : decode cX6_test 83 = .ok (.iload 4, 2) := by decide +kernel
theorem dX6_test_85 : decode cX6_test 85 = .ok (.invokevirtual 114, 3) := by decide +kernel
theorem dX6_test_88 : decode cX6_test 88 = .ok (.iinc 3 1, 3) := by decide +kernel
theorem dX6_test_91 : decode cX6_test 91 = .ok (.goto (-58), 3) := by decide +kernel
theorem dX6_test_94 : decode cX6_test 94 = .ok (.return_, 1) := by decide +kernel
theorem dX6_plain_0 : decode cX6_plain 0 = .ok (.iconst 0, 1) := by decide +kernel
theorem dX6_plain_1 : decode cX6_plain 1 = .ok (.istore_n 1, 1) := by decide +kernel
theorem dX6_plain_2 : decode cX6_plain 2 = .ok (.iconst 0, 1) := by decide +kernel
theorem dX6_plain_3 : decode cX6_plain 3 = .ok (.istore_n 2, 1) := by decide +kernel
theorem dX6_plain_4 : decode cX6_plain 4 = .ok (.iload_n 2, 1) := by decide +kernel
theorem dX6_plain_5 : decode cX6_plain 5 = .ok (.sipush 400, 3) := by decide +kernel
theorem dX6_plain_8 : decode cX6_plain 8 = .ok (.if_icmp .ge 36, 3) := by decide +kernel
theorem dX6_plain_11 : decode cX6_plain 11 = .ok (.aload_n 0, 1) := by decide +kernel
theorem dX6_plain_12 : decode cX6_plain 12 = .ok (.getfield 34, 3) := by decide +kernel
theorem dX6_plain_15 : decode cX6_plain 15 = .ok (.sipush 2011, 3) := by decide +kernel
theorem dX6_plain_18 : decode cX6_plain 18 = .ok (.if_icmp .ne 26, 3) := by decide +kernel
theorem dX6_plain_21 : decode cX6_plain 21 = .ok (.aload_n 0, 1) := by decide +kernel
theorem dX6_plain_22 : decode cX6_plain 22 = .ok (.sipush 2011, 3) := by decide +kernel
theorem dX6_plain_25 : decode cX6_plain 25 = .ok (.invokevirtual 69, 3) := by decide +kernel
theorem dX6_plain_28 : decode cX6_plain 28 = .ok (.iload_n 1, 1) := by decide +kernel
theorem dX6_plain_29 : decode cX6_plain 29 = .ok (.ifCond .ne 7, 3) := by decide +kernel
theorem dX6_plain_32 : decode cX6_plain 32 = .ok (.iconst 1, 1) := by decide +kernel
theorem dX6_plain_33 : decode cX6_plain 33 = .ok (.goto 4, 3) := by decide +kernel
theorem dX6_plain_36 : decode cX6_plain 36 = .ok (.iconst 0, 1) := by decide +kernel
theorem dX6_plain_37 : decode cX6_plain 37 = .ok (.istore_n 1, 1) := by decide +kernel
theorem dX6_plain_38 : decode cX6_plain 38 = .ok (.iinc 2 1, 3) := by decide +kernel
theorem dX6_plain_41 : decode cX6_plain 41 = .ok (.goto (-37), 3) := by decide +kernel
theorem dX6_plain_44 : decode cX6_plain 44 = .ok (.aload_n 0, 1) := by decide +kernel
theorem dX6_plain_45 : decode cX6_plain 45 = .ok (.getfield 34, 3) := by decide +kernel
theorem dX6_plain_48 : decode cX6_plain 48 = .ok (.sipush 3040, 3) := by decide +kernel
theorem dX6_plain_51 : decode cX6_plain 51 = .ok (.if_icmp .ne 55, 3) := by decide +kernel
theorem dX6_plain_54 : decode cX6_plain 54 = .ok (.aload_n 0, 1) := by decide +kernel
theorem dX6_plain_55 : decode cX6_plain 55 = .ok (.getfield 43, 3) := by decide +kernel
theorem dX6_plain_58 : decode cX6_plain 58 = .ok (.bipush 8, 2) := by decide +kernel
theorem dX6_plain_60 : decode cX6_plain 60 = .ok (.if_icmp .ge 46, 3) := by decide +kernel
theorem dX6_plain_63 : decode cX6_plain 63 = .ok (.aload_n 0, 1) := by decide +kernel
theorem dX6_plain_64 : decode cX6_plain 64 = .ok (.dup, 1) := by decide +kernel
theorem dX6_plain_65 : decode cX6_plain 65 = .ok (.getfield 43, 3) := by decide +kernel
theorem dX6_plain_68 : decode cX6_plain 68 = .ok (.iconst 1, 1) := by decide +kernel
theorem dX6_plain_69 : decode cX6_plain 69 = .ok (.iadd, 1) := by decide +kernel
theorem dX6_plain_70 : decode cX6_plain 70 = .ok (.putfield 43, 3) := by decide +kernel
theorem dX6_plain_73 : decode cX6_plain 73 = .ok (.aload_n 0, 1) := by decide +kernel
theorem dX6_plain_74 : decode cX6_plain 74 = .ok (.aload_n 0, 1) := by decide +kernel
theorem dX6_plain_75 : decode cX6_plain 75 = .ok (.getfield 34, 3) := by decide +kernel
theorem dX6_plain_78 : decode cX6_plain 78 = .ok (.invokevirtual 69, 3) := by decide +kernel
theorem dX6_plain_81 : decode cX6_plain 81 = .ok (.aload_n 0, 1) := by decide +kernel
theorem dX6_plain_82 : decode cX6_plain 82 = .ok (.iconst 0, 1) := by decide +kernel
theorem dX6_plain_83 : decode cX6_plain 83 = .ok (.invokevirtual 105, 3) := by decide +kernel
theorem dX6_plain_86 : decode cX6_plain 86 = .ok (.aload_n 0, 1) := by decide +kernel
theorem dX6_plain_87 : decode cX6_plain 87 = .ok (.sipush 3041, 3) := by decide +kernel
theorem dX6_plain_90 : decode cX6_plain 90 = .ok (.invokevirtual 69, 3) := by decide +kernel
theorem dX6_plain_93 : decode cX6_plain 93 = .ok (.aload_n 0, 1) := by decide +kernel
theorem dX6_plain_94 : decode cX6_plain 94 = .ok (.dup, 1) := by decide +kernel
theorem dX6_plain_95 : decode cX6_plain 95 = .ok (.getfield 43, 3) := by decide +kernel
theorem dX6_plain_98 : decode cX6_plain 98 = .ok (.iconst 1, 1) := by decide +kernel
theorem dX6_plain_99 : decode cX6_plain 99 = .ok (.isub, 1) := by decide +kernel
theorem dX6_plain_100 : decode cX6_plain 100 = .ok (.putfield 43, 3) := by decide +kernel
theorem dX6_plain_103 : decode cX6_plain 103 = .ok (.goto 49, 3) := by decide +kernel
theorem dX6_plain_106 : decode cX6_plain 106 = .ok (.aload_n 0, 1) := by decide +kernel
theorem dX6_plain_107 : decode cX6_plain 107 = .ok (.iconst 0, 1) := by decide +kernel
theorem dX6_plain_108 : decode cX6_plain 108 = .ok (.invokevirtual 96, 3) := by decide +kernel
theorem dX6_plain_111 : decode cX6_plain 111 = .ok (.aload_n 0, 1) := by decide +kernel
theorem dX6_plain_112 : decode cX6_plain 112 = .ok (.getfield 34, 3) := by decide +kernel
theorem dX6_plain_115 : decode cX6_plain 115 = .ok (.invokestatic 117, 3) := by decide +kernel
theorem dX6_plain_118 : decode cX6_plain 118 = .ok (.istore_n 2, 1) := by decide +kernel
theorem dX6_plain_119 : decode cX6_plain 119 = .ok (.aload_n 0, 1) := by decide +kernel
theorem dX6_plain_120 : decode cX6_plain 120 = .ok (.iload_n 2, 1) := by decide +kernel
theorem dX6_plain_121 : decode cX6_plain 121 = .ok (.bipush 10, 2) := by decide +kernel
theorem dX6_plain_123 : decode cX6_plain 123 = .ok (.if_icmp .lt 10, 3) := by decide +kernel
theorem dX6_plain_126 : decode cX6_plain 126 = .ok (.aload_n 0, 1) := by decide +kernel
theorem dX6_plain_127 : decode cX6_plain 127 = .ok (.getfield 34, 3) := by decide +kernel
theorem dX6_plain_130 : decode cX6_plain 130 = .ok (.goto 4, 3) := by decide +kernel
theorem dX6_plain_133 : decode cX6_plain 133 = .ok (.iconst (-1), 1) := by decide +kernel
theorem dX6_plain_134 : decode cX6_plain 134 = .ok (.invokevirtual 69, 3) := by decide +kernel
theorem dX6_plain_137 : decode cX6_plain 137 = .ok (.aload_n 0, 1) := by decide +kernel
theorem dX6_plain_138 : decode cX6_plain 138 = .ok (.iconst 0, 1) := by decide +kernel
theorem dX6_plain_139 : decode cX6_plain 139 = .ok (.invokevirtual 96, 3) := by decide +kernel
theorem dX6_plain_142 : decode cX6_plain 142 = .ok (.aload_n 0, 1) := by decide +kernel
theorem dX6_plain_143 : decode cX6_plain 143 = .ok (.getfield 16, 3) := by decide +kernel
theorem dX6_plain_146 : decode cX6_plain 146 = .ok (.iload_n 2, 1) := by decide +kernel
theorem dX6_plain_147 : decode cX6_plain 147 = .ok (.iconst 0, 1) := by decide +kernel
theorem dX6_plain_148 : decode cX6_plain 148 = .ok (.invokevirtual 111, 3) := by decide +kernel
theorem dX6_plain_151 : decode cX6_plain 151 = .ok (.pop, 1) := by decide +kernel
theorem dX6_plain_152 : decode cX6_plain 152 = .ok (.iload_n 1, 1) := by decide +kernel
theorem dX6_plain_153 : decode cX6_plain 153 = .ok (.ifCond .eq 13, 3) := by decide +kernel
theorem dX6_plain_156 : decode cX6_plain 156 = .ok (.aload_n 0, 1) := by decide +kernel
theorem dX6_plain_157 : decode cX6_plain 157 = .ok (.getfield 16, 3) := by decide +kernel
theorem dX6_plain_160 : decode cX6_plain 160 = .ok (.iconst 2, 1) := by decide +kernel
theorem dX6_plain_161 : decode cX6_plain 161 = .ok (.iconst 0, 1) := by decide +kernel
theorem dX6_plain_162 : decode cX6_plain 162 = .ok (.invokevirtual 111, 3) := by decide +kernel
theorem dX6_plain_165 : decode cX6_plain 165 = .ok (.pop, 1) := by decide +kernel
theorem dX6_plain_166 : decode cX6_plain 166 = .ok (.return_, 1) := by decide +kernel
theorem dX6_sum_0 : decode cX6_sum 0 = .ok (.iload_n 1, 1) := by decide +kernel
theorem dX6_sum_1 : decode cX6_sum 1 = .ok (.iconst 1, 1) := by decide +kernel
theorem dX6_sum_2 : decode cX6_sum 2 = .ok (.if_icmp .le 8, 3) := by decide +kernel
theorem dX6_sum_5 : decode cX6_sum 5 = .ok (.aload_n 0, 1) := by decide +kernel
theorem dX6_sum_6 : decode cX6_sum 6 = .ok (.invokevirtual 120, 3) := by decide +kernel
theorem dX6_sum_9 : decode cX6_sum 9 = .ok (.return_, 1) := by decide +kernel
theorem dX6_sum_10 : decode cX6_sum 10 = .ok (.aload_n 0, 1) := by decide +kernel
theorem dX6_sum_11 : decode cX6_sum 11 = .ok (.iload_n 1, 1) := by decide +kernel
theorem dX6_sum_12 : decode cX6_sum 12 = .ok (.iconst 1, 1) := by decide +kernel
theorem dX6_sum_13 : decode cX6_sum 13 = .ok (.iadd, 1) := by decide +kernel
theorem dX6_sum_14 : decode cX6_sum 14 = .ok (.invokevirtual 96, 3) := by decide +kernel
theorem dX6_sum_17 : decode cX6_sum 17 = .ok (.iload_n 1, 1) := by decide +kernel
theorem dX6_sum_18 : decode cX6_sum 18 = .ok (.ifCond .ne 7, 3) := by decide +kernel
theorem dX6_sum_21 : decode cX6_sum 21 = .ok (.iconst 5, 1) := by decide +kernel
theorem dX6_sum_22 : decode cX6_sum 22 = .ok (.goto 5, 3) := by decide +kernel
theorem dX6_sum_25 : decode cX6_sum 25 = .ok (.bipush 7, 2) := by decide +kernel
theorem dX6_sum_27 : decode cX6_sum 27 = .ok (.istore_n 2, 1) := by decide +kernel
theorem dX6_sum_28 : decode cX6_sum 28 = .ok (.iload_n 1, 1) := by decide +kernel
theorem dX6_sum_29 : decode cX6_sum 29 = .ok (.ifCond .ne 8, 3) := by decide +kernel
theorem dX6_sum_32 : decode cX6_sum 32 = .ok (.bipush 6, 2) := by decide +kernel
theorem dX6_sum_34 : decode cX6_sum 34 = .ok (.goto 5, 3) := by decide +kernel
theorem dX6_sum_37 : decode cX6_sum 37 = .ok (.bipush 9, 2) := by decide +kernel
theorem dX6_sum_39 : decode cX6_sum 39 = .ok (.istore_n 3, 1) := by decide +kernel
theorem dX6_sum_40 : decode cX6_sum 40 = .ok (.iconst 0, 1) := by decide +kernel
theorem dX6_sum_41 : decode cX6_sum 41 = .ok (.istore 4, 2) := by decide +kernel
theorem dX6_sum_43 : decode cX6_sum 43 = .ok (.iload 4, 2) := by decide +kernel
theorem dX6_sum_45 : decode cX6_sum 45 = .ok (.sipush 400, 3) := by decide +kernel
theorem dX6_sum_48 : decode cX6_sum 48 = .ok (.if_icmp .ge 66, 3) := by decide +kernel
theorem dX6_sum_51 : decode cX6_sum 51 = .ok (.aload_n 0, 1) := by decide +kernel
theorem dX6_sum_52 : decode cX6_sum 52 = .ok (.getfield 34, 3) := by decide +kernel
theorem dX6_sum_55 : decode cX6_sum 55 = .ok (.invokestatic 117, 3) := by decide +kernel
theorem dX6_sum_58 : decode cX6_sum 58 = .ok (.iload_n 2, 1) := by decide +kernel
theorem dX6_sum_59 : decode cX6_sum 59 = .ok (.if_icmp .lt 55, 3) := by decide +kernel
theorem dX6_sum_62 : decode cX6_sum 62 = .ok (.aload_n 0, 1) := by decide +kernel
theorem dX6_sum_63 : decode cX6_sum 63 = .ok (.getfield 34, 3) := by decide +kernel
theorem dX6_sum_66 : decode cX6_sum 66 = .ok (.invokestatic 117, 3) := by decide +kernel
theorem dX6_sum_69 : decode cX6_sum 69 = .ok (.iload_n 3, 1) := by decide +kernel
theorem dX6_sum_70 : decode cX6_sum 70 = .ok (.if_icmp .gt 44, 3) := by decide +kernel
theorem dX6_sum_73 : decode cX6_sum 73 = .ok (.aload_n 0, 1) := by decide +kernel
theorem dX6_sum_74 : decode cX6_sum 74 = .ok (.getfield 34, 3) := by decide +kernel
theorem dX6_sum_77 : decode cX6_sum 77 = .ok (.invokestatic 117, 3) := by decide +kernel
theorem dX6_sum_80 : decode cX6_sum 80 = .ok (.istore 5, 2) := by decide +kernel
theorem dX6_sum_82 : decode cX6_sum 82 = .ok (.aload_n 0, 1) := by decide +kernel
theorem dX6_sum_83 : decode cX6_sum 83 = .ok (.aload_n 0, 1) := by decide +kernel
theorem dX6_sum_84 : decode cX6_sum 84 = .ok (.getfield 34, 3) := by decide +kernel
theorem dX6_sum_87 : decode cX6_sum 87 = .ok (.invokevirtual 69, 3) := by decide +kernel
theorem dX6_sum_90 : decode cX6_sum 90 = .ok (.aload_n 0, 1) := by decide +kernel
theorem dX6_sum_91 : decode cX6_sum 91 = .ok (.iload_n 1, 1) := by decide +kernel
theorem dX6_sum_92 : decode cX6_sum 92 = .ok (.iconst 1, 1) := by decide +kernel
theorem dX6_sum_93 : decode cX6_sum 93 = .ok (.iadd, 1) := by decide +kernel
theorem dX6_sum_94 : decode cX6_sum 94 = .ok (.invokevirtual 96, 3) := by decide +kernel
theorem dX6_sum_97 : decode cX6_sum 97 = .ok (.aload_n 0, 1) := by decide +kernel
theorem dX6_sum_98 : decode cX6_sum 98 = .ok (.getfield 16, 3) := by decide +kernel
theorem dX6_sum_101 : decode cX6_sum 101 = .ok (.iload 5, 2) := by decide +kernel
theorem dX6_sum_103 : decode cX6_sum 103 = .ok (.iconst 0, 1) := by decide +kernel
theorem dX6_sum_104 : decode cX6_sum 104 = .ok (.invokevirtual 111, 3) := by decide +kernel
theorem dX6_sum_107 : decode cX6_sum 107 = .ok (.pop, 1) := by decide +kernel
theorem dX6_sum_108 : decode cX6_sum 108 = .ok (.iinc 4 1, 3) := by decide +kernel
theorem dX6_sum_111 : decode cX6_sum 111 = .ok (.goto (-68), 3) := by decide +kernel
theorem dX6_sum_114 : decode cX6_sum 114 = .ok (.return_, 1) := by decide +kernel
theorem dX6_part_0 : decode cX6_part 0 = .ok (.aload_n 0, 1) := by decide +kernel
theorem dX6_part_1 : decode cX6_part 1 = .ok (.getfield 34, 3) := by decide +kernel
theorem dX6_part_4 : decode cX6_part 4 = .ok (.sipush 2000, 3) := by decide +kernel
theorem dX6_part_7 : decode cX6_part 7 = .ok (.isub, 1) := by decide +kernel
theorem dX6_part_8 : decode cX6_part 8 = .ok (.istore_n 1, 1) := by decide +kernel
theorem dX6_part_9 : decode cX6_part 9 = .ok (.aload_n 0, 1) := by decide +kernel
theorem dX6_part_10 : decode cX6_part 10 = .ok (.getfield 46, 3) := by decide +kernel
theorem dX6_part_13 : decode cX6_part 13 = .ok (.ifCond .eq 8, 3) := by decide +kernel
theorem dX6_part_16 : decode cX6_part 16 = .ok (.bipush 22, 2) := by decide +kernel
theorem dX6_part_18 : decode cX6_part 18 = .ok (.goto 5, 3) := by decide +kernel
theorem dX6_part_21 : decode cX6_part 21 = .ok (.bipush 14, 2) := by decide +kernel
theorem dX6_part_23 : decode cX6_part 23 = .ok (.istore_n 2, 1) := by decide +kernel
theorem dX6_part_24 : decode cX6_part 24 = .ok (.aload_n 0, 1) := by decide +kernel
theorem dX6_part_25 : decode cX6_part 25 = .ok (.getfield 46, 3) := by decide +kernel
theorem dX6_part_28 : decode cX6_part 28 = .ok (.ifCond .eq 8, 3) := by decide +kernel
theorem dX6_part_31 : decode cX6_part 31 = .ok (.bipush 25, 2) := by decide +kernel
theorem dX6_part_33 : decode cX6_part 33 = .ok (.goto 5, 3) := by decide +kernel
theorem dX6_part_36 : decode cX6_part 36 = .ok (.bipush 22, 2) := by decide +kernel
theorem dX6_part_38 : decode cX6_part 38 = .ok (.istore_n 3, 1) := by decide +kernel
theorem dX6_part_39 : decode cX6_part 39 = .ok (.aload_n 0, 1) := by decide +kernel
theorem dX6_part_40 : decode cX6_part 40 = .ok (.getfield 34, 3) := by decide +kernel
theorem dX6_part_43 : decode cX6_part 43 = .ok (.sipush 3091, 3) := by decide +kernel
theorem dX6_part_46 : decode cX6_part 46 = .ok (.if_icmp .ne 53, 3) := by decide +kernel
theorem dX6_part_49 : decode cX6_part 49 = .ok (.aload_n 0, 1) := by decide +kernel
theorem dX6_part_50 : decode cX6_part 50 = .ok (.getfield 43, 3) := by decide +kernel
theorem dX6_part_53 : decode cX6_part 53 = .ok (.bipush 8, 2) := by decide +kernel
theorem dX6_part_55 : decode cX6_part 55 = .ok (.if_icmp .ge 44, 3) := by decide +kernel
theorem dX6_part_58 : decode cX6_part 58 = .ok (.aload_n 0, 1) := by decide +kernel
theorem dX6_part_59 : decode cX6_part 59 = .ok (.dup, 1) := by decide +kernel
theorem dX6_part_60 : decode cX6_part 60 = .ok (.getfield 43, 3) := by decide +kernel
theorem dX6_part_63 : decode cX6_part 63 = .ok (.iconst 1, 1) := by decide +kernel
theorem dX6_part_64 : decode cX6_part 64 = .ok (.iadd, 1) := by decide +kernel
theorem dX6_part_65 : decode cX6_part 65 = .ok (.putfield 43, 3) := by decide +kernel
theorem dX6_part_68 : decode cX6_part 68 = .ok (.aload_n 0, 1) := by decide +kernel
theorem dX6_part_69 : decode cX6_part 69 = .ok (.aload_n 0, 1) := by decide +kernel
theorem dX6_part_70 : decode cX6_part 70 = .ok (.getfield 34, 3) := by decide +kernel
theorem dX6_part_73 : decode cX6_part 73 = .ok (.invokevirtual 69, 3) := by decide +kernel
theorem dX6_part_76 : decode cX6_part 76 = .ok (.aload_n 0, 1) := by decide +kernel
theorem dX6_part_77 : decode cX6_part 77 = .ok (.iconst 0, 1) := by decide +kernel
theorem dX6_part_78 : decode cX6_part 78 = .ok (.invokevirtual 96, 3) := by decide +kernel
theorem dX6_part_81 : decode cX6_part 81 = .ok (.aload_n 0, 1) := by decide +kernel
theorem dX6_part_82 : decode cX6_part 82 = .ok (.sipush 3093, 3) := by decide +kernel
theorem dX6_part_85 : decode cX6_part 85 = .ok (.invokevirtual 69, 3) := by decide +kernel
theorem dX6_part_88 : decode cX6_part 88 = .ok (.aload_n 0, 1) := by decide +kernel
theorem dX6_part_89 : decode cX6_part 89 = .ok (.dup, 1) := by decide +kernel
theorem dX6_part_90 : decode cX6_part 90 = .ok (.getfield 43, 3) := by decide +kernel
theorem dX6_part_93 : decode cX6_part 93 = .ok (.iconst 1, 1) := by decide +kernel
theorem dX6_part_94 : decode cX6_part 94 = .ok (.isub, 1) := by decide +kernel
theorem dX6_part_95 : decode cX6_part 95 = .ok (.putfield 43, 3) := by decide +kernel
theorem dX6_part_98 : decode cX6_part 98 = .ok (.return_, 1) := by decide +kernel
theorem dX6_part_99 : decode cX6_part 99 = .ok (.aload_n 0, 1) := by decide +kernel
theorem dX6_part_100 : decode cX6_part 100 = .ok (.getfield 40, 3) := by decide +kernel
theorem dX6_part_103 : decode cX6_part 103 = .ok (.bipush 50, 2) := by decide +kernel
theorem dX6_part_105 : decode cX6_part 105 = .ok (.if_icmp .lt 9, 3) := by decide +kernel
theorem dX6_part_108 : decode cX6_part 108 = .ok (.aload_n 0, 1) := by decide +kernel
theorem dX6_part_109 : decode cX6_part 109 = .ok (.iconst (-1), 1) := by decide +kernel
theorem dX6_part_110 : decode cX6_part 110 = .ok (.invokevirtual 69, 3) := by decide +kernel
theorem dX6_part_113 : decode cX6_part 113 = .ok (.return_, 1) := by decide +kernel
theorem dX6_part_114 : decode cX6_part 114 = .ok (.aload_n 0, 1) := by decide +kernel
theorem dX6_part_115 : decode cX6_part 115 = .ok (.dup, 1) := by decide +kernel
theorem dX6_part_116 : decode cX6_part 116 = .ok (.getfield 40, 3) := by decide +kernel
theorem dX6_part_119 : decode cX6_part 119 = .ok (.iconst 1, 1) := by decide +kernel
theorem dX6_part_120 : decode cX6_part 120 = .ok (.iadd, 1) := by decide +kernel
theorem dX6_part_121 : decode cX6_part 121 = .ok (.putfield 40, 3) := by decide +kernel
theorem dX6_part_124 : decode cX6_part 124 = .ok (.aload_n 0, 1) := by decide +kernel
theorem dX6_part_125 : decode cX6_part 125 = .ok (.getfield 34, 3) := by decide +kernel
theorem dX6_part_128 : decode cX6_part 128 = .ok (.sipush 1000, 3) := by decide +kernel
theorem dX6_part_131 : decode cX6_part 131 = .ok (.if_icmp .gt 27, 3) := by decide +kernel
theorem dX6_part_134 : decode cX6_part 134 = .ok (.aload_n 0, 1) := by decide +kernel
theorem dX6_part_135 : decode cX6_part 135 = .ok (.getfield 16, 3) := by decide +kernel
theorem dX6_part_138 : decode cX6_part 138 = .ok (.iconst 0, 1) := by decide +kernel
theorem dX6_part_139 : decode cX6_part 139 = .ok (.aload_n 0, 1) := by decide +kernel
theorem dX6_part_140 : decode cX6_part 140 = .ok (.getfield 34, 3) := by decide +kernel
theorem dX6_part_143 : decode cX6_part 143 = .ok (.invokevirtual 111, 3) := by decide +kernel
theorem dX6_part_146 : decode cX6_part 146 = .ok (.pop, 1) := by decide +kernel
theorem dX6_part_147 : decode cX6_part 147 = .ok (.aload_n 0, 1) := by decide +kernel
theorem dX6_part_148 : decode cX6_part 148 = .ok (.aload_n 0, 1) := by decide +kernel
theorem dX6_part_149 : decode cX6_part 149 = .ok (.getfield 34, 3) := by decide +kernel
theorem dX6_part_152 : decode cX6_part 152 = .ok (.invokevirtual 69, 3) := by decide +kernel
theorem dX6_part_155 : decode cX6_part 155 = .ok (.goto 167, 3) := by decide +kernel
theorem dX6_part_158 : decode cX6_part 158 = .ok (.iload_n 1, 1) := by decide +kernel
theorem dX6_part_159 : decode cX6_part 159 = .ok (.iload_n 2, 1) := by decide +kernel
theorem dX6_part_160 : decode cX6_part 160 = .ok (.if_icmp .lt 31, 3) := by decide +kernel
theorem dX6_part_163 : decode cX6_part 163 = .ok (.iload_n 1, 1) := by decide +kernel
theorem dX6_part_164 : decode cX6_part 164 = .ok (.iload_n 3, 1) := by decide +kernel
theorem dX6_part_165 : decode cX6_part 165 = .ok (.if_icmp .gt 26, 3) := by decide +kernel
theorem dX6_part_168 : decode cX6_part 168 = .ok (.aload_n 0, 1) := by decide +kernel
theorem dX6_part_169 : decode cX6_part 169 = .ok (.getfield 16, 3) := by decide +kernel
theorem dX6_part_172 : decode cX6_part 172 = .ok (.iconst 1, 1) := by decide +kernel
theorem dX6_part_173 : decode cX6_part 173 = .ok (.iload_n 1, 1) := by decide +kernel
theorem dX6_part_174 : decode cX6_part 174 = .ok (.iload_n 2, 1) := by decide +kernel
theorem dX6_part_175 : decode cX6_part 175 = .ok (.isub, 1) := by decide +kernel
theorem dX6_part_176 : decode cX6_part 176 = .ok (.invokevirtual 111, 3) := by decide +kernel
theorem dX6_part_179 : decode cX6_part 179 = .ok (.pop, 1) := by decide +kernel
theorem dX6_part_180 : decode cX6_part 180 = .ok (.aload_n 0, 1) := by decide +kernel
theorem dX6_part_181 : decode cX6_part 181 = .ok (.aload_n 0, 1) := by decide +kernel
theorem dX6_part_182 : decode cX6_part 182 = .ok (.getfield 34, 3) := by decide +kernel
theorem dX6_part_185 : decode cX6_part 185 = .ok (.invokevirtual 69, 3) := by decide +kernel
theorem dX6_part_188 : decode cX6_part 188 = .ok (.goto 134, 3) := by decide +kernel
theorem dX6_part_191 : decode cX6_part 191 = .ok (.aload_n 0, 1) := by decide +kernel
theorem dX6_part_192 : decode cX6_part 192 = .ok (.getfield 46, 3) := by decide +kernel
theorem dX6_part_195 : decode cX6_part 195 = .ok (.ifCond .eq 59, 3) := by decide +kernel
theorem dX6_part_198 : decode cX6_part 198 = .ok (.aload_n 0, 1) := by decide +kernel
theorem dX6_part_199 : decode cX6_part 199 = .ok (.getfield 34, 3) := by decide +kernel
theorem dX6_part_202 : decode cX6_part 202 = .ok (.sipush 2020, 3) := by decide +kernel
theorem dX6_part_205 : decode cX6_part 205 = .ok (.if_icmp .ne 49, 3) := by decide +kernel
theorem dX6_part_208 : decode cX6_part 208 = .ok (.aload_n 0, 1) := by decide +kernel
theorem dX6_part_209 : decode cX6_part 209 = .ok (.sipush 2020, 3) := by decide +kernel
theorem dX6_part_212 : decode cX6_part 212 = .ok (.invokevirtual 69, 3) := by decide +kernel
theorem dX6_part_215 : decode cX6_part 215 = .ok (.aload_n 0, 1) := by decide +kernel
theorem dX6_part_216 : decode cX6_part 216 = .ok (.getfield 16, 3) := by decide +kernel
theorem dX6_part_219 : decode cX6_part 219 = .ok (.iconst 1, 1) := by decide +kernel
theorem dX6_part_220 : decode cX6_part 220 = .ok (.iconst 4, 1) := by decide +kernel
theorem dX6_part_221 : decode cX6_part 221 = .ok (.aload_n 0, 1) := by decide +kernel
theorem dX6_part_222 : decode cX6_part 222 = .ok (.getfield 34, 3) := by decide +kernel
theorem dX6_part_225 : decode cX6_part 225 = .ok (.iadd, 1) := by decide +kernel
theorem dX6_part_226 : decode cX6_part 226 = .ok (.invokevirtual 111, 3) := by decide +kernel
theorem dX6_part_229 : decode cX6_part 229 = .ok (.pop, 1) := by decide +kernel
theorem dX6_part_230 : decode cX6_part 230 = .ok (.aload_n 0, 1) := by decide +kernel
theorem dX6_part_231 : decode cX6_part 231 = .ok (.aload_n 0, 1) := by decide +kernel
theorem dX6_part_232 : decode cX6_part 232 = .ok (.getfield 34, 3) := by decide +kernel
theorem dX6_part_235 : decode cX6_part 235 = .ok (.bipush 8, 2) := by decide +kernel
theorem dX6_part_237 : decode cX6_part 237 = .ok (.if_icmp .ge 10, 3) := by decide +kernel
theorem dX6_part_240 : decode cX6_part 240 = .ok (.aload_n 0, 1) := by decide +kernel
theorem dX6_part_241 : decode cX6_part 241 = .ok (.getfield 34, 3) := by decide +kernel
theorem dX6_part_244 : decode cX6_part 244 = .ok (.goto 4, 3) := by decide +kernel
theorem dX6_part_247 : decode cX6_part 247 = .ok (.iconst (-1), 1) := by decide +kernel
theorem dX6_part_248 : decode cX6_part 248 = .ok (.invokevirtual 69, 3) := by decide +kernel
theorem dX6_part_251 : decode cX6_part 251 = .ok (.goto 71, 3) := by decide +kernel
theorem dX6_part_254 : decode cX6_part 254 = .ok (.aload_n 0, 1) := by decide +kernel
theorem dX6_part_255 : decode cX6_part 255 = .ok (.getfield 46, 3) := by decide +kernel
theorem dX6_part_258 : decode cX6_part 258 = .ok (.ifCond .eq 59, 3) := by decide +kernel
theorem dX6_part_261 : decode cX6_part 261 = .ok (.aload_n 0, 1) := by decide +kernel
theorem dX6_part_262 : decode cX6_part 262 = .ok (.getfield 34, 3) := by decide +kernel
theorem dX6_part_265 : decode cX6_part 265 = .ok (.sipush 2021, 3) := by decide +kernel
theorem dX6_part_268 : decode cX6_part 268 = .ok (.if_icmp .ne 49, 3) := by decide +kernel
theorem dX6_part_271 : decode cX6_part 271 = .ok (.aload_n 0, 1) := by decide +kernel
theorem dX6_part_272 : decode cX6_part 272 = .ok (.sipush 2021, 3) := by decide +kernel
theorem dX6_part_275 : decode cX6_part 275 = .ok (.invokevirtual 69, 3) := by decide +kernel
theorem dX6_part_278 : decode cX6_part 278 = .ok (.aload_n 0, 1) := by decide +kernel
theorem dX6_part_279 : decode cX6_part 279 = .ok (.getfield 16, 3) := by decide +kernel
theorem dX6_part_282 : decode cX6_part 282 = .ok (.iconst 1, 1) := by decide +kernel
theorem dX6_part_283 : decode cX6_part 283 = .ok (.bipush 12, 2) := by decide +kernel
theorem dX6_part_285 : decode cX6_part 285 = .ok (.aload_n 0, 1) := by decide +kernel
theorem dX6_part_286 : decode cX6_part 286 = .ok (.getfield 34, 3) := by decide +kernel
theorem dX6_part_289 : decode cX6_part 289 = .ok (.iadd, 1) := by decide +kernel
theorem dX6_part_290 : decode cX6_part 290 = .ok (.invokevirtual 111, 3) := by decide +kernel
theorem dX6_part_293 : decode cX6_part 293 = .ok (.pop, 1) := by decide +kernel
theorem dX6_part_294 : decode cX6_part 294 = .ok (.aload_n 0, 1) := by decide +kernel
theorem dX6_part_295 : decode cX6_part 295 = .ok (.aload_n 0, 1) := by decide +kernel
theorem dX6_part_296 : decode cX6_part 296 = .ok (.getfield 34, 3) := by decide +kernel
theorem dX6_part_299 : decode cX6_part 299 = .ok (.iconst 4, 1) := by decide +kernel
theorem dX6_part_300 : decode cX6_part 300 = .ok (.if_icmp .ge 10, 3) := by decide +kernel
theorem dX6_part_303 : decode cX6_part 303 = .ok (.aload_n 0, 1) := by decide +kernel
theorem dX6_part_304 : decode cX6_part 304 = .ok (.getfield 34, 3) := by decide +kernel
theorem dX6_part_307 : decode cX6_part 307 = .ok (.goto 4, 3) := by decide +kernel
theorem dX6_part_310 : decode cX6_part 310 = .ok (.iconst (-1), 1) := by decide +kernel
theorem dX6_part_311 : decode cX6_part 311 = .ok (.invokevirtual 69, 3) := by decide +kernel
theorem dX6_part_314 : decode cX6_part 314 = .ok (.goto 8, 3) := by decide +kernel
theorem dX6_part_317 : decode cX6_part 317 = .ok (.aload_n 0, 1) := by decide +kernel
theorem dX6_part_318 : decode cX6_part 318 = .ok (.iconst (-1), 1) := by decide +kernel
theorem dX6_part_319 : decode cX6_part 319 = .ok (.invokevirtual 69, 3) := by decide +kernel
theorem dX6_part_322 : decode cX6_part 322 = .ok (.return_, 1) := by decide +kernel
theorem dX6_stepOf_0 : decode cX6_stepOf 0 = .ok (.iload_n 0, 1) := by decide +kernel
theorem dX6_stepOf_1 : decode cX6_stepOf 1 = .ok (.sipush 3000, 3) := by decide +kernel
theorem dX6_stepOf_4 : decode cX6_stepOf 4 = .ok (.isub, 1) := by decide +kernel
theorem dX6_stepOf_5 : decode cX6_stepOf 5 = .ok (.tableswitch 142 37 62 #[130, 142, 142, 142, 142, 124, 119, 142, 121, 142, 127, 142, 142, 142, 142, 142, 142, 142, 142, 142, 142, 142, 142, 133, 139, 136], 119) := by decide +kernel
theorem dX6_stepOf_124 : decode cX6_stepOf 124 = .ok (.iconst 5, 1) := by decide +kernel
theorem dX6_stepOf_125 : decode cX6_stepOf 125 = .ok (.ireturn, 1) := by decide +kernel
theorem dX6_stepOf_126 : decode cX6_stepOf 126 = .ok (.bipush 6, 2) := by decide +kernel
theorem dX6_stepOf_128 : decode cX6_stepOf 128 = .ok (.ireturn, 1) := by decide +kernel
theorem dX6_stepOf_129 : decode cX6_stepOf 129 = .ok (.bipush 7, 2) := by decide +kernel
theorem dX6_stepOf_131 : decode cX6_stepOf 131 = .ok (.ireturn, 1) := by decide +kernel
theorem dX6_stepOf_132 : decode cX6_stepOf 132 = .ok (.bipush 8, 2) := by decide +kernel
theorem dX6_stepOf_134 : decode cX6_stepOf 134 = .ok (.ireturn, 1) := by decide +kernel
theorem dX6_stepOf_135 : decode cX6_stepOf 135 = .ok (.bipush 9, 2) := by decide +kernel
theorem dX6_stepOf_137 : decode cX6_stepOf 137 = .ok (.ireturn, 1) := by decide +kernel
theorem dX6_stepOf_138 : decode cX6_stepOf 138 = .ok (.bipush 10, 2) := by decide +kernel
theorem dX6_stepOf_140 : decode cX6_stepOf 140 = .ok (.ireturn, 1) := by decide +kernel
theorem dX6_stepOf_141 : decode cX6_stepOf 141 = .ok (.bipush 11, 2) := by decide +kernel
theorem dX6_stepOf_143 : decode cX6_stepOf 143 = .ok (.ireturn, 1) := by decide +kernel
theorem dX6_stepOf_144 : decode cX6_stepOf 144 = .ok (.bipush 12, 2) := by decide +kernel
theorem dX6_stepOf_146 : decode cX6_stepOf 146 = .ok (.ireturn, 1) := by decide +kernel
theorem dX6_stepOf_147 : decode cX6_stepOf 147 = .ok (.iconst (-1), 1) := by decide +kernel
theorem dX6_stepOf_148 : decode cX6_stepOf 148 = .ok (.ireturn, 1) := by decide +kernel
theorem dX7_init_0 : decode cX7_init 0 = .ok (.aload_n 0, 1) := by decide +kernel
theorem dX7_init_1 : decode cX7_init 1 = .ok (.invokespecial 3, 3) := by decide +kernel
theorem dX7_init_4 : decode cX7_init 4 = .ok (.aload_n 0, 1) := by decide +kernel
theorem dX7_init_5 : decode cX7_init 5 = .ok (.bipush 8, 2) := by decide +kernel
theorem dX7_init_7 : decode cX7_init 7 = .ok (.newarray .int, 2) := by decide +kernel
theorem dX7_init_9 : decode cX7_init 9 = .ok (.putfield 9, 3) := by decide +kernel
theorem dX7_init_12 : decode cX7_init 12 = .ok (.aload_n 0, 1) := by decide +kernel
theorem dX7_init_13 : decode cX7_init 13 = .ok (.bipush 9, 2) := by decide +kernel
theorem dX7_init_15 : decode cX7_init 15 = .ok (.newarray .int, 2) := by decide +kernel
theorem dX7_init_17 : decode cX7_init 17 = .ok (.putfield 15, 3) := by decide +kernel
theorem dX7_init_20 : decode cX7_init 20 = .ok (.aload_n 0, 1) := by decide +kernel
theorem dX7_init_21 : decode cX7_init 21 = .ok (.bipush 54, 2) := by decide +kernel
theorem dX7_init_23 : decode cX7_init 23 = .ok (.newarray .long, 2) := by decide +kernel
theorem dX7_init_25 : decode cX7_init 25 = .ok (.putfield 18, 3) := by decide +kernel
theorem dX7_init_28 : decode cX7_init 28 = .ok (.aload_n 0, 1) := by decide +kernel
theorem dX7_init_29 : decode cX7_init 29 = .ok (.bipush 9, 2) := by decide +kernel
theorem dX7_init_31 : decode cX7_init 31 = .ok (.newarray .long, 2) := by decide +kernel
theorem dX7_init_33 : decode cX7_init 33 = .ok (.putfield 22, 3) := by decide +kernel
theorem dX7_init_36 : decode cX7_init 36 = .ok (.aload_n 0, 1) := by decide +kernel
theorem dX7_init_37 : decode cX7_init 37 = .ok (.bipush 24, 2) := by decide +kernel
theorem dX7_init_39 : decode cX7_init 39 = .ok (.newarray .int, 2) := by decide +kernel
theorem dX7_init_41 : decode cX7_init 41 = .ok (.putfield 25, 3) := by decide +kernel
theorem dX7_init_44 : decode cX7_init 44 = .ok (.aload_n 0, 1) := by decide +kernel
theorem dX7_init_45 : decode cX7_init 45 = .ok (.bipush 24, 2) := by decide +kernel
theorem dX7_init_47 : decode cX7_init 47 = .ok (.newarray .int, 2) := by decide +kernel
theorem dX7_init_49 : decode cX7_init 49 = .ok (.putfield 28, 3) := by decide +kernel
theorem dX7_init_52 : decode cX7_init 52 = .ok (.aload_n 0, 1) := by decide +kernel
theorem dX7_init_53 : decode cX7_init 53 = .ok (.bipush 24, 2) := by decide +kernel
theorem dX7_init_55 : decode cX7_init 55 = .ok (.newarray .int, 2) := by decide +kernel
theorem dX7_init_57 : decode cX7_init 57 = .ok (.putfield 31, 3) := by decide +kernel
theorem dX7_init_60 : decode cX7_init 60 = .ok (.aload_n 0, 1) := by decide +kernel
theorem dX7_init_61 : decode cX7_init 61 = .ok (.bipush 24, 2) := by decide +kernel
theorem dX7_init_63 : decode cX7_init 63 = .ok (.newarray .long, 2) := by decide +kernel
theorem dX7_init_65 : decode cX7_init 65 = .ok (.putfield 34, 3) := by decide +kernel
theorem dX7_init_68 : decode cX7_init 68 = .ok (.aload_n 0, 1) := by decide +kernel
theorem dX7_init_69 : decode cX7_init 69 = .ok (.bipush 24, 2) := by decide +kernel
theorem dX7_init_71 : decode cX7_init 71 = .ok (.newarray .long, 2) := by decide +kernel
theorem dX7_init_73 : decode cX7_init 73 = .ok (.putfield 37, 3) := by decide +kernel
theorem dX7_init_76 : decode cX7_init 76 = .ok (.aload_n 0, 1) := by decide +kernel
theorem dX7_init_77 : decode cX7_init 77 = .ok (.bipush 24, 2) := by decide +kernel
theorem dX7_init_79 : decode cX7_init 79 = .ok (.newarray .boolean, 2) := by decide +kernel
theorem dX7_init_81 : decode cX7_init 81 = .ok (.putfield 40, 3) := by decide +kernel
theorem dX7_init_84 : decode cX7_init 84 = .ok (.aload_n 0, 1) := by decide +kernel
theorem dX7_init_85 : decode cX7_init 85 = .ok (.iconst 0, 1) := by decide +kernel
theorem dX7_init_86 : decode cX7_init 86 = .ok (.putfield 44, 3) := by decide +kernel
theorem dX7_init_89 : decode cX7_init 89 = .ok (.aload_n 0, 1) := by decide +kernel
theorem dX7_init_90 : decode cX7_init 90 = .ok (.iconst 0, 1) := by decide +kernel
theorem dX7_init_91 : decode cX7_init 91 = .ok (.putfield 48, 3) := by decide +kernel
theorem dX7_init_94 : decode cX7_init 94 = .ok (.aload_n 0, 1) := by decide +kernel
theorem dX7_init_95 : decode cX7_init 95 = .ok (.iconst 0, 1) := by decide +kernel
theorem dX7_init_96 : decode cX7_init 96 = .ok (.putfield 51, 3) := by decide +kernel
theorem dX7_init_99 : decode cX7_init 99 = .ok (.aload_n 0, 1) := by decide +kernel
theorem dX7_init_100 : decode cX7_init 100 = .ok (.iconst 0, 1) := by decide +kernel
theorem dX7_init_101 : decode cX7_init 101 = .ok (.putfield 54, 3) := by decide +kernel
theorem dX7_init_104 : decode cX7_init 104 = .ok (.return_, 1) := by decide +kernel
theorem dX7_plan_0 : decode cX7_plan 0 = .ok (.aload_n 0, 1) := by decide +kernel
theorem dX7_plan_1 : decode cX7_plan 1 = .ok (.aload_n 1, 1) := by decide +kernel
theorem dX7_plan_2 : decode cX7_plan 2 = .ok (.invokevirtual 57, 3) := by decide +kernel
theorem dX7_plan_5 : decode cX7_plan 5 = .ok (.aload_n 0, 1) := by decide +kernel
theorem dX7_plan_6 : decode cX7_plan 6 = .ok (.aload_n 1, 1) := by decide +kernel
theorem dX7_plan_7 : decode cX7_plan 7 = .ok (.invokevirtual 61, 3) := by decide +kernel
theorem dX7_plan_10 : decode cX7_plan 10 = .ok (.iconst 1, 1) := by decide +kernel
theorem dX7_plan_11 : decode cX7_plan 11 = .ok (.istore_n 2, 1) := by decide +kernel
theorem dX7_plan_12 : decode cX7_plan 12 = .ok (.iload_n 2, 1) := by decide +kernel
theorem dX7_plan_13 : decode cX7_plan 13 = .ok (.aload_n 0, 1) := by decide +kernel
theorem dX7_plan_14 : decode cX7_plan 14 = .ok (.getfield 44, 3) := by decide +kernel
theorem dX7_plan_17 : decode cX7_plan 17 = .ok (.if_icmp .gt 14, 3) := by decide +kernel
theorem dX7_plan_20 : decode cX7_plan 20 = .ok (.aload_n 0, 1) := by decide +kernel
theorem dX7_plan_21 : decode cX7_plan 21 = .ok (.iload_n 2, 1) := by decide +kernel
theorem dX7_plan_22 : decode cX7_plan 22 = .ok (.invokevirtual 64, 3) := by decide +kernel
theorem dX7_plan_25 : decode cX7_plan 25 = .ok (.iinc 2 1, 3) := by decide +kernel
theorem dX7_plan_28 : decode cX7_plan 28 = .ok (.goto (-16), 3) := by decide +kernel
theorem dX7_plan_31 : decode cX7_plan 31 = .ok (.aload_n 0, 1) := by decide +kernel
theorem dX7_plan_32 : decode cX7_plan 32 = .ok (.iconst 0, 1) := by decide +kernel
theorem dX7_plan_33 : decode cX7_plan 33 = .ok (.putfield 51, 3) := by decide +kernel
theorem dX7_plan_36 : decode cX7_plan 36 = .ok (.aload_n 0, 1) := by decide +kernel
theorem dX7_plan_37 : decode cX7_plan 37 = .ok (.iconst 0, 1) := by decide +kernel
theorem dX7_plan_38 : decode cX7_plan 38 = .ok (.putfield 54, 3) := by decide +kernel
theorem dX7_plan_41 : decode cX7_plan 41 = .ok (.iconst 1, 1) := by decide +kernel
theorem dX7_plan_42 : decode cX7_plan 42 = .ok (.istore_n 2, 1) := by decide +kernel
theorem dX7_plan_43 : decode cX7_plan 43 = .ok (.iload_n 2, 1) := by decide +kernel
theorem dX7_plan_44 : decode cX7_plan 44 = .ok (.aload_n 0, 1) := by decide +kernel
theorem dX7_plan_45 : decode cX7_plan 45 = .ok (.getfield 48, 3) := by decide +kernel
theorem dX7_plan_48 : decode cX7_plan 48 = .ok (.if_icmp .gt 78, 3) := by decide +kernel
theorem dX7_plan_51 : decode cX7_plan 51 = .ok (.aload_n 0, 1) := by decide +kernel
theorem dX7_plan_52 : decode cX7_plan 52 = .ok (.getfield 28, 3) := by decide +kernel
theorem dX7_plan_55 : decode cX7_plan 55 = .ok (.iload_n 2, 1) := by decide +kernel
theorem dX7_plan_56 : decode cX7_plan 56 = .ok (.iaload, 1) := by decide +kernel
theorem dX7_plan_57 : decode cX7_plan 57 = .ok (.istore_n 3, 1) := by decide +kernel
theorem dX7_plan_58 : decode cX7_plan 58 = .ok (.aload_n 0, 1) := by decide +kernel
theorem dX7_plan_59 : decode cX7_plan 59 = .ok (.getfield 25, 3) := by decide +kernel
theorem dX7_plan_62 : decode cX7_plan 62 = .ok (.iload_n 2, 1) := by decide +kernel
theorem dX7_plan_63 : decode cX7_plan 63 = .ok (.iaload, 1) := by decide +kernel
theorem dX7_plan_64 : decode cX7_plan 64 = .ok (.istore 4, 2) := by decide +kernel
theorem dX7_plan_66 : decode cX7_plan 66 = .ok (.iload_n 3, 1) := by decide +kernel
theorem dX7_plan_67 : decode cX7_plan 67 = .ok (.ifCond .le 53, 3) := by decide +kernel
theorem dX7_plan_70 : decode cX7_plan 70 = .ok (.iload 4, 2) := by decide +kernel
theorem dX7_plan_72 : decode cX7_plan 72 = .ok (.iconst 5, 1) := by decide +kernel
theorem dX7_plan_73 : decode cX7_plan 73 = .ok (.if_icmp .eq 47, 3) := by decide +kernel
theorem dX7_plan_76 : decode cX7_plan 76 = .ok (.aload_n 0, 1) := by decide +kernel
theorem dX7_plan_77 : decode cX7_plan 77 = .ok (.getfield 9, 3) := by decide +kernel
theorem dX7_plan_80 : decode cX7_plan 80 = .ok (.aload_n 0, 1) := by decide +kernel
theorem dX7_plan_81 : decode cX7_plan 81 = .ok (.getfield 15, 3) := by decide +kernel
theorem dX7_plan_84 : decode cX7_plan 84 = .ok (.iload_n 3, 1) := by decide +kernel
theorem dX7_plan_85 : decode cX7_plan 85 = .ok (.iaload, 1) := by decide +kernel
theorem dX7_plan_86 : decode cX7_plan 86 = .ok (.iload 4, 2) := by decide +kernel
theorem dX7_plan_88 : decode cX7_plan 88 = .ok (.iastore, 1) := by decide +kernel
theorem dX7_plan_89 : decode cX7_plan 89 = .ok (.aload_n 0, 1) := by decide +kernel
theorem dX7_plan_90 : decode cX7_plan 90 = .ok (.dup, 1) := by decide +kernel
theorem dX7_plan_91 : decode cX7_plan 91 = .ok (.getfield 51, 3) := by decide +kernel
theorem dX7_plan_94 : decode cX7_plan 94 = .ok (.iconst 1, 1) := by decide +kernel
theorem dX7_plan_95 : decode cX7_plan 95 = .ok (.iadd, 1) := by decide +kernel
theorem dX7_plan_96 : decode cX7_plan 96 = .ok (.putfield 51, 3) := by decide +kernel
theorem dX7_plan_99 : decode cX7_plan 99 = .ok (.aload_n 0, 1) := by decide +kernel
theorem dX7_plan_100 : decode cX7_plan 100 = .ok (.dup, 1) := by decide +kernel
theorem dX7_plan_101 : decode cX7_plan 101 = .ok (.getfield 54, 3) := by decide +kernel
theorem dX7_plan_104 : decode cX7_plan 104 = .ok (.aload_n 1, 1) := by decide +kernel
theorem dX7_plan_105 : decode cX7_plan 105 = .ok (.aload_n 0, 1) := by decide +kernel
theorem dX7_plan_106 : decode cX7_plan 106 = .ok (.getfield 15, 3) := by decide +kernel
theorem dX7_plan_109 : decode cX7_plan 109 = .ok (.iload_n 3, 1) := by decide +kernel
theorem dX7_plan_110 : decode cX7_plan 110 = .ok (.iaload, 1) := by decide +kernel
theorem dX7_plan_111 : decode cX7_plan 111 = .ok (.iload 4, 2) := by decide +kernel
theorem dX7_plan_113 : decode cX7_plan 113 = .ok (.invokevirtual 68, 3) := by decide +kernel
theorem dX7_plan_116 : decode cX7_plan 116 = .ok (.iadd, 1) := by decide +kernel
theorem dX7_plan_117 : decode cX7_plan 117 = .ok (.putfield 54, 3) := by decide +kernel
theorem dX7_plan_120 : decode cX7_plan 120 = .ok (.iinc 2 1, 3) := by decide +kernel
theorem dX7_plan_123 : decode cX7_plan 123 = .ok (.goto (-80), 3) := by decide +kernel
theorem dX7_plan_126 : decode cX7_plan 126 = .ok (.return_, 1) := by decide +kernel
theorem dX7_setRows_0 : decode cX7_setRows 0 = .ok (.aload_n 0, 1) := by decide +kernel
theorem dX7_setRows_1 : decode cX7_setRows 1 = .ok (.iconst 0, 1) := by decide +kernel
theorem dX7_setRows_2 : decode cX7_setRows 2 = .ok (.putfield 44, 3) := by decide +kernel
theorem dX7_setRows_5 : decode cX7_setRows 5 = .ok (.iconst 0, 1) := by decide +kernel
theorem dX7_setRows_6 : decode cX7_setRows 6 = .ok (.istore_n 2, 1) := by decide +kernel
theorem dX7_setRows_7 : decode cX7_setRows 7 = .ok (.iload_n 2, 1) := by decide +kernel
theorem dX7_setRows_8 : decode cX7_setRows 8 = .ok (.aload_n 1, 1) := by decide +kernel
theorem dX7_setRows_9 : decode cX7_setRows 9 = .ok (.getfield 74, 3) := by decide +kernel
theorem dX7_setRows_12 : decode cX7_setRows 12 = .ok (.if_icmp .ge 62, 3) := by decide +kernel
theorem dX7_setRows_15 : decode cX7_setRows 15 = .ok (.aload_n 0, 1) := by decide +kernel
theorem dX7_setRows_16 : decode cX7_setRows 16 = .ok (.getfield 9, 3) := by decide +kernel
theorem dX7_setRows_19 : decode cX7_setRows 19 = .ok (.iload_n 2, 1) := by decide +kernel
theorem dX7_setRows_20 : decode cX7_setRows 20 = .ok (.iconst (-1), 1) := by decide +kernel
theorem dX7_setRows_21 : decode cX7_setRows 21 = .ok (.iastore, 1) := by decide +kernel
theorem dX7_setRows_22 : decode cX7_setRows 22 = .ok (.aload_n 1, 1) := by decide +kernel
theorem dX7_setRows_23 : decode cX7_setRows 23 = .ok (.iload_n 2, 1) := by decide +kernel
theorem dX7_setRows_24 : decode cX7_setRows 24 = .ok (.invokevirtual 77, 3) := by decide +kernel
theorem dX7_setRows_27 : decode cX7_setRows 27 = .ok (.ifCond .eq 41, 3) := by decide +kernel
theorem dX7_setRows_30 : decode cX7_setRows 30 = .ok (.aload_n 0, 1) := by decide +kernel
theorem dX7_setRows_31 : decode cX7_setRows 31 = .ok (.getfield 9, 3) := by decide +kernel
theorem dX7_setRows_34 : decode cX7_setRows 34 = .ok (.iload_n 2, 1) := by decide +kernel
theorem dX7_setRows_35 : decode cX7_setRows 35 = .ok (.bipush 100, 2) := by decide +kernel
theorem dX7_setRows_37 : decode cX7_setRows 37 = .ok (.iastore, 1) := by decide +kernel
theorem dX7_setRows_38 : decode cX7_setRows 38 = .ok (.aload_n 0, 1) := by decide +kernel
theorem dX7_setRows_39 : decode cX7_setRows 39 = .ok (.dup, 1) := by decide +kernel
theorem dX7_setRows_40 : decode cX7_setRows 40 = .ok (.getfield 44, 3) := by decide +kernel
theorem dX7_setRows_43 : decode cX7_setRows 43 = .ok (.iconst 1, 1) := by decide +kernel
theorem dX7_setRows_44 : decode cX7_setRows 44 = .ok (.iadd, 1) := by decide +kernel
theorem dX7_setRows_45 : decode cX7_setRows 45 = .ok (.putfield 44, 3) := by decide +kernel
theorem dX7_setRows_48 : decode cX7_setRows 48 = .ok (.aload_n 0, 1) := by decide +kernel
theorem dX7_setRows_49 : decode cX7_setRows 49 = .ok (.getfield 15, 3) := by decide +kernel
theorem dX7_setRows_52 : decode cX7_setRows 52 = .ok (.aload_n 0, 1) := by decide +kernel
theorem dX7_setRows_53 : decode cX7_setRows 53 = .ok (.getfield 44, 3) := by decide +kernel
theorem dX7_setRows_56 : decode cX7_setRows 56 = .ok (.iload_n 2, 1) := by decide +kernel
theorem dX7_setRows_57 : decode cX7_setRows 57 = .ok (.iastore, 1) := by decide +kernel
theorem dX7_setRows_58 : decode cX7_setRows 58 = .ok (.aload_n 0, 1) := by decide +kernel
theorem dX7_setRows_59 : decode cX7_setRows 59 = .ok (.getfield 22, 3) := by decide +kernel
theorem dX7_setRows_62 : decode cX7_setRows 62 = .ok (.aload_n 0, 1) := by decide +kernel
theorem dX7_setRows_63 : decode cX7_setRows 63 = .ok (.getfield 44, 3) := by decide +kernel
theorem dX7_setRows_66 : decode cX7_setRows 66 = .ok (.lconst 0, 1) := by decide +kernel
theorem dX7_setRows_67 : decode cX7_setRows 67 = .ok (.lastore, 1) := by decide +kernel
theorem dX7_setRows_68 : decode cX7_setRows 68 = .ok (.iinc 2 1, 3) := by decide +kernel
theorem dX7_setRows_71 : decode cX7_setRows 71 = .ok (.goto (-64), 3) := by decide +kernel
theorem dX7_setRows_74 : decode cX7_setRows 74 = .ok (.lconst 1, 1) := by decide +kernel
theorem dX7_setRows_75 : decode cX7_setRows 75 = .ok (.lstore_n 2, 1) := by decide +kernel
theorem dX7_setRows_76 : decode cX7_setRows 76 = .ok (.aload_n 0, 1) := by decide +kernel
theorem dX7_setRows_77 : decode cX7_setRows 77 = .ok (.getfield 44, 3) := by decide +kernel
theorem dX7_setRows_80 : decode cX7_setRows 80 = .ok (.istore 4, 2) := by decide +kernel
theorem dX7_setRows_82 : decode cX7_setRows 82 = .ok (.iload 4, 2) := by decide +kernel
theorem dX7_setRows_84 : decode cX7_setRows 84 = .ok (.iconst 1, 1) := by decide +kernel
theorem dX7_setRows_85 : decode cX7_setRows 85 = .ok (.if_icmp .lt 23, 3) := by decide +kernel
theorem dX7_setRows_88 : decode cX7_setRows 88 = .ok (.aload_n 0, 1) := by decide +kernel
theorem dX7_setRows_89 : decode cX7_setRows 89 = .ok (.aload_n 1, 1) := by decide +kernel
theorem dX7_setRows_90 : decode cX7_setRows 90 = .ok (.iload 4, 2) := by decide +kernel
theorem dX7_setRows_92 : decode cX7_setRows 92 = .ok (.lload_n 2, 1) := by decide +kernel
theorem dX7_setRows_93 : decode cX7_setRows 93 = .ok (.invokevirtual 81, 3) := by decide +kernel
theorem dX7_setRows_96 : decode cX7_setRows 96 = .ok (.lload_n 2, 1) := by decide +kernel
theorem dX7_setRows_97 : decode cX7_setRows 97 = .ok (.ldc2_w 85, 3) := by decide +kernel
theorem dX7_setRows_100 : decode cX7_setRows 100 = .ok (.lmul, 1) := by decide +kernel
theorem dX7_setRows_101 : decode cX7_setRows 101 = .ok (.lstore_n 2, 1) := by decide +kernel
theorem dX7_setRows_102 : decode cX7_setRows 102 = .ok (.iinc 4 (-1), 3) := by decide +kernel
theorem dX7_setRows_105 : decode cX7_setRows 105 = .ok (.goto (-23), 3) := by decide +kernel
theorem dX7_setRows_108 : decode cX7_setRows 108 = .ok (.return_, 1) := by decide +kernel
theorem dX7_setCosts_0 : decode cX7_setCosts 0 = .ok (.aload_n 0, 1) := by decide +kernel
theorem dX7_setCosts_1 : decode cX7_setCosts 1 = .ok (.getfield 15, 3) := by decide +kernel
theorem dX7_setCosts_4 : decode cX7_setCosts 4 = .ok (.iload_n 2, 1) := by decide +kernel
theorem dX7_setCosts_5 : decode cX7_setCosts 5 = .ok (.iaload, 1) := by decide +kernel
theorem dX7_setCosts_6 : decode cX7_setCosts 6 = .ok (.istore 5, 2) := by decide +kernel
theorem dX7_setCosts_8 : decode cX7_setCosts 8 = .ok (.iconst 0, 1) := by decide +kernel
theorem dX7_setCosts_9 : decode cX7_setCosts 9 = .ok (.istore 6, 2) := by decide +kernel
theorem dX7_setCosts_11 : decode cX7_setCosts 11 = .ok (.iload 6, 2) := by decide +kernel
theorem dX7_setCosts_13 : decode cX7_setCosts 13 = .ok (.aload_n 1, 1) := by decide +kernel
theorem dX7_setCosts_14 : decode cX7_setCosts 14 = .ok (.getfield 87, 3) := by decide +kernel
theorem dX7_setCosts_17 : decode cX7_setCosts 17 = .ok (.if_icmp .ge 65, 3) := by decide +kernel
theorem dX7_setCosts_20 : decode cX7_setCosts 20 = .ok (.ldc2_w 90, 3) := by decide +kernel
theorem dX7_setCosts_23 : decode cX7_setCosts 23 = .ok (.ldc2_w 92, 3) := by decide +kernel
theorem dX7_setCosts_26 : decode cX7_setCosts 26 = .ok (.aload_n 1, 1) := by decide +kernel
theorem dX7_setCosts_27 : decode cX7_setCosts 27 = .ok (.iload 5, 2) := by decide +kernel
theorem dX7_setCosts_29 : decode cX7_setCosts 29 = .ok (.iload 6, 2) := by decide +kernel
theorem dX7_setCosts_31 : decode cX7_setCosts 31 = .ok (.invokevirtual 68, 3) := by decide +kernel
theorem dX7_setCosts_34 : decode cX7_setCosts 34 = .ok (.i2l, 1) := by decide +kernel
theorem dX7_setCosts_35 : decode cX7_setCosts 35 = .ok (.lmul, 1) := by decide +kernel
theorem dX7_setCosts_36 : decode cX7_setCosts 36 = .ok (.ladd, 1) := by decide +kernel
theorem dX7_setCosts_37 : decode cX7_setCosts 37 = .ok (.lstore 7, 2) := by decide +kernel
theorem dX7_setCosts_39 : decode cX7_setCosts 39 = .ok (.aload_n 0, 1) := by decide +kernel
theorem dX7_setCosts_40 : decode cX7_setCosts 40 = .ok (.getfield 18, 3) := by decide +kernel
theorem dX7_setCosts_43 : decode cX7_setCosts 43 = .ok (.iload_n 2, 1) := by decide +kernel
theorem dX7_setCosts_44 : decode cX7_setCosts 44 = .ok (.bipush 6, 2) := by decide +kernel
theorem dX7_setCosts_46 : decode cX7_setCosts 46 = .ok (.imul, 1) := by decide +kernel
theorem dX7_setCosts_47 : decode cX7_setCosts 47 = .ok (.iload 6, 2) := by decide +kernel
theorem dX7_setCosts_49 : decode cX7_setCosts 49 = .ok (.iadd, 1) := by decide +kernel
theorem dX7_setCosts_50 : decode cX7_setCosts 50 = .ok (.aload_n 1, 1) := by decide +kernel
theorem dX7_setCosts_51 : decode cX7_setCosts 51 = .ok (.iload 5, 2) := by decide +kernel
theorem dX7_setCosts_53 : decode cX7_setCosts 53 = .ok (.iload 6, 2) := by decide +kernel
theorem dX7_setCosts_55 : decode cX7_setCosts 55 = .ok (.invokevirtual 94, 3) := by decide +kernel
theorem dX7_setCosts_58 : decode cX7_setCosts 58 = .ok (.ifCond .eq 9, 3) := by decide +kernel
theorem dX7_setCosts_61 : decode cX7_setCosts 61 = .ok (.ldc2_w 98, 3) := by decide +kernel
theorem dX7_setCosts_64 : decode cX7_setCosts 64 = .ok (.goto 11, 3) := by decide +kernel
theorem dX7_setCosts_67 : decode cX7_setCosts 67 = .ok (.lload_n 3, 1) := by decide +kernel
theorem dX7_setCosts_68 : decode cX7_setCosts 68 = .ok (.iload 6, 2) := by decide +kernel
theorem dX7_setCosts_70 : decode cX7_setCosts 70 = .ok (.i2l, 1) := by decide +kernel
theorem dX7_setCosts_71 : decode cX7_setCosts 71 = .ok (.lmul, 1) := by decide +kernel
theorem dX7_setCosts_72 : decode cX7_setCosts 72 = .ok (.lload 7, 2) := by decide +kernel
theorem dX7_setCosts_74 : decode cX7_setCosts 74 = .ok (.lsub, 1) := by decide +kernel
theorem dX7_setCosts_75 : decode cX7_setCosts 75 = .ok (.lastore, 1) := by decide +kernel
theorem dX7_setCosts_76 : decode cX7_setCosts 76 = .ok (.iinc 6 1, 3) := by decide +kernel
theorem dX7_setCosts_79 : decode cX7_setCosts 79 = .ok (.goto (-68), 3) := by decide +kernel
theorem dX7_setCosts_82 : decode cX7_setCosts 82 = .ok (.aload_n 0, 1) := by decide +kernel
theorem dX7_setCosts_83 : decode cX7_setCosts 83 = .ok (.getfield 18, 3) := by decide +kernel
theorem dX7_setCosts_86 : decode cX7_setCosts 86 = .ok (.iload_n 2, 1) := by decide +kernel
theorem dX7_setCosts_87 : decode cX7_setCosts 87 = .ok (.bipush 6, 2) := by decide +kernel
theorem dX7_setCosts_89 : decode cX7_setCosts 89 = .ok (.imul, 1) := by decide +kernel
theorem dX7_setCosts_90 : decode cX7_setCosts 90 = .ok (.iconst 5, 1) := by decide +kernel
theorem dX7_setCosts_91 : decode cX7_setCosts 91 = .ok (.iadd, 1) := by decide +kernel
theorem dX7_setCosts_92 : decode cX7_setCosts 92 = .ok (.lload_n 3, 1) := by decide +kernel
theorem dX7_setCosts_93 : decode cX7_setCosts 93 = .ok (.ldc2_w 100, 3) := by decide +kernel
theorem dX7_setCosts_96 : decode cX7_setCosts 96 = .ok (.lmul, 1) := by decide +kernel
theorem dX7_setCosts_97 : decode cX7_setCosts 97 = .ok (.lastore, 1) := by decide +kernel
theorem dX7_setCosts_98 : decode cX7_setCosts 98 = .ok (.return_, 1) := by decide +kernel
theorem dX7_setColumns_0 : decode cX7_setColumns 0 = .ok (.aload_n 0, 1) := by decide +kernel
theorem dX7_setColumns_1 : decode cX7_setColumns 1 = .ok (.iconst 0, 1) := by decide +kernel
theorem dX7_setColumns_2 : decode cX7_setColumns 2 = .ok (.putfield 48, 3) := by decide +kernel
theorem dX7_setColumns_5 : decode cX7_setColumns 5 = .ok (.iconst 0, 1) := by decide +kernel
theorem dX7_setColumns_6 : decode cX7_setColumns 6 = .ok (.istore_n 2, 1) := by decide +kernel
theorem dX7_setColumns_7 : decode cX7_setColumns 7 = .ok (.iload_n 2, 1) := by decide +kernel
theorem dX7_setColumns_8 : decode cX7_setColumns 8 = .ok (.aload_n 1, 1) := by decide +kernel
theorem dX7_setColumns_9 : decode cX7_setColumns 9 = .ok (.getfield 87, 3) := by decide +kernel
theorem dX7_setColumns_12 : decode cX7_setColumns 12 = .ok (.if_icmp .ge 19, 3) := by decide +kernel
theorem dX7_setColumns_15 : decode cX7_setColumns 15 = .ok (.aload_n 0, 1) := by decide +kernel
theorem dX7_setColumns_16 : decode cX7_setColumns 16 = .ok (.iload_n 2, 1) := by decide +kernel
theorem dX7_setColumns_17 : decode cX7_setColumns 17 = .ok (.aload_n 1, 1) := by decide +kernel
theorem dX7_setColumns_18 : decode cX7_setColumns 18 = .ok (.iload_n 2, 1) := by decide +kernel
theorem dX7_setColumns_19 : decode cX7_setColumns 19 = .ok (.invokevirtual 102, 3) := by decide +kernel
theorem dX7_setColumns_22 : decode cX7_setColumns 22 = .ok (.invokevirtual 106, 3) := by decide +kernel
theorem dX7_setColumns_25 : decode cX7_setColumns 25 = .ok (.iinc 2 1, 3) := by decide +kernel
theorem dX7_setColumns_28 : decode cX7_setColumns 28 = .ok (.goto (-21), 3) := by decide +kernel
theorem dX7_setColumns_31 : decode cX7_setColumns 31 = .ok (.aload_n 0, 1) := by decide +kernel
theorem dX7_setColumns_32 : decode cX7_setColumns 32 = .ok (.iconst 5, 1) := by decide +kernel
theorem dX7_setColumns_33 : decode cX7_setColumns 33 = .ok (.aload_n 0, 1) := by decide +kernel
theorem dX7_setColumns_34 : decode cX7_setColumns 34 = .ok (.getfield 44, 3) := by decide +kernel
theorem dX7_setColumns_37 : decode cX7_setColumns 37 = .ok (.invokevirtual 106, 3) := by decide +kernel
theorem dX7_setColumns_40 : decode cX7_setColumns 40 = .ok (.return_, 1) := by decide +kernel
theorem dX7_addColumns_0 : decode cX7_addColumns 0 = .ok (.iconst 0, 1) := by decide +kernel
theorem dX7_addColumns_1 : decode cX7_addColumns 1 = .ok (.istore_n 3, 1) := by decide +kernel
theorem dX7_addColumns_2 : decode cX7_addColumns 2 = .ok (.iload_n 3, 1) := by decide +kernel
theorem dX7_addColumns_3 : decode cX7_addColumns 3 = .ok (.iload_n 2, 1) := by decide +kernel
theorem dX7_addColumns_4 : decode cX7_addColumns 4 = .ok (.if_icmp .ge 58, 3) := by decide +kernel
theorem dX7_addColumns_7 : decode cX7_addColumns 7 = .ok (.aload_n 0, 1) := by decide +kernel
theorem dX7_addColumns_8 : decode cX7_addColumns 8 = .ok (.getfield 48, 3) := by decide +kernel
theorem dX7_addColumns_11 : decode cX7_addColumns 11 = .ok (.bipush 23, 2) := by decide +kernel
theorem dX7_addColumns_13 : decode cX7_addColumns 13 = .ok (.if_icmp .ge 49, 3) := by decide +kernel
theorem dX7_addColumns_16 : decode cX7_addColumns 16 = .ok (.aload_n 0, 1) := by decide +kernel
theorem dX7_addColumns_17 : decode cX7_addColumns 17 = .ok (.dup, 1) := by decide +kernel
theorem dX7_addColumns_18 : decode cX7_addColumns 18 = .ok (.getfield 48, 3) := by decide +kernel
theorem dX7_addColumns_21 : decode cX7_addColumns 21 = .ok (.iconst 1, 1) := by decide +kernel
theorem dX7_addColumns_22 : decode cX7_addColumns 22 = .ok (.iadd, 1) := by decide +kernel
theorem dX7_addColumns_23 : decode cX7_addColumns 23 = .ok (.putfield 48, 3) := by decide +kernel
theorem dX7_addColumns_26 : decode cX7_addColumns 26 = .ok (.aload_n 0, 1) := by decide +kernel
theorem dX7_addColumns_27 : decode cX7_addColumns 27 = .ok (.getfield 25, 3) := by decide +kernel
theorem dX7_addColumns_30 : decode cX7_addColumns 30 = .ok (.aload_n 0, 1) := by decide +kernel
theorem dX7_addColumns_31 : decode cX7_addColumns 31 = .ok (.getfield 48, 3) := by decide +kernel
theorem dX7_addColumns_34 : decode cX7_addColumns 34 = .ok (.iload_n 1, 1) := by decide +kernel
theorem dX7_addColumns_35 : decode cX7_addColumns 35 = .ok (.iastore, 1) := by decide +kernel
theorem dX7_addColumns_36 : decode cX7_addColumns 36 = .ok (.aload_n 0, 1) := by decide +kernel
theorem dX7_addColumns_37 : decode cX7_addColumns 37 = .ok (.getfield 28, 3) := by decide +kernel
theorem dX7_addColumns_40 : decode cX7_addColumns 40 = .ok (.aload_n 0, 1) := by decide +kernel
theorem dX7_addColumns_41 : decode cX7_addColumns 41 = .ok (.getfield 48, 3) := by decide +kernel
theorem dX7_addColumns_44 : decode cX7_addColumns 44 = .ok (.iconst 0, 1) := by decide +kernel
theorem dX7_addColumns_45 : decode cX7_addColumns 45 = .ok (.iastore, 1) := by decide +kernel
theorem dX7_addColumns_46 : decode cX7_addColumns 46 = .ok (.aload_n 0, 1) := by decide +kernel
theorem dX7_addColumns_47 : decode cX7_addColumns 47 = .ok (.getfield 34, 3) := by decide +kernel
theorem dX7_addColumns_50 : decode cX7_addColumns 50 = .ok (.aload_n 0, 1) := by decide +kernel
theorem dX7_addColumns_51 : decode cX7_addColumns 51 = .ok (.getfield 48, 3) := by decide +kernel
theorem dX7_addColumns_54 : decode cX7_addColumns 54 = .ok (.lconst 0, 1) := by decide +kernel
theorem dX7_addColumns_55 : decode cX7_addColumns 55 = .ok (.lastore, 1) := by decide +kernel
theorem dX7_addColumns_56 : decode cX7_addColumns 56 = .ok (.iinc 3 1, 3) := by decide +kernel
theorem dX7_addColumns_59 : decode cX7_addColumns 59 = .ok (.goto (-57), 3) := by decide +kernel
theorem dX7_addColumns_62 : decode cX7_addColumns 62 = .ok (.return_, 1) := by decide +kernel
theorem dX7_pair_0 : decode cX7_pair 0 = .ok (.aload_n 0, 1) := by decide +kernel
theorem dX7_pair_1 : decode cX7_pair 1 = .ok (.getfield 28, 3) := by decide +kernel
theorem dX7_pair_4 : decode cX7_pair 4 = .ok (.iconst 0, 1) := by decide +kernel
theorem dX7_pair_5 : decode cX7_pair 5 = .ok (.iload_n 1, 1) := by decide +kernel
theorem dX7_pair_6 : decode cX7_pair 6 = .ok (.iastore, 1) := by decide +kernel
theorem dX7_pair_7 : decode cX7_pair 7 = .ok (.aload_n 0, 1) := by decide +kernel
theorem dX7_pair_8 : decode cX7_pair 8 = .ok (.getfield 34, 3) := by decide +kernel
theorem dX7_pair_11 : decode cX7_pair 11 = .ok (.iconst 0, 1) := by decide +kernel
theorem dX7_pair_12 : decode cX7_pair 12 = .ok (.lconst 0, 1) := by decide +kernel
theorem dX7_pair_13 : decode cX7_pair 13 = .ok (.lastore, 1) := by decide +kernel
theorem dX7_pair_14 : decode cX7_pair 14 = .ok (.iconst 0, 1) := by decide +kernel
theorem dX7_pair_15 : decode cX7_pair 15 = .ok (.istore_n 2, 1) := by decide +kernel
theorem dX7_pair_16 : decode cX7_pair 16 = .ok (.iload_n 2, 1) := by decide +kernel
theorem dX7_pair_17 : decode cX7_pair 17 = .ok (.aload_n 0, 1) := by decide +kernel
theorem dX7_pair_18 : decode cX7_pair 18 = .ok (.getfield 48, 3) := by decide +kernel
theorem dX7_pair_21 : decode cX7_pair 21 = .ok (.if_icmp .gt 25, 3) := by decide +kernel
theorem dX7_pair_24 : decode cX7_pair 24 = .ok (.aload_n 0, 1) := by decide +kernel
theorem dX7_pair_25 : decode cX7_pair 25 = .ok (.getfield 37, 3) := by decide +kernel
theorem dX7_pair_28 : decode cX7_pair 28 = .ok (.iload_n 2, 1) := by decide +kernel
theorem dX7_pair_29 : decode cX7_pair 29 = .ok (.ldc2_w 110, 3) := by decide +kernel
theorem dX7_pair_32 : decode cX7_pair 32 = .ok (.lastore, 1) := by decide +kernel
theorem dX7_pair_33 : decode cX7_pair 33 = .ok (.aload_n 0, 1) := by decide +kernel
theorem dX7_pair_34 : decode cX7_pair 34 = .ok (.getfield 40, 3) := by decide +kernel
theorem dX7_pair_37 : decode cX7_pair 37 = .ok (.iload_n 2, 1) := by decide +kernel
theorem dX7_pair_38 : decode cX7_pair 38 = .ok (.iconst 0, 1) := by decide +kernel
theorem dX7_pair_39 : decode cX7_pair 39 = .ok (.bastore, 1) := by decide +kernel
theorem dX7_pair_40 : decode cX7_pair 40 = .ok (.iinc 2 1, 3) := by decide +kernel
theorem dX7_pair_43 : decode cX7_pair 43 = .ok (.goto (-27), 3) := by decide +kernel
theorem dX7_pair_46 : decode cX7_pair 46 = .ok (.iconst 0, 1) := by decide +kernel
theorem dX7_pair_47 : decode cX7_pair 47 = .ok (.istore_n 2, 1) := by decide +kernel
theorem dX7_pair_48 : decode cX7_pair 48 = .ok (.iconst 0, 1) := by decide +kernel
theorem dX7_pair_49 : decode cX7_pair 49 = .ok (.istore_n 3, 1) := by decide +kernel
theorem dX7_pair_50 : decode cX7_pair 50 = .ok (.iload_n 3, 1) := by decide +kernel
theorem dX7_pair_51 : decode cX7_pair 51 = .ok (.aload_n 0, 1) := by decide +kernel
theorem dX7_pair_52 : decode cX7_pair 52 = .ok (.getfield 44, 3) := by decide +kernel
theorem dX7_pair_55 : decode cX7_pair 55 = .ok (.if_icmp .gt 24, 3) := by decide +kernel
theorem dX7_pair_58 : decode cX7_pair 58 = .ok (.aload_n 0, 1) := by decide +kernel
theorem dX7_pair_59 : decode cX7_pair 59 = .ok (.getfield 28, 3) := by decide +kernel
theorem dX7_pair_62 : decode cX7_pair 62 = .ok (.iload_n 2, 1) := by decide +kernel
theorem dX7_pair_63 : decode cX7_pair 63 = .ok (.iaload, 1) := by decide +kernel
theorem dX7_pair_64 : decode cX7_pair 64 = .ok (.ifCond .eq 15, 3) := by decide +kernel
theorem dX7_pair_67 : decode cX7_pair 67 = .ok (.aload_n 0, 1) := by decide +kernel
theorem dX7_pair_68 : decode cX7_pair 68 = .ok (.iload_n 2, 1) := by decide +kernel
theorem dX7_pair_69 : decode cX7_pair 69 = .ok (.invokevirtual 112, 3) := by decide +kernel
theorem dX7_pair_72 : decode cX7_pair 72 = .ok (.istore_n 2, 1) := by decide +kernel
theorem dX7_pair_73 : decode cX7_pair 73 = .ok (.iinc 3 1, 3) := by decide +kernel
theorem dX7_pair_76 : decode cX7_pair 76 = .ok (.goto (-26), 3) := by decide +kernel
theorem dX7_pair_79 : decode cX7_pair 79 = .ok (.iconst 0, 1) := by decide +kernel
theorem dX7_pair_80 : decode cX7_pair 80 = .ok (.istore_n 3, 1) := by decide +kernel
theorem dX7_pair_81 : decode cX7_pair 81 = .ok (.iload_n 3, 1) := by decide +kernel
theorem dX7_pair_82 : decode cX7_pair 82 = .ok (.aload_n 0, 1) := by decide +kernel
theorem dX7_pair_83 : decode cX7_pair 83 = .ok (.getfield 44, 3) := by decide +kernel
theorem dX7_pair_86 : decode cX7_pair 86 = .ok (.if_icmp .gt 37, 3) := by decide +kernel
theorem dX7_pair_89 : decode cX7_pair 89 = .ok (.iload_n 2, 1) := by decide +kernel
theorem dX7_pair_90 : decode cX7_pair 90 = .ok (.ifCond .eq 33, 3) := by decide +kernel
theorem dX7_pair_93 : decode cX7_pair 93 = .ok (.aload_n 0, 1) := by decide +kernel
theorem dX7_pair_94 : decode cX7_pair 94 = .ok (.getfield 31, 3) := by decide +kernel
theorem dX7_pair_97 : decode cX7_pair 97 = .ok (.iload_n 2, 1) := by decide +kernel
theorem dX7_pair_98 : decode cX7_pair 98 = .ok (.iaload, 1) := by decide +kernel
theorem dX7_pair_99 : decode cX7_pair 99 = .ok (.istore 4, 2) := by decide +kernel
theorem dX7_pair_101 : decode cX7_pair 101 = .ok (.aload_n 0, 1) := by decide +kernel
theorem dX7_pair_102 : decode cX7_pair 102 = .ok (.getfield 28, 3) := by decide +kernel
theorem dX7_pair_105 : decode cX7_pair 105 = .ok (.iload_n 2, 1) := by decide +kernel
theorem dX7_pair_106 : decode cX7_pair 106 = .ok (.aload_n 0, 1) := by decide +kernel
theorem dX7_pair_107 : decode cX7_pair 107 = .ok (.getfield 28, 3) := by decide +kernel
theorem dX7_pair_110 : decode cX7_pair 110 = .ok (.iload 4, 2) := by decide +kernel
theorem dX7_pair_112 : decode cX7_pair 112 = .ok (.iaload, 1) := by decide +kernel
theorem dX7_pair_113 : decode cX7_pair 113 = .ok (.iastore, 1) := by decide +kernel
theorem dX7_pair_114 : decode cX7_pair 114 = .ok (.iload 4, 2) := by decide +kernel
theorem dX7_pair_116 : decode cX7_pair 116 = .ok (.istore_n 2, 1) := by decide +kernel
theorem dX7_pair_117 : decode cX7_pair 117 = .ok (.iinc 3 1, 3) := by decide +kernel
theorem dX7_pair_120 : decode cX7_pair 120 = .ok (.goto (-39), 3) := by decide +kernel
theorem dX7_pair_123 : decode cX7_pair 123 = .ok (.return_, 1) := by decide +kernel
theorem dX7_reachFrom_0 : decode cX7_reachFrom 0 = .ok (.aload_n 0, 1) := by decide +kernel
theorem dX7_reachFrom_1 : decode cX7_reachFrom 1 = .ok (.getfield 40, 3) := by decide +kernel
theorem dX7_reachFrom_4 : decode cX7_reachFrom 4 = .ok (.iload_n 1, 1) := by decide +kernel
theorem dX7_reachFrom_5 : decode cX7_reachFrom 5 = .ok (.iconst 1, 1) := by decide +kernel
theorem dX7_reachFrom_6 : decode cX7_reachFrom 6 = .ok (.bastore, 1) := by decide +kernel
theorem dX7_reachFrom_7 : decode cX7_reachFrom 7 = .ok (.aload_n 0, 1) := by decide +kernel
theorem dX7_reachFrom_8 : decode cX7_reachFrom 8 = .ok (.getfield 28, 3) := by decide +kernel
theorem dX7_reachFrom_11 : decode cX7_reachFrom 11 = .ok (.iload_n 1, 1) := by decide +kernel
theorem dX7_reachFrom_12 : decode cX7_reachFrom 12 = .ok (.iaload, 1) := by decide +kernel
theorem dX7_reachFrom_13 : decode cX7_reachFrom 13 = .ok (.istore_n 2, 1) := by decide +kernel
theorem dX7_reachFrom_14 : decode cX7_reachFrom 14 = .ok (.iconst 0, 1) := by decide +kernel
theorem dX7_reachFrom_15 : decode cX7_reachFrom 15 = .ok (.istore_n 3, 1) := by decide +kernel
theorem dX7_reachFrom_16 : decode cX7_reachFrom 16 = .ok (.ldc2_w 110, 3) := by decide +kernel
theorem dX7_reachFrom_19 : decode cX7_reachFrom 19 = .ok (.lstore 4, 2) := by decide +kernel
theorem dX7_reachFrom_21 : decode cX7_reachFrom 21 = .ok (.iconst 1, 1) := by decide +kernel
theorem dX7_reachFrom_22 : decode cX7_reachFrom 22 = .ok (.istore 6, 2) := by decide +kernel
theorem dX7_reachFrom_24 : decode cX7_reachFrom 24 = .ok (.iload 6, 2) := by decide +kernel
theorem dX7_reachFrom_26 : decode cX7_reachFrom 26 = .ok (.aload_n 0, 1) := by decide +kernel
theorem dX7_reachFrom_27 : decode cX7_reachFrom 27 = .ok (.getfield 48, 3) := by decide +kernel
theorem dX7_reachFrom_30 : decode cX7_reachFrom 30 = .ok (.if_icmp .gt 112, 3) := by decide +kernel
theorem dX7_reachFrom_33 : decode cX7_reachFrom 33 = .ok (.aload_n 0, 1) := by decide +kernel
theorem dX7_reachFrom_34 : decode cX7_reachFrom 34 = .ok (.getfield 40, 3) := by decide +kernel
theorem dX7_reachFrom_37 : decode cX7_reachFrom 37 = .ok (.iload 6, 2) := by decide +kernel
theorem dX7_reachFrom_39 : decode cX7_reachFrom 39 = .ok (.baload, 1) := by decide +kernel
theorem dX7_reachFrom_40 : decode cX7_reachFrom 40 = .ok (.ifCond .ne 96, 3) := by decide +kernel
theorem dX7_reachFrom_43 : decode cX7_reachFrom 43 = .ok (.aload_n 0, 1) := by decide +kernel
theorem dX7_reachFrom_44 : decode cX7_reachFrom 44 = .ok (.getfield 18, 3) := by decide +kernel
theorem dX7_reachFrom_47 : decode cX7_reachFrom 47 = .ok (.iload_n 2, 1) := by decide +kernel
theorem dX7_reachFrom_48 : decode cX7_reachFrom 48 = .ok (.bipush 6, 2) := by decide +kernel
theorem dX7_reachFrom_50 : decode cX7_reachFrom 50 = .ok (.imul, 1) := by decide +kernel
theorem dX7_reachFrom_51 : decode cX7_reachFrom 51 = .ok (.aload_n 0, 1) := by decide +kernel
theorem dX7_reachFrom_52 : decode cX7_reachFrom 52 = .ok (.getfield 25, 3) := by decide +kernel
theorem dX7_reachFrom_55 : decode cX7_reachFrom 55 = .ok (.iload 6, 2) := by decide +kernel
theorem dX7_reachFrom_57 : decode cX7_reachFrom 57 = .ok (.iaload, 1) := by decide +kernel
theorem dX7_reachFrom_58 : decode cX7_reachFrom 58 = .ok (.iadd, 1) := by decide +kernel
theorem dX7_reachFrom_59 : decode cX7_reachFrom 59 = .ok (.laload, 1) := by decide +kernel
theorem dX7_reachFrom_60 : decode cX7_reachFrom 60 = .ok (.lstore 7, 2) := by decide +kernel
theorem dX7_reachFrom_62 : decode cX7_reachFrom 62 = .ok (.lload 7, 2) := by decide +kernel
theorem dX7_reachFrom_64 : decode cX7_reachFrom 64 = .ok (.aload_n 0, 1) := by decide +kernel
theorem dX7_reachFrom_65 : decode cX7_reachFrom 65 = .ok (.getfield 22, 3) := by decide +kernel
theorem dX7_reachFrom_68 : decode cX7_reachFrom 68 = .ok (.iload_n 2, 1) := by decide +kernel
theorem dX7_reachFrom_69 : decode cX7_reachFrom 69 = .ok (.laload, 1) := by decide +kernel
theorem dX7_reachFrom_70 : decode cX7_reachFrom 70 = .ok (.lsub, 1) := by decide +kernel
theorem dX7_reachFrom_71 : decode cX7_reachFrom 71 = .ok (.aload_n 0, 1) := by decide +kernel
theorem dX7_reachFrom_72 : decode cX7_reachFrom 72 = .ok (.getfield 34, 3) := by decide +kernel
theorem dX7_reachFrom_75 : decode cX7_reachFrom 75 = .ok (.iload 6, 2) := by decide +kernel
theorem dX7_reachFrom_77 : decode cX7_reachFrom 77 = .ok (.laload, 1) := by decide +kernel
theorem dX7_reachFrom_78 : decode cX7_reachFrom 78 = .ok (.lsub, 1) := by decide +kernel
theorem dX7_reachFrom_79 : decode cX7_reachFrom 79 = .ok (.lstore 9, 2) := by decide +kernel
theorem dX7_reachFrom_81 : decode cX7_reachFrom 81 = .ok (.lload 9, 2) := by decide +kernel
theorem dX7_reachFrom_83 : decode cX7_reachFrom 83 = .ok (.aload_n 0, 1) := by decide +kernel
theorem dX7_reachFrom_84 : decode cX7_reachFrom 84 = .ok (.getfield 37, 3) := by decide +kernel
theorem dX7_reachFrom_87 : decode cX7_reachFrom 87 = .ok (.iload 6, 2) := by decide +kernel
theorem dX7_reachFrom_89 : decode cX7_reachFrom 89 = .ok (.laload, 1) := by decide +kernel
theorem dX7_reachFrom_90 : decode cX7_reachFrom 90 = .ok (.lcmp, 1) := by decide +kernel
theorem dX7_reachFrom_91 : decode cX7_reachFrom 91 = .ok (.ifCond .ge 20, 3) := by decide +kernel
theorem dX7_reachFrom_94 : decode cX7_reachFrom 94 = .ok (.aload_n 0, 1) := by decide +kernel
theorem dX7_reachFrom_95 : decode cX7_reachFrom 95 = .ok (.getfield 37, 3) := by decide +kernel
theorem dX7_reachFrom_98 : decode cX7_reachFrom 98 = .ok (.iload 6, 2) := by decide +kernel
theorem dX7_reachFrom_100 : decode cX7_reachFrom 100 = .ok (.lload 9, 2) := by decide +kernel
theorem dX7_reachFrom_102 : decode cX7_reachFrom 102 = .ok (.lastore, 1) := by decide +kernel
theorem dX7_reachFrom_103 : decode cX7_reachFrom 103 = .ok (.aload_n 0, 1) := by decide +kernel
theorem dX7_reachFrom_104 : decode cX7_reachFrom 104 = .ok (.getfield 31, 3) := by decide +kernel
theorem dX7_reachFrom_107 : decode cX7_reachFrom 107 = .ok (.iload 6, 2) := by decide +kernel
theorem dX7_reachFrom_109 : decode cX7_reachFrom 109 = .ok (.iload_n 1, 1) := by decide +kernel
theorem dX7_reachFrom_110 : decode cX7_reachFrom 110 = .ok (.iastore, 1) := by decide +kernel
theorem dX7_reachFrom_111 : decode cX7_reachFrom 111 = .ok (.aload_n 0, 1) := by decide +kernel
theorem dX7_reachFrom_112 : decode cX7_reachFrom 112 = .ok (.getfield 37, 3) := by decide +kernel
theorem dX7_reachFrom_115 : decode cX7_reachFrom 115 = .ok (.iload 6, 2) := by decide +kernel
theorem dX7_reachFrom_117 : decode cX7_reachFrom 117 = .ok (.laload, 1) := by decide +kernel
theorem dX7_reachFrom_118 : decode cX7_reachFrom 118 = .ok (.lload 4, 2) := by decide +kernel
theorem dX7_reachFrom_120 : decode cX7_reachFrom 120 = .ok (.lcmp, 1) := by decide +kernel
theorem dX7_reachFrom_121 : decode cX7_reachFrom 121 = .ok (.ifCond .ge 15, 3) := by decide +kernel
theorem dX7_reachFrom_124 : decode cX7_reachFrom 124 = .ok (.aload_n 0, 1) := by decide +kernel
theorem dX7_reachFrom_125 : decode cX7_reachFrom 125 = .ok (.getfield 37, 3) := by decide +kernel
theorem dX7_reachFrom_128 : decode cX7_reachFrom 128 = .ok (.iload 6, 2) := by decide +kernel
theorem dX7_reachFrom_130 : decode cX7_reachFrom 130 = .ok (.laload, 1) := by decide +kernel
theorem dX7_reachFrom_131 : decode cX7_reachFrom 131 = .ok (.lstore 4, 2) := by decide +kernel
theorem dX7_reachFrom_133 : decode cX7_reachFrom 133 = .ok (.iload 6, 2) := by decide +kernel
theorem dX7_reachFrom_135 : decode cX7_reachFrom 135 = .ok (.istore_n 3, 1) := by decide +kernel
theorem dX7_reachFrom_136 : decode cX7_reachFrom 136 = .ok (.iinc 6 1, 3) := by decide +kernel
theorem dX7_reachFrom_139 : decode cX7_reachFrom 139 = .ok (.goto (-115), 3) := by decide +kernel
theorem dX7_reachFrom_142 : decode cX7_reachFrom 142 = .ok (.iconst 0, 1) := by decide +kernel
theorem dX7_reachFrom_143 : decode cX7_reachFrom 143 = .ok (.istore 6, 2) := by decide +kernel
theorem dX7_reachFrom_145 : decode cX7_reachFrom 145 = .ok (.iload 6, 2) := by decide +kernel
theorem dX7_reachFrom_147 : decode cX7_reachFrom 147 = .ok (.aload_n 0, 1) := by decide +kernel
theorem dX7_reachFrom_148 : decode cX7_reachFrom 148 = .ok (.getfield 48, 3) := by decide +kernel
theorem dX7_reachFrom_151 : decode cX7_reachFrom 151 = .ok (.if_icmp .gt 63, 3) := by decide +kernel
theorem dX7_reachFrom_154 : decode cX7_reachFrom 154 = .ok (.aload_n 0, 1) := by decide +kernel
theorem dX7_reachFrom_155 : decode cX7_reachFrom 155 = .ok (.getfield 40, 3) := by decide +kernel
theorem dX7_reachFrom_158 : decode cX7_reachFrom 158 = .ok (.iload 6, 2) := by decide +kernel
theorem dX7_reachFrom_160 : decode cX7_reachFrom 160 = .ok (.baload, 1) := by decide +kernel
theorem dX7_reachFrom_161 : decode cX7_reachFrom 161 = .ok (.ifCond .eq 35, 3) := by decide +kernel
theorem dX7_reachFrom_164 : decode cX7_reachFrom 164 = .ok (.aload_n 0, 1) := by decide +kernel
theorem dX7_reachFrom_165 : decode cX7_reachFrom 165 = .ok (.getfield 22, 3) := by decide +kernel
theorem dX7_reachFrom_168 : decode cX7_reachFrom 168 = .ok (.aload_n 0, 1) := by decide +kernel
theorem dX7_reachFrom_169 : decode cX7_reachFrom 169 = .ok (.getfield 28, 3) := by decide +kernel
theorem dX7_reachFrom_172 : decode cX7_reachFrom 172 = .ok (.iload 6, 2) := by decide +kernel
theorem dX7_reachFrom_174 : decode cX7_reachFrom 174 = .ok (.iaload, 1) := by decide +kernel
theorem dX7_reachFrom_175 : decode cX7_reachFrom 175 = .ok (.dup2, 1) := by decide +kernel
theorem dX7_reachFrom_176 : decode cX7_reachFrom 176 = .ok (.laload, 1) := by decide +kernel
theorem dX7_reachFrom_177 : decode cX7_reachFrom 177 = .ok (.lload 4, 2) := by decide +kernel
theorem dX7_reachFrom_179 : decode cX7_reachFrom 179 = .ok (.ladd, 1) := by decide +kernel
theorem dX7_reachFrom_180 : decode cX7_reachFrom 180 = .ok (.lastore, 1) := by decide +kernel
theorem dX7_reachFrom_181 : decode cX7_reachFrom 181 = .ok (.aload_n 0, 1) := by decide +kernel
theorem dX7_reachFrom_182 : decode cX7_reachFrom 182 = .ok (.getfield 34, 3) := by decide +kernel
theorem dX7_reachFrom_185 : decode cX7_reachFrom 185 = .ok (.iload 6, 2) := by decide +kernel
theorem dX7_reachFrom_187 : decode cX7_reachFrom 187 = .ok (.dup2, 1) := by decide +kernel
theorem dX7_reachFrom_188 : decode cX7_reachFrom 188 = .ok (.laload, 1) := by decide +kernel
theorem dX7_reachFrom_189 : decode cX7_reachFrom 189 = .ok (.lload 4, 2) := by decide +kernel
theorem dX7_reachFrom_191 : decode cX7_reachFrom 191 = .ok (.lsub, 1) := by decide +kernel
theorem dX7_reachFrom_192 : decode cX7_reachFrom 192 = .ok (.lastore, 1) := by decide +kernel
theorem dX7_reachFrom_193 : decode cX7_reachFrom 193 = .ok (.goto 15, 3) := by decide +kernel
theorem dX7_reachFrom_196 : decode cX7_reachFrom 196 = .ok (.aload_n 0, 1) := by decide +kernel
theorem dX7_reachFrom_197 : decode cX7_reachFrom 197 = .ok (.getfield 37, 3) := by decide +kernel
theorem dX7_reachFrom_200 : decode cX7_reachFrom 200 = .ok (.iload 6, 2) := by decide +kernel
theorem dX7_reachFrom_202 : decode cX7_reachFrom 202 = .ok (.dup2, 1) := by decide +kernel
theorem dX7_reachFrom_203 : decode cX7_reachFrom 203 = .ok (.laload, 1) := by decide +kernel
theorem dX7_reachFrom_204 : decode cX7_reachFrom 204 = .ok (.lload 4, 2) := by decide +kernel
theorem dX7_reachFrom_206 : decode cX7_reachFrom 206 = .ok (.lsub, 1) := by decide +kernel
theorem dX7_reachFrom_207 : decode cX7_reachFrom 207 = .ok (.lastore, 1) := by decide +kernel
theorem dX7_reachFrom_208 : decode cX7_reachFrom 208 = .ok (.iinc 6 1, 3) := by decide +kernel
theorem dX7_reachFrom_211 : decode cX7_reachFrom 211 = .ok (.goto (-66), 3) := by decide +kernel
theorem dX7_reachFrom_214 : decode cX7_reachFrom 214 = .ok (.iload_n 3, 1) := by decide +kernel
theorem dX7_reachFrom_215 : decode cX7_reachFrom 215 = .ok (.ireturn, 1) := by decide +kernel
theorem dX8_init_0 : decode cX8_init 0 = .ok (.aload_n 0, 1) := by decide +kernel
theorem dX8_init_1 : decode cX8_init 1 = .ok (.invokespecial 3, 3) := by decide +kernel
theorem dX8_init_4 : decode cX8_init 4 = .ok (.aload_n 0, 1) := by decide +kernel
theorem dX8_init_5 : decode cX8_init 5 = .ok (.bipush 64, 2) := by decide +kernel
theorem dX8_init_7 : decode cX8_init 7 = .ok (.newarray .int, 2) := by decide +kernel
theorem dX8_init_9 : decode cX8_init 9 = .ok (.putfield 11, 3) := by decide +kernel
theorem dX8_init_12 : decode cX8_init 12 = .ok (.aload_n 0, 1) := by decide +kernel
theorem dX8_init_13 : decode cX8_init 13 = .ok (.iconst 0, 1) := by decide +kernel
theorem dX8_init_14 : decode cX8_init 14 = .ok (.putfield 15, 3) := by decide +kernel
theorem dX8_init_17 : decode cX8_init 17 = .ok (.return_, 1) := by decide +kernel
theorem dX8_work_0 : decode cX8_work 0 = .ok (.iconst 0, 1) := by decide +kernel
theorem dX8_work_1 : decode cX8_work 1 = .ok (.aload_n 1, 1) := by decide +kernel
theorem dX8_work_2 : decode cX8_work 2 = .ok (.iload_n 2, 1) := by decide +kernel
theorem dX8_work_3 : decode cX8_work 3 = .ok (.iload_n 3, 1) := by decide +kernel
theorem dX8_work_4 : decode cX8_work 4 = .ok (.invokevirtual 19, 3) := by decide +kernel
theorem dX8_work_7 : decode cX8_work 7 = .ok (.invokestatic 25, 3) := by decide +kernel
theorem dX8_work_10 : decode cX8_work 10 = .ok (.istore 5, 2) := by decide +kernel
theorem dX8_work_12 : decode cX8_work 12 = .ok (.aload_n 1, 1) := by decide +kernel
theorem dX8_work_13 : decode cX8_work 13 = .ok (.getfield 30, 3) := by decide +kernel
theorem dX8_work_16 : decode cX8_work 16 = .ok (.aload_n 1, 1) := by decide +kernel
theorem dX8_work_17 : decode cX8_work 17 = .ok (.iload_n 2, 1) := by decide +kernel
theorem dX8_work_18 : decode cX8_work 18 = .ok (.iload_n 3, 1) := by decide +kernel
theorem dX8_work_19 : decode cX8_work 19 = .ok (.iconst 1, 1) := by decide +kernel
theorem dX8_work_20 : decode cX8_work 20 = .ok (.iadd, 1) := by decide +kernel
theorem dX8_work_21 : decode cX8_work 21 = .ok (.invokevirtual 19, 3) := by decide +kernel
theorem dX8_work_24 : decode cX8_work 24 = .ok (.invokestatic 34, 3) := by decide +kernel
theorem dX8_work_27 : decode cX8_work 27 = .ok (.istore 6, 2) := by decide +kernel
theorem dX8_work_29 : decode cX8_work 29 = .ok (.iconst 0, 1) := by decide +kernel
theorem dX8_work_30 : decode cX8_work 30 = .ok (.istore 7, 2) := by decide +kernel
theorem dX8_work_32 : decode cX8_work 32 = .ok (.iload 5, 2) := by decide +kernel
theorem dX8_work_34 : decode cX8_work 34 = .ok (.istore 8, 2) := by decide +kernel
theorem dX8_work_36 : decode cX8_work 36 = .ok (.aload_n 0, 1) := by decide +kernel
theorem dX8_work_37 : decode cX8_work 37 = .ok (.iconst 0, 1) := by decide +kernel
theorem dX8_work_38 : decode cX8_work 38 = .ok (.putfield 15, 3) := by decide +kernel
theorem dX8_work_41 : decode cX8_work 41 = .ok (.iload 5, 2) := by decide +kernel
theorem dX8_work_43 : decode cX8_work 43 = .ok (.istore 9, 2) := by decide +kernel
theorem dX8_work_45 : decode cX8_work 45 = .ok (.iload 9, 2) := by decide +kernel
theorem dX8_work_47 : decode cX8_work 47 = .ok (.iload 6, 2) := by decide +kernel
theorem dX8_work_49 : decode cX8_work 49 = .ok (.if_icmp .ge 259, 3) := by decide +kernel
theorem dX8_work_52 : decode cX8_work 52 = .ok (.aload_n 0, 1) := by decide +kernel
theorem dX8_work_53 : decode cX8_work 53 = .ok (.getfield 15, 3) := by decide +kernel
theorem dX8_work_56 : decode cX8_work 56 = .ok (.ifCond .ne 252, 3) := by decide +kernel
theorem dX8_work_59 : decode cX8_work 59 = .ok (.iload 9, 2) := by decide +kernel
theorem dX8_work_61 : decode cX8_work 61 = .ok (.iload 8, 2) := by decide +kernel
theorem dX8_work_63 : decode cX8_work 63 = .ok (.if_icmp .ge 6, 3) := by decide +kernel
theorem dX8_work_66 : decode cX8_work 66 = .ok (.goto 236, 3) := by decide +kernel
theorem dX8_work_69 : decode cX8_work 69 = .ok (.aload_n 1, 1) := by decide +kernel
theorem dX8_work_70 : decode cX8_work 70 = .ok (.getfield 37, 3) := by decide +kernel
theorem dX8_work_73 : decode cX8_work 73 = .ok (.iload 9, 2) := by decide +kernel
theorem dX8_work_75 : decode cX8_work 75 = .ok (.iaload, 1) := by decide +kernel
theorem dX8_work_76 : decode cX8_work 76 = .ok (.bipush 15, 2) := by decide +kernel
theorem dX8_work_78 : decode cX8_work 78 = .ok (.iand, 1) := by decide +kernel
theorem dX8_work_79 : decode cX8_work 79 = .ok (.istore 10, 2) := by decide +kernel
theorem dX8_work_81 : decode cX8_work 81 = .ok (.aload_n 1, 1) := by decide +kernel
theorem dX8_work_82 : decode cX8_work 82 = .ok (.getfield 37, 3) := by decide +kernel
theorem dX8_work_85 : decode cX8_work 85 = .ok (.iload 9, 2) := by decide +kernel
theorem dX8_work_87 : decode cX8_work 87 = .ok (.iaload, 1) := by decide +kernel
theorem dX8_work_88 : decode cX8_work 88 = .ok (.iconst 4, 1) := by decide +kernel
theorem dX8_work_89 : decode cX8_work 89 = .ok (.ishr, 1) := by decide +kernel
theorem dX8_work_90 : decode cX8_work 90 = .ok (.istore 11, 2) := by decide +kernel
theorem dX8_work_92 : decode cX8_work 92 = .ok (.iload 7, 2) := by decide +kernel
theorem dX8_work_94 : decode cX8_work 94 = .ok (.iload 10, 2) := by decide +kernel
theorem dX8_work_96 : decode cX8_work 96 = .ok (.invokestatic 40, 3) := by decide +kernel
theorem dX8_work_99 : decode cX8_work 99 = .ok (.if_icmp .lt 13, 3) := by decide +kernel
theorem dX8_work_102 : decode cX8_work 102 = .ok (.iload 7, 2) := by decide +kernel
theorem dX8_work_104 : decode cX8_work 104 = .ok (.aload_n 0, 1) := by decide +kernel
theorem dX8_work_105 : decode cX8_work 105 = .ok (.getfield 11, 3) := by decide +kernel
theorem dX8_work_108 : decode cX8_work 108 = .ok (.arraylength, 1) := by decide +kernel
theorem dX8_work_109 : decode cX8_work 109 = .ok (.if_icmp .lt 11, 3) := by decide +kernel
theorem dX8_work_112 : decode cX8_work 112 = .ok (.aload_n 0, 1) := by decide +kernel
theorem dX8_work_113 : decode cX8_work 113 = .ok (.iconst 1, 1) := by decide +kernel
theorem dX8_work_114 : decode cX8_work 114 = .ok (.putfield 15, 3) := by decide +kernel
theorem dX8_work_117 : decode cX8_work 117 = .ok (.goto 185, 3) := by decide +kernel
theorem dX8_work_120 : decode cX8_work 120 = .ok (.iload 10, 2) := by decide +kernel
theorem dX8_work_122 : decode cX8_work 122 = .ok (.ifCond .ne 18, 3) := by decide +kernel
theorem dX8_work_125 : decode cX8_work 125 = .ok (.aload_n 0, 1) := by decide +kernel
theorem dX8_work_126 : decode cX8_work 126 = .ok (.getfield 11, 3) := by decide +kernel
theorem dX8_work_129 : decode cX8_work 129 = .ok (.iload 7, 2) := by decide +kernel
theorem dX8_work_131 : decode cX8_work 131 = .ok (.iload 11, 2) := by decide +kernel
theorem dX8_work_133 : decode cX8_work 133 = .ok (.iastore, 1) := by decide +kernel
theorem dX8_work_134 : decode cX8_work 134 = .ok (.iinc 7 1, 3) := by decide +kernel
theorem dX8_work_137 : decode cX8_work 137 = .ok (.goto 165, 3) := by decide +kernel
theorem dX8_work_140 : decode cX8_work 140 = .ok (.iload 10, 2) := by decide +kernel
theorem dX8_work_142 : decode cX8_work 142 = .ok (.iconst 1, 1) := by decide +kernel
theorem dX8_work_143 : decode cX8_work 143 = .ok (.if_icmp .ne 38, 3) := by decide +kernel
theorem dX8_work_146 : decode cX8_work 146 = .ok (.aload_n 0, 1) := by decide +kernel
theorem dX8_work_147 : decode cX8_work 147 = .ok (.getfield 11, 3) := by decide +kernel
theorem dX8_work_150 : decode cX8_work 150 = .ok (.iload 7, 2) := by decide +kernel
theorem dX8_work_152 : decode cX8_work 152 = .ok (.iload 11, 2) := by decide +kernel
theorem dX8_work_154 : decode cX8_work 154 = .ok (.ifCond .lt 19, 3) := by decide +kernel
theorem dX8_work_157 : decode cX8_work 157 = .ok (.iload 11, 2) := by decide +kernel
theorem dX8_work_159 : decode cX8_work 159 = .ok (.aload 4, 2) := by decide +kernel
theorem dX8_work_161 : decode cX8_work 161 = .ok (.arraylength, 1) := by decide +kernel
theorem dX8_work_162 : decode cX8_work 162 = .ok (.if_icmp .ge 11, 3) := by decide +kernel
theorem dX8_work_165 : decode cX8_work 165 = .ok (.aload 4, 2) := by decide +kernel
theorem dX8_work_167 : decode cX8_work 167 = .ok (.iload 11, 2) := by decide +kernel
theorem dX8_work_169 : decode cX8_work 169 = .ok (.iaload, 1) := by decide +kernel
theorem dX8_work_170 : decode cX8_work 170 = .ok (.goto 4, 3) := by decide +kernel
theorem dX8_work_173 : decode cX8_work 173 = .ok (.iconst (-1), 1) := by decide +kernel
theorem dX8_work_174 : decode cX8_work 174 = .ok (.iastore, 1) := by decide +kernel
theorem dX8_work_175 : decode cX8_work 175 = .ok (.iinc 7 1, 3) := by decide +kernel
theorem dX8_work_178 : decode cX8_work 178 = .ok (.goto 124, 3) := by decide +kernel
theorem dX8_work_181 : decode cX8_work 181 = .ok (.iload 10, 2) := by decide +kernel
theorem dX8_work_183 : decode cX8_work 183 = .ok (.iconst 2, 1) := by decide +kernel
theorem dX8_work_184 : decode cX8_work 184 = .ok (.if_icmp .ne 33, 3) := by decide +kernel
theorem dX8_work_187 : decode cX8_work 187 = .ok (.aload_n 0, 1) := by decide +kernel
theorem dX8_work_188 : decode cX8_work 188 = .ok (.getfield 11, 3) := by decide +kernel
theorem dX8_work_191 : decode cX8_work 191 = .ok (.iload 7, 2) := by decide +kernel
theorem dX8_work_193 : decode cX8_work 193 = .ok (.iconst 1, 1) := by decide +kernel
theorem dX8_work_194 : decode cX8_work 194 = .ok (.isub, 1) := by decide +kernel
theorem dX8_work_195 : decode cX8_work 195 = .ok (.aload_n 0, 1) := by decide +kernel
theorem dX8_work_196 : decode cX8_work 196 = .ok (.getfield 11, 3) := by decide +kernel
theorem dX8_work_199 : decode cX8_work 199 = .ok (.iload 7, 2) := by decide +kernel
theorem dX8_work_201 : decode cX8_work 201 = .ok (.iconst 1, 1) := by decide +kernel
theorem dX8_work_202 : decode cX8_work 202 = .ok (.isub, 1) := by decide +kernel
theorem dX8_work_203 : decode cX8_work 203 = .ok (.iaload, 1) := by decide +kernel
theorem dX8_work_204 : decode cX8_work 204 = .ok (.iconst 1, 1) := by decide +kernel
theorem dX8_work_205 : decode cX8_work 205 = .ok (.if_icmp .ne 7, 3) := by decide +kernel
theorem dX8_work_208 : decode cX8_work 208 = .ok (.iconst 0, 1) := by decide +kernel
theorem dX8_work_209 : decode cX8_work 209 = .ok (.goto 4, 3) := by decide +kernel
theorem dX8_work_212 : decode cX8_work 212 = .ok (.iconst 1, 1) := by decide +kernel
theorem dX8_work_213 : decode cX8_work 213 = .ok (.iastore, 1) := by decide +kernel
theorem dX8_work_214 : decode cX8_work 214 = .ok (.goto 88, 3) := by decide +kernel
theorem dX8_work_217 : decode cX8_work 217 = .ok (.iload 10, 2) := by decide +kernel
theorem dX8_work_219 : decode cX8_work 219 = .ok (.iconst 4, 1) := by decide +kernel
theorem dX8_work_220 : decode cX8_work 220 = .ok (.if_icmp .le 40, 3) := by decide +kernel
theorem dX8_work_223 : decode cX8_work 223 = .ok (.iinc 7 (-1), 3) := by decide +kernel
theorem dX8_work_226 : decode cX8_work 226 = .ok (.aload_n 0, 1) := by decide +kernel
theorem dX8_work_227 : decode cX8_work 227 = .ok (.getfield 11, 3) := by decide +kernel
theorem dX8_work_230 : decode cX8_work 230 = .ok (.iload 7, 2) := by decide +kernel
theorem dX8_work_232 : decode cX8_work 232 = .ok (.iconst 1, 1) := by decide +kernel
theorem dX8_work_233 : decode cX8_work 233 = .ok (.isub, 1) := by decide +kernel
theorem dX8_work_234 : decode cX8_work 234 = .ok (.aload_n 0, 1) := by decide +kernel
theorem dX8_work_235 : decode cX8_work 235 = .ok (.iload 10, 2) := by decide +kernel
theorem dX8_work_237 : decode cX8_work 237 = .ok (.aload_n 0, 1) := by decide +kernel
theorem dX8_work_238 : decode cX8_work 238 = .ok (.getfield 11, 3) := by decide +kernel
theorem dX8_work_241 : decode cX8_work 241 = .ok (.iload 7, 2) := by decide +kernel
theorem dX8_work_243 : decode cX8_work 243 = .ok (.iconst 1, 1) := by decide +kernel
theorem dX8_work_244 : decode cX8_work 244 = .ok (.isub, 1) := by decide +kernel
theorem dX8_work_245 : decode cX8_work 245 = .ok (.iaload, 1) := by decide +kernel
theorem dX8_work_246 : decode cX8_work 246 = .ok (.aload_n 0, 1) := by decide +kernel
theorem dX8_work_247 : decode cX8_work 247 = .ok (.getfield 11, 3) := by decide +kernel
theorem dX8_work_250 : decode cX8_work 250 = .ok (.iload 7, 2) := by decide +kernel
theorem dX8_work_252 : decode cX8_work 252 = .ok (.iaload, 1) := by decide +kernel
theorem dX8_work_253 : decode cX8_work 253 = .ok (.invokevirtual 44, 3) := by decide +kernel
theorem dX8_work_256 : decode cX8_work 256 = .ok (.iastore, 1) := by decide +kernel
theorem dX8_work_257 : decode cX8_work 257 = .ok (.goto 45, 3) := by decide +kernel
theorem dX8_work_260 : decode cX8_work 260 = .ok (.aload_n 0, 1) := by decide +kernel
theorem dX8_work_261 : decode cX8_work 261 = .ok (.getfield 11, 3) := by decide +kernel
theorem dX8_work_264 : decode cX8_work 264 = .ok (.iload 7, 2) := by decide +kernel
theorem dX8_work_266 : decode cX8_work 266 = .ok (.iconst 1, 1) := by decide +kernel
theorem dX8_work_267 : decode cX8_work 267 = .ok (.isub, 1) := by decide +kernel
theorem dX8_work_268 : decode cX8_work 268 = .ok (.iaload, 1) := by decide +kernel
theorem dX8_work_269 : decode cX8_work 269 = .ok (.iconst 1, 1) := by decide +kernel
theorem dX8_work_270 : decode cX8_work 270 = .ok (.if_icmp .ne 7, 3) := by decide +kernel
theorem dX8_work_273 : decode cX8_work 273 = .ok (.iconst 1, 1) := by decide +kernel
theorem dX8_work_274 : decode cX8_work 274 = .ok (.goto 4, 3) := by decide +kernel
theorem dX8_work_277 : decode cX8_work 277 = .ok (.iconst 0, 1) := by decide +kernel
theorem dX8_work_278 : decode cX8_work 278 = .ok (.iload 10, 2) := by decide +kernel
theorem dX8_work_280 : decode cX8_work 280 = .ok (.iconst 3, 1) := by decide +kernel
theorem dX8_work_281 : decode cX8_work 281 = .ok (.if_icmp .ne 7, 3) := by decide +kernel
theorem dX8_work_284 : decode cX8_work 284 = .ok (.iconst 1, 1) := by decide +kernel
theorem dX8_work_285 : decode cX8_work 285 = .ok (.goto 4, 3) := by decide +kernel
theorem dX8_work_288 : decode cX8_work 288 = .ok (.iconst 0, 1) := by decide +kernel
theorem dX8_work_289 : decode cX8_work 289 = .ok (.if_icmp .ne 10, 3) := by decide +kernel
theorem dX8_work_292 : decode cX8_work 292 = .ok (.iload 11, 2) := by decide +kernel
theorem dX8_work_294 : decode cX8_work 294 = .ok (.istore 8, 2) := by decide +kernel
theorem dX8_work_296 : decode cX8_work 296 = .ok (.goto 6, 3) := by decide +kernel
theorem dX8_work_299 : decode cX8_work 299 = .ok (.iinc 7 (-1), 3) := by decide +kernel
theorem dX8_work_302 : decode cX8_work 302 = .ok (.iinc 9 1, 3) := by decide +kernel
theorem dX8_work_305 : decode cX8_work 305 = .ok (.goto (-260), 3) := by decide +kernel
theorem dX8_work_308 : decode cX8_work 308 = .ok (.aload_n 0, 1) := by decide +kernel
theorem dX8_work_309 : decode cX8_work 309 = .ok (.getfield 15, 3) := by decide +kernel
theorem dX8_work_312 : decode cX8_work 312 = .ok (.ifCond .eq 5, 3) := by decide +kernel
theorem dX8_work_315 : decode cX8_work 315 = .ok (.iconst 0, 1) := by decide +kernel
theorem dX8_work_316 : decode cX8_work 316 = .ok (.ireturn, 1) := by decide +kernel
theorem dX8_work_317 : decode cX8_work 317 = .ok (.iload 7, 2) := by decide +kernel
theorem dX8_work_319 : decode cX8_work 319 = .ok (.ifCond .ne 7, 3) := by decide +kernel
theorem dX8_work_322 : decode cX8_work 322 = .ok (.iconst 1, 1) := by decide +kernel
theorem dX8_work_323 : decode cX8_work 323 = .ok (.goto 12, 3) := by decide +kernel
theorem dX8_work_326 : decode cX8_work 326 = .ok (.aload_n 0, 1) := by decide +kernel
theorem dX8_work_327 : decode cX8_work 327 = .ok (.getfield 11, 3) := by decide +kernel
theorem dX8_work_330 : decode cX8_work 330 = .ok (.iload 7, 2) := by decide +kernel
theorem dX8_work_332 : decode cX8_work 332 = .ok (.iconst 1, 1) := by decide +kernel
theorem dX8_work_333 : decode cX8_work 333 = .ok (.isub, 1) := by decide +kernel
theorem dX8_work_334 : decode cX8_work 334 = .ok (.iaload, 1) := by decide +kernel
theorem dX8_work_335 : decode cX8_work 335 = .ok (.ireturn, 1) := by decide +kernel
theorem dX8_needed_0 : decode cX8_needed 0 = .ok (.iload_n 0, 1) := by decide +kernel
theorem dX8_needed_1 : decode cX8_needed 1 = .ok (.iconst 1, 1) := by decide +kernel
theorem dX8_needed_2 : decode cX8_needed 2 = .ok (.if_icmp .gt 5, 3) := by decide +kernel
theorem dX8_needed_5 : decode cX8_needed 5 = .ok (.iconst 0, 1) := by decide +kernel
theorem dX8_needed_6 : decode cX8_needed 6 = .ok (.ireturn, 1) := by decide +kernel
theorem dX8_needed_7 : decode cX8_needed 7 = .ok (.iload_n 0, 1) := by decide +kernel
theorem dX8_needed_8 : decode cX8_needed 8 = .ok (.iconst 4, 1) := by decide +kernel
theorem dX8_needed_9 : decode cX8_needed 9 = .ok (.if_icmp .gt 7, 3) := by decide +kernel
theorem dX8_needed_12 : decode cX8_needed 12 = .ok (.iconst 1, 1) := by decide +kernel
theorem dX8_needed_13 : decode cX8_needed 13 = .ok (.goto 4, 3) := by decide +kernel
theorem dX8_needed_16 : decode cX8_needed 16 = .ok (.iconst 2, 1) := by decide +kernel
theorem dX8_needed_17 : decode cX8_needed 17 = .ok (.ireturn, 1) := by decide +kernel
theorem dX8_joined_0 : decode cX8_joined 0 = .ok (.lconst 0, 1) := by decide +kernel
theorem dX8_joined_1 : decode cX8_joined 1 = .ok (.lstore 4, 2) := by decide +kernel
theorem dX8_joined_3 : decode cX8_joined 3 = .ok (.iload_n 1, 1) := by decide +kernel
theorem dX8_joined_4 : decode cX8_joined 4 = .ok (.tableswitch 111 5 12 #[48, 58, 68, 111, 111, 78, 89, 100], 48) := by decide +kernel
theorem dX8_joined_52 : decode cX8_joined 52 = .ok (.iload_n 2, 1) := by decide +kernel
theorem dX8_joined_53 : decode cX8_joined 53 = .ok (.i2l, 1) := by decide +kernel
theorem dX8_joined_54 : decode cX8_joined 54 = .ok (.iload_n 3, 1) := by decide +kernel
theorem dX8_joined_55 : decode cX8_joined 55 = .ok (.i2l, 1) := by decide +kernel
theorem dX8_joined_56 : decode cX8_joined 56 = .ok (.ladd, 1) := by decide +kernel
theorem dX8_joined_57 : decode cX8_joined 57 = .ok (.lstore 4, 2) := by decide +kernel
theorem dX8_joined_59 : decode cX8_joined 59 = .ok (.goto 87, 3) := by decide +kernel
theorem dX8_joined_62 : decode cX8_joined 62 = .ok (.iload_n 2, 1) := by decide +kernel
theorem dX8_joined_63 : decode cX8_joined 63 = .ok (.i2l, 1) := by decide +kernel
theorem dX8_joined_64 : decode cX8_joined 64 = .ok (.iload_n 3, 1) := by decide +kernel
theorem dX8_joined_65 : decode cX8_joined 65 = .ok (.i2l, 1) := by decide +kernel
theorem dX8_joined_66 : decode cX8_joined 66 = .ok (.lsub, 1) := by decide +kernel
theorem dX8_joined_67 : decode cX8_joined 67 = .ok (.lstore 4, 2) := by decide +kernel
theorem dX8_joined_69 : decode cX8_joined 69 = .ok (.goto 77, 3) := by decide +kernel
theorem dX8_joined_72 : decode cX8_joined 72 = .ok (.iload_n 2, 1) := by decide +kernel
theorem dX8_joined_73 : decode cX8_joined 73 = .ok (.i2l, 1) := by decide +kernel
theorem dX8_joined_74 : decode cX8_joined 74 = .ok (.iload_n 3, 1) := by decide +kernel
theorem dX8_joined_75 : decode cX8_joined 75 = .ok (.i2l, 1) := by decide +kernel
theorem dX8_joined_76 : decode cX8_joined 76 = .ok (.lmul, 1) := by decide +kernel
theorem dX8_joined_77 : decode cX8_joined 77 = .ok (.lstore 4, 2) := by decide +kernel
theorem dX8_joined_79 : decode cX8_joined 79 = .ok (.goto 67, 3) := by decide +kernel
theorem dX8_joined_82 : decode cX8_joined 82 = .ok (.iload_n 2, 1) := by decide +kernel
theorem dX8_joined_83 : decode cX8_joined 83 = .ok (.iload_n 3, 1) := by decide +kernel
theorem dX8_joined_84 : decode cX8_joined 84 = .ok (.if_icmp .ge 7, 3) := by decide +kernel
theorem dX8_joined_87 : decode cX8_joined 87 = .ok (.iconst 1, 1) := by decide +kernel
theorem dX8_joined_88 : decode cX8_joined 88 = .ok (.goto 4, 3) := by decide +kernel
theorem dX8_joined_91 : decode cX8_joined 91 = .ok (.iconst 0, 1) := by decide +kernel
theorem dX8_joined_92 : decode cX8_joined 92 = .ok (.ireturn, 1) := by decide +kernel
theorem dX8_joined_93 : decode cX8_joined 93 = .ok (.iload_n 2, 1) := by decide +kernel
theorem dX8_joined_94 : decode cX8_joined 94 = .ok (.iload_n 3, 1) := by decide +kernel
theorem dX8_joined_95 : decode cX8_joined 95 = .ok (.if_icmp .le 7, 3) := by decide +kernel
theorem dX8_joined_98 : decode cX8_joined 98 = .ok (.iconst 1, 1) := by decide +kernel
theorem dX8_joined_99 : decode cX8_joined 99 = .ok (.goto 4, 3) := by decide +kernel
theorem dX8_joined_102 : decode cX8_joined 102 = .ok (.iconst 0, 1) := by decide +kernel
theorem dX8_joined_103 : decode cX8_joined 103 = .ok (.ireturn, 1) := by decide +kernel
theorem dX8_joined_104 : decode cX8_joined 104 = .ok (.iload_n 2, 1) := by decide +kernel
theorem dX8_joined_105 : decode cX8_joined 105 = .ok (.iload_n 3, 1) := by decide +kernel
theorem dX8_joined_106 : decode cX8_joined 106 = .ok (.if_icmp .ne 7, 3) := by decide +kernel
theorem dX8_joined_109 : decode cX8_joined 109 = .ok (.iconst 1, 1) := by decide +kernel
theorem dX8_joined_110 : decode cX8_joined 110 = .ok (.goto 4, 3) := by decide +kernel
theorem dX8_joined_113 : decode cX8_joined 113 = .ok (.iconst 0, 1) := by decide +kernel
theorem dX8_joined_114 : decode cX8_joined 114 = .ok (.ireturn, 1) := by decide +kernel
theorem dX8_joined_115 : decode cX8_joined 115 = .ok (.iload_n 3, 1) := by decide +kernel
theorem dX8_joined_116 : decode cX8_joined 116 = .ok (.ifCond .ne 11, 3) := by decide +kernel
theorem dX8_joined_119 : decode cX8_joined 119 = .ok (.aload_n 0, 1) := by decide +kernel
theorem dX8_joined_120 : decode cX8_joined 120 = .ok (.iconst 1, 1) := by decide +kernel
theorem dX8_joined_121 : decode cX8_joined 121 = .ok (.putfield 15, 3) := by decide +kernel
theorem dX8_joined_124 : decode cX8_joined 124 = .ok (.goto 22, 3) := by decide +kernel
theorem dX8_joined_127 : decode cX8_joined 127 = .ok (.iload_n 1, 1) := by decide +kernel
theorem dX8_joined_128 : decode cX8_joined 128 = .ok (.bipush 8, 2) := by decide +kernel
theorem dX8_joined_130 : decode cX8_joined 130 = .ok (.if_icmp .ne 10, 3) := by decide +kernel
theorem dX8_joined_133 : decode cX8_joined 133 = .ok (.iload_n 2, 1) := by decide +kernel
theorem dX8_joined_134 : decode cX8_joined 134 = .ok (.iload_n 3, 1) := by decide +kernel
theorem dX8_joined_135 : decode cX8_joined 135 = .ok (.idiv, 1) := by decide +kernel
theorem dX8_joined_136 : decode cX8_joined 136 = .ok (.i2l, 1) := by decide +kernel
theorem dX8_joined_137 : decode cX8_joined 137 = .ok (.goto 7, 3) := by decide +kernel
theorem dX8_joined_140 : decode cX8_joined 140 = .ok (.iload_n 2, 1) := by decide +kernel
theorem dX8_joined_141 : decode cX8_joined 141 = .ok (.iload_n 3, 1) := by decide +kernel
theorem dX8_joined_142 : decode cX8_joined 142 = .ok (.irem, 1) := by decide +kernel
theorem dX8_joined_143 : decode cX8_joined 143 = .ok (.i2l, 1) := by decide +kernel
theorem dX8_joined_144 : decode cX8_joined 144 = .ok (.lstore 4, 2) := by decide +kernel
theorem dX8_joined_146 : decode cX8_joined 146 = .ok (.lload 4, 2) := by decide +kernel
theorem dX8_joined_148 : decode cX8_joined 148 = .ok (.ldc2_w 48, 3) := by decide +kernel
theorem dX8_joined_151 : decode cX8_joined 151 = .ok (.lcmp, 1) := by decide +kernel
theorem dX8_joined_152 : decode cX8_joined 152 = .ok (.ifCond .gt 12, 3) := by decide +kernel
theorem dX8_joined_155 : decode cX8_joined 155 = .ok (.lload 4, 2) := by decide +kernel
theorem dX8_joined_157 : decode cX8_joined 157 = .ok (.ldc2_w 50, 3) := by decide +kernel
theorem dX8_joined_160 : decode cX8_joined 160 = .ok (.lcmp, 1) := by decide +kernel
theorem dX8_joined_161 : decode cX8_joined 161 = .ok (.ifCond .ge 8, 3) := by decide +kernel
theorem dX8_joined_164 : decode cX8_joined 164 = .ok (.aload_n 0, 1) := by decide +kernel
theorem dX8_joined_165 : decode cX8_joined 165 = .ok (.iconst 1, 1) := by decide +kernel
theorem dX8_joined_166 : decode cX8_joined 166 = .ok (.putfield 15, 3) := by decide +kernel
theorem dX8_joined_169 : decode cX8_joined 169 = .ok (.aload_n 0, 1) := by decide +kernel
theorem dX8_joined_170 : decode cX8_joined 170 = .ok (.getfield 15, 3) := by decide +kernel
theorem dX8_joined_173 : decode cX8_joined 173 = .ok (.ifCond .eq 7, 3) := by decide +kernel
theorem dX8_joined_176 : decode cX8_joined 176 = .ok (.iconst 0, 1) := by decide +kernel
theorem dX8_joined_177 : decode cX8_joined 177 = .ok (.goto 6, 3) := by decide +kernel
theorem dX8_joined_180 : decode cX8_joined 180 = .ok (.lload 4, 2) := by decide +kernel
theorem dX8_joined_182 : decode cX8_joined 182 = .ok (.l2i, 1) := by decide +kernel
theorem dX8_joined_183 : decode cX8_joined 183 = .ok (.ireturn, 1) := by decide +kernel
theorem dX9_init_0 : decode cX9_init 0 = .ok (.aload_n 0, 1) := by decide +kernel
theorem dX9_init_1 : decode cX9_init 1 = .ok (.invokespecial 5, 3) := by decide +kernel
theorem dX9_init_4 : decode cX9_init 4 = .ok (.aload_n 0, 1) := by decide +kernel
theorem dX9_init_5 : decode cX9_init 5 = .ok (.bipush 16, 2) := by decide +kernel
theorem dX9_init_7 : decode cX9_init 7 = .ok (.newarray .int, 2) := by decide +kernel
theorem dX9_init_9 : decode cX9_init 9 = .ok (.putfield 11, 3) := by decide +kernel
theorem dX9_init_12 : decode cX9_init 12 = .ok (.aload_n 0, 1) := by decide +kernel
theorem dX9_init_13 : decode cX9_init 13 = .ok (.new 15, 3) := by decide +kernel
theorem dX9_init_16 : decode cX9_init 16 = .ok (.dup, 1) := by decide +kernel
theorem dX9_init_17 : decode cX9_init 17 = .ok (.invokespecial 17, 3) := by decide +kernel
theorem dX9_init_20 : decode cX9_init 20 = .ok (.putfield 18, 3) := by decide +kernel
theorem dX9_init_23 : decode cX9_init 23 = .ok (.aload_n 0, 1) := by decide +kernel
theorem dX9_init_24 : decode cX9_init 24 = .ok (.iconst 0, 1) := by decide +kernel
theorem dX9_init_25 : decode cX9_init 25 = .ok (.putfield 22, 3) := by decide +kernel
theorem dX9_init_28 : decode cX9_init 28 = .ok (.aload_n 0, 1) := by decide +kernel
theorem dX9_init_29 : decode cX9_init 29 = .ok (.iconst (-1), 1) := by decide +kernel
theorem dX9_init_30 : decode cX9_init 30 = .ok (.putfield 26, 3) := by decide +kernel
theorem dX9_init_33 : decode cX9_init 33 = .ok (.aload_n 0, 1) := by decide +kernel
theorem dX9_init_34 : decode cX9_init 34 = .ok (.aload_n 1, 1) := by decide +kernel
theorem dX9_init_35 : decode cX9_init 35 = .ok (.putfield 29, 3) := by decide +kernel
theorem dX9_init_38 : decode cX9_init 38 = .ok (.aload_n 0, 1) := by decide +kernel
theorem dX9_init_39 : decode cX9_init 39 = .ok (.new 33, 3) := by decide +kernel
theorem dX9_init_42 : decode cX9_init 42 = .ok (.dup, 1) := by decide +kernel
theorem dX9_init_43 : decode cX9_init 43 = .ok (.aload_n 2, 1) := by decide +kernel
theorem dX9_init_44 : decode cX9_init 44 = .ok (.invokespecial 35, 3) := by decide +kernel
theorem dX9_init_47 : decode cX9_init 47 = .ok (.putfield 38, 3) := by decide +kernel
theorem dX9_init_50 : decode cX9_init 50 = .ok (.return_, 1) := by decide +kernel
theorem dX9_begin_0 : decode cX9_begin 0 = .ok (.aload_n 0, 1) := by decide +kernel
theorem dX9_begin_1 : decode cX9_begin 1 = .ok (.getfield 38, 3) := by decide +kernel
theorem dX9_begin_4 : decode cX9_begin 4 = .ok (.aload_n 1, 1) := by decide +kernel
theorem dX9_begin_5 : decode cX9_begin 5 = .ok (.invokevirtual 42, 3) := by decide +kernel
theorem dX9_begin_8 : decode cX9_begin 8 = .ok (.aload_n 0, 1) := by decide +kernel
theorem dX9_begin_9 : decode cX9_begin 9 = .ok (.getfield 18, 3) := by decide +kernel
theorem dX9_begin_12 : decode cX9_begin 12 = .ok (.aload_n 2, 1) := by decide +kernel
theorem dX9_begin_13 : decode cX9_begin 13 = .ok (.invokevirtual 46, 3) := by decide +kernel
theorem dX9_begin_16 : decode cX9_begin 16 = .ok (.aload_n 0, 1) := by decide +kernel
theorem dX9_begin_17 : decode cX9_begin 17 = .ok (.iconst 0, 1) := by decide +kernel
theorem dX9_begin_18 : decode cX9_begin 18 = .ok (.putfield 22, 3) := by decide +kernel
theorem dX9_begin_21 : decode cX9_begin 21 = .ok (.aload_n 0, 1) := by decide +kernel
theorem dX9_begin_22 : decode cX9_begin 22 = .ok (.iconst (-1), 1) := by decide +kernel
theorem dX9_begin_23 : decode cX9_begin 23 = .ok (.putfield 26, 3) := by decide +kernel
theorem dX9_begin_26 : decode cX9_begin 26 = .ok (.return_, 1) := by decide +kernel
theorem dX9_carryOut_0 : decode cX9_carryOut 0 = .ok (.iconst 0, 1) := by decide +kernel
theorem dX9_carryOut_1 : decode cX9_carryOut 1 = .ok (.istore_n 2, 1) := by decide +kernel
theorem dX9_carryOut_2 : decode cX9_carryOut 2 = .ok (.iload_n 2, 1) := by decide +kernel
theorem dX9_carryOut_3 : decode cX9_carryOut 3 = .ok (.aload_n 1, 1) := by decide +kernel
theorem dX9_carryOut_4 : decode cX9_carryOut 4 = .ok (.getfield 49, 3) := by decide +kernel
theorem dX9_carryOut_7 : decode cX9_carryOut 7 = .ok (.if_icmp .ge 72, 3) := by decide +kernel
theorem dX9_carryOut_10 : decode cX9_carryOut 10 = .ok (.iconst 0, 1) := by decide +kernel
theorem dX9_carryOut_11 : decode cX9_carryOut 11 = .ok (.istore_n 3, 1) := by decide +kernel
theorem dX9_carryOut_12 : decode cX9_carryOut 12 = .ok (.iload_n 3, 1) := by decide +kernel
theorem dX9_carryOut_13 : decode cX9_carryOut 13 = .ok (.aload_n 1, 1) := by decide +kernel
theorem dX9_carryOut_14 : decode cX9_carryOut 14 = .ok (.iload_n 2, 1) := by decide +kernel
theorem dX9_carryOut_15 : decode cX9_carryOut 15 = .ok (.iconst 1, 1) := by decide +kernel
theorem dX9_carryOut_16 : decode cX9_carryOut 16 = .ok (.invokevirtual 54, 3) := by decide +kernel
theorem dX9_carryOut_19 : decode cX9_carryOut 19 = .ok (.if_icmp .ge 54, 3) := by decide +kernel
theorem dX9_carryOut_22 : decode cX9_carryOut 22 = .ok (.aload_n 0, 1) := by decide +kernel
theorem dX9_carryOut_23 : decode cX9_carryOut 23 = .ok (.invokevirtual 58, 3) := by decide +kernel
theorem dX9_carryOut_26 : decode cX9_carryOut 26 = .ok (.aload_n 0, 1) := by decide +kernel
theorem dX9_carryOut_27 : decode cX9_carryOut 27 = .ok (.getfield 29, 3) := by decide +kernel
theorem dX9_carryOut_30 : decode cX9_carryOut 30 = .ok (.aload_n 1, 1) := by decide +kernel
theorem dX9_carryOut_31 : decode cX9_carryOut 31 = .ok (.iload_n 2, 1) := by decide +kernel
theorem dX9_carryOut_32 : decode cX9_carryOut 32 = .ok (.iconst 4, 1) := by decide +kernel
theorem dX9_carryOut_33 : decode cX9_carryOut 33 = .ok (.aload_n 0, 1) := by decide +kernel
theorem dX9_carryOut_34 : decode cX9_carryOut 34 = .ok (.getfield 11, 3) := by decide +kernel
theorem dX9_carryOut_37 : decode cX9_carryOut 37 = .ok (.invokevirtual 61, 3) := by decide +kernel
theorem dX9_carryOut_40 : decode cX9_carryOut 40 = .ok (.iconst 1, 1) := by decide +kernel
theorem dX9_carryOut_41 : decode cX9_carryOut 41 = .ok (.if_icmp .ne 7, 3) := by decide +kernel
theorem dX9_carryOut_44 : decode cX9_carryOut 44 = .ok (.iconst 1, 1) := by decide +kernel
theorem dX9_carryOut_45 : decode cX9_carryOut 45 = .ok (.goto 4, 3) := by decide +kernel
theorem dX9_carryOut_48 : decode cX9_carryOut 48 = .ok (.iconst 0, 1) := by decide +kernel
theorem dX9_carryOut_49 : decode cX9_carryOut 49 = .ok (.istore 4, 2) := by decide +kernel
theorem dX9_carryOut_51 : decode cX9_carryOut 51 = .ok (.iload 4, 2) := by decide +kernel
theorem dX9_carryOut_53 : decode cX9_carryOut 53 = .ok (.ifCond .eq 14, 3) := by decide +kernel
theorem dX9_carryOut_56 : decode cX9_carryOut 56 = .ok (.aload_n 0, 1) := by decide +kernel
theorem dX9_carryOut_57 : decode cX9_carryOut 57 = .ok (.aload_n 1, 1) := by decide +kernel
theorem dX9_carryOut_58 : decode cX9_carryOut 58 = .ok (.iload_n 2, 1) := by decide +kernel
theorem dX9_carryOut_59 : decode cX9_carryOut 59 = .ok (.invokevirtual 67, 3) := by decide +kernel
theorem dX9_carryOut_62 : decode cX9_carryOut 62 = .ok (.ifCond .ne 5, 3) := by decide +kernel
theorem dX9_carryOut_65 : decode cX9_carryOut 65 = .ok (.iload_n 2, 1) := by decide +kernel
theorem dX9_carryOut_66 : decode cX9_carryOut 66 = .ok (.ireturn, 1) := by decide +kernel
theorem dX9_carryOut_67 : decode cX9_carryOut 67 = .ok (.iinc 3 1, 3) := by decide +kernel
theorem dX9_carryOut_70 : decode cX9_carryOut 70 = .ok (.goto (-58), 3) := by decide +kernel
theorem dX9_carryOut_73 : decode cX9_carryOut 73 = .ok (.iinc 2 1, 3) := by decide +kernel
theorem dX9_carryOut_76 : decode cX9_carryOut 76 = .ok (.goto (-74), 3) := by decide +kernel
theorem dX9_carryOut_79 : decode cX9_carryOut 79 = .ok (.iconst (-1), 1) := by decide +kernel
theorem dX9_carryOut_80 : decode cX9_carryOut 80 = .ok (.ireturn, 1) := by decide +kernel
theorem dX9_canDo_0 : decode cX9_canDo 0 = .ok (.aload_n 1, 1) := by decide +kernel
theorem dX9_canDo_1 : decode cX9_canDo 1 = .ok (.iload_n 2, 1) := by decide +kernel
theorem dX9_canDo_2 : decode cX9_canDo 2 = .ok (.iconst 0, 1) := by decide +kernel
theorem dX9_canDo_3 : decode cX9_canDo 3 = .ok (.invokevirtual 54, 3) := by decide +kernel
theorem dX9_canDo_6 : decode cX9_canDo 6 = .ok (.istore_n 3, 1) := by decide +kernel
theorem dX9_canDo_7 : decode cX9_canDo 7 = .ok (.aload_n 0, 1) := by decide +kernel
theorem dX9_canDo_8 : decode cX9_canDo 8 = .ok (.getfield 29, 3) := by decide +kernel
theorem dX9_canDo_11 : decode cX9_canDo 11 = .ok (.aload_n 1, 1) := by decide +kernel
theorem dX9_canDo_12 : decode cX9_canDo 12 = .ok (.iload_n 2, 1) := by decide +kernel
theorem dX9_canDo_13 : decode cX9_canDo 13 = .ok (.iconst 2, 1) := by decide +kernel
theorem dX9_canDo_14 : decode cX9_canDo 14 = .ok (.aload_n 0, 1) := by decide +kernel
theorem dX9_canDo_15 : decode cX9_canDo 15 = .ok (.getfield 11, 3) := by decide +kernel
theorem dX9_canDo_18 : decode cX9_canDo 18 = .ok (.invokevirtual 61, 3) := by decide +kernel
theorem dX9_canDo_21 : decode cX9_canDo 21 = .ok (.istore 4, 2) := by decide +kernel
theorem dX9_canDo_23 : decode cX9_canDo 23 = .ok (.aload_n 0, 1) := by decide +kernel
theorem dX9_canDo_24 : decode cX9_canDo 24 = .ok (.getfield 29, 3) := by decide +kernel
theorem dX9_canDo_27 : decode cX9_canDo 27 = .ok (.getfield 71, 3) := by decide +kernel
theorem dX9_canDo_30 : decode cX9_canDo 30 = .ok (.ifCond .eq 5, 3) := by decide +kernel
theorem dX9_canDo_33 : decode cX9_canDo 33 = .ok (.iconst 0, 1) := by decide +kernel
theorem dX9_canDo_34 : decode cX9_canDo 34 = .ok (.ireturn, 1) := by decide +kernel
theorem dX9_canDo_35 : decode cX9_canDo 35 = .ok (.aload_n 0, 1) := by decide +kernel
theorem dX9_canDo_36 : decode cX9_canDo 36 = .ok (.getfield 29, 3) := by decide +kernel
theorem dX9_canDo_39 : decode cX9_canDo 39 = .ok (.aload_n 1, 1) := by decide +kernel
theorem dX9_canDo_40 : decode cX9_canDo 40 = .ok (.iload_n 2, 1) := by decide +kernel
theorem dX9_canDo_41 : decode cX9_canDo 41 = .ok (.iconst 3, 1) := by decide +kernel
theorem dX9_canDo_42 : decode cX9_canDo 42 = .ok (.aload_n 0, 1) := by decide +kernel
theorem dX9_canDo_43 : decode cX9_canDo 43 = .ok (.getfield 11, 3) := by decide +kernel
theorem dX9_canDo_46 : decode cX9_canDo 46 = .ok (.invokevirtual 61, 3) := by decide +kernel
theorem dX9_canDo_49 : decode cX9_canDo 49 = .ok (.istore 5, 2) := by decide +kernel
theorem dX9_canDo_51 : decode cX9_canDo 51 = .ok (.aload_n 0, 1) := by decide +kernel
theorem dX9_canDo_52 : decode cX9_canDo 52 = .ok (.getfield 29, 3) := by decide +kernel
theorem dX9_canDo_55 : decode cX9_canDo 55 = .ok (.getfield 71, 3) := by decide +kernel
theorem dX9_canDo_58 : decode cX9_canDo 58 = .ok (.ifCond .eq 5, 3) := by decide +kernel
theorem dX9_canDo_61 : decode cX9_canDo 61 = .ok (.iconst 0, 1) := by decide +kernel
theorem dX9_canDo_62 : decode cX9_canDo 62 = .ok (.ireturn, 1) := by decide +kernel
theorem dX9_canDo_63 : decode cX9_canDo 63 = .ok (.aload_n 0, 1) := by decide +kernel
theorem dX9_canDo_64 : decode cX9_canDo 64 = .ok (.getfield 38, 3) := by decide +kernel
theorem dX9_canDo_67 : decode cX9_canDo 67 = .ok (.aload_n 0, 1) := by decide +kernel
theorem dX9_canDo_68 : decode cX9_canDo 68 = .ok (.getfield 18, 3) := by decide +kernel
theorem dX9_canDo_71 : decode cX9_canDo 71 = .ok (.iload_n 3, 1) := by decide +kernel
theorem dX9_canDo_72 : decode cX9_canDo 72 = .ok (.iload 4, 2) := by decide +kernel
theorem dX9_canDo_74 : decode cX9_canDo 74 = .ok (.iload 5, 2) := by decide +kernel
theorem dX9_canDo_76 : decode cX9_canDo 76 = .ok (.invokestatic 75, 3) := by decide +kernel
theorem dX9_canDo_79 : decode cX9_canDo 79 = .ok (.istore 6, 2) := by decide +kernel
theorem dX9_canDo_81 : decode cX9_canDo 81 = .ok (.iload 6, 2) := by decide +kernel
theorem dX9_canDo_83 : decode cX9_canDo 83 = .ok (.ifCond .ge 5, 3) := by decide +kernel
theorem dX9_canDo_86 : decode cX9_canDo 86 = .ok (.iconst 0, 1) := by decide +kernel
theorem dX9_canDo_87 : decode cX9_canDo 87 = .ok (.ireturn, 1) := by decide +kernel
theorem dX9_canDo_88 : decode cX9_canDo 88 = .ok (.aload_n 0, 1) := by decide +kernel
theorem dX9_canDo_89 : decode cX9_canDo 89 = .ok (.dup, 1) := by decide +kernel
theorem dX9_canDo_90 : decode cX9_canDo 90 = .ok (.getfield 22, 3) := by decide +kernel
theorem dX9_canDo_93 : decode cX9_canDo 93 = .ok (.iconst 1, 1) := by decide +kernel
theorem dX9_canDo_94 : decode cX9_canDo 94 = .ok (.iadd, 1) := by decide +kernel
theorem dX9_canDo_95 : decode cX9_canDo 95 = .ok (.putfield 22, 3) := by decide +kernel
theorem dX9_canDo_98 : decode cX9_canDo 98 = .ok (.aload_n 0, 1) := by decide +kernel
theorem dX9_canDo_99 : decode cX9_canDo 99 = .ok (.iload_n 3, 1) := by decide +kernel
theorem dX9_canDo_100 : decode cX9_canDo 100 = .ok (.ifCond .ne 8, 3) := by decide +kernel
theorem dX9_canDo_103 : decode cX9_canDo 103 = .ok (.iload 6, 2) := by decide +kernel
theorem dX9_canDo_105 : decode cX9_canDo 105 = .ok (.goto 7, 3) := by decide +kernel
theorem dX9_canDo_108 : decode cX9_canDo 108 = .ok (.aload_n 0, 1) := by decide +kernel
theorem dX9_canDo_109 : decode cX9_canDo 109 = .ok (.getfield 26, 3) := by decide +kernel
theorem dX9_canDo_112 : decode cX9_canDo 112 = .ok (.putfield 26, 3) := by decide +kernel
theorem dX9_canDo_115 : decode cX9_canDo 115 = .ok (.iconst 1, 1) := by decide +kernel
theorem dX9_canDo_116 : decode cX9_canDo 116 = .ok (.ireturn, 1) := by decide +kernel
theorem dX9_setWords_0 : decode cX9_setWords 0 = .ok (.aload_n 0, 1) := by decide +kernel
theorem dX9_setWords_1 : decode cX9_setWords 1 = .ok (.getfield 11, 3) := by decide +kernel
theorem dX9_setWords_4 : decode cX9_setWords 4 = .ok (.iconst 0, 1) := by decide +kernel
theorem dX9_setWords_5 : decode cX9_setWords 5 = .ok (.aload_n 0, 1) := by decide +kernel
theorem dX9_setWords_6 : decode cX9_setWords 6 = .ok (.getfield 38, 3) := by decide +kernel
theorem dX9_setWords_9 : decode cX9_setWords 9 = .ok (.getfield 79, 3) := by decide +kernel
theorem dX9_setWords_12 : decode cX9_setWords 12 = .ok (.iconst 0, 1) := by decide +kernel
theorem dX9_setWords_13 : decode cX9_setWords 13 = .ok (.iaload, 1) := by decide +kernel
theorem dX9_setWords_14 : decode cX9_setWords 14 = .ok (.iastore, 1) := by decide +kernel
theorem dX9_setWords_15 : decode cX9_setWords 15 = .ok (.aload_n 0, 1) := by decide +kernel
theorem dX9_setWords_16 : decode cX9_setWords 16 = .ok (.getfield 11, 3) := by decide +kernel
theorem dX9_setWords_19 : decode cX9_setWords 19 = .ok (.iconst 1, 1) := by decide +kernel
theorem dX9_setWords_20 : decode cX9_setWords 20 = .ok (.aload_n 0, 1) := by decide +kernel
theorem dX9_setWords_21 : decode cX9_setWords 21 = .ok (.getfield 22, 3) := by decide +kernel
theorem dX9_setWords_24 : decode cX9_setWords 24 = .ok (.iastore, 1) := by decide +kernel
theorem dX9_setWords_25 : decode cX9_setWords 25 = .ok (.aload_n 0, 1) := by decide +kernel
theorem dX9_setWords_26 : decode cX9_setWords 26 = .ok (.getfield 11, 3) := by decide +kernel
theorem dX9_setWords_29 : decode cX9_setWords 29 = .ok (.iconst 2, 1) := by decide +kernel
theorem dX9_setWords_30 : decode cX9_setWords 30 = .ok (.aload_n 0, 1) := by decide +kernel
theorem dX9_setWords_31 : decode cX9_setWords 31 = .ok (.getfield 26, 3) := by decide +kernel
theorem dX9_setWords_34 : decode cX9_setWords 34 = .ok (.iastore, 1) := by decide +kernel
theorem dX9_setWords_35 : decode cX9_setWords 35 = .ok (.aload_n 0, 1) := by decide +kernel
theorem dX9_setWords_36 : decode cX9_setWords 36 = .ok (.getfield 11, 3) := by decide +kernel
theorem dX9_setWords_39 : decode cX9_setWords 39 = .ok (.iconst 3, 1) := by decide +kernel
theorem dX9_setWords_40 : decode cX9_setWords 40 = .ok (.aload_n 0, 1) := by decide +kernel
theorem dX9_setWords_41 : decode cX9_setWords 41 = .ok (.getfield 38, 3) := by decide +kernel
theorem dX9_setWords_44 : decode cX9_setWords 44 = .ok (.invokevirtual 82, 3) := by decide +kernel
theorem dX9_setWords_47 : decode cX9_setWords 47 = .ok (.iastore, 1) := by decide +kernel
theorem dX9_setWords_48 : decode cX9_setWords 48 = .ok (.iconst 0, 1) := by decide +kernel
theorem dX9_setWords_49 : decode cX9_setWords 49 = .ok (.istore_n 1, 1) := by decide +kernel
theorem dX9_setWords_50 : decode cX9_setWords 50 = .ok (.iload_n 1, 1) := by decide +kernel
theorem dX9_setWords_51 : decode cX9_setWords 51 = .ok (.bipush 8, 2) := by decide +kernel
theorem dX9_setWords_53 : decode cX9_setWords 53 = .ok (.if_icmp .ge 41, 3) := by decide +kernel
theorem dX9_setWords_56 : decode cX9_setWords 56 = .ok (.aload_n 0, 1) := by decide +kernel
theorem dX9_setWords_57 : decode cX9_setWords 57 = .ok (.getfield 11, 3) := by decide +kernel
theorem dX9_setWords_60 : decode cX9_setWords 60 = .ok (.iconst 4, 1) := by decide +kernel
theorem dX9_setWords_61 : decode cX9_setWords 61 = .ok (.iload_n 1, 1) := by decide +kernel
theorem dX9_setWords_62 : decode cX9_setWords 62 = .ok (.iadd, 1) := by decide +kernel
theorem dX9_setWords_63 : decode cX9_setWords 63 = .ok (.aload_n 0, 1) := by decide +kernel
theorem dX9_setWords_64 : decode cX9_setWords 64 = .ok (.getfield 38, 3) := by decide +kernel
theorem dX9_setWords_67 : decode cX9_setWords 67 = .ok (.iload_n 1, 1) := by decide +kernel
theorem dX9_setWords_68 : decode cX9_setWords 68 = .ok (.invokevirtual 86, 3) := by decide +kernel
theorem dX9_setWords_71 : decode cX9_setWords 71 = .ok (.ifCond .eq 15, 3) := by decide +kernel
theorem dX9_setWords_74 : decode cX9_setWords 74 = .ok (.aload_n 0, 1) := by decide +kernel
theorem dX9_setWords_75 : decode cX9_setWords 75 = .ok (.getfield 38, 3) := by decide +kernel
theorem dX9_setWords_78 : decode cX9_setWords 78 = .ok (.getfield 90, 3) := by decide +kernel
theorem dX9_setWords_81 : decode cX9_setWords 81 = .ok (.iload_n 1, 1) := by decide +kernel
theorem dX9_setWords_82 : decode cX9_setWords 82 = .ok (.iaload, 1) := by decide +kernel
theorem dX9_setWords_83 : decode cX9_setWords 83 = .ok (.goto 4, 3) := by decide +kernel
theorem dX9_setWords_86 : decode cX9_setWords 86 = .ok (.iconst (-1), 1) := by decide +kernel
theorem dX9_setWords_87 : decode cX9_setWords 87 = .ok (.iastore, 1) := by decide +kernel
theorem dX9_setWords_88 : decode cX9_setWords 88 = .ok (.iinc 1 1, 3) := by decide +kernel
theorem dX9_setWords_91 : decode cX9_setWords 91 = .ok (.goto (-41), 3) := by decide +kernel
theorem dX9_setWords_94 : decode cX9_setWords 94 = .ok (.iconst 0, 1) := by decide +kernel
theorem dX9_setWords_95 : decode cX9_setWords 95 = .ok (.istore_n 1, 1) := by decide +kernel
theorem dX9_setWords_96 : decode cX9_setWords 96 = .ok (.iload_n 1, 1) := by decide +kernel
theorem dX9_setWords_97 : decode cX9_setWords 97 = .ok (.iconst 4, 1) := by decide +kernel
theorem dX9_setWords_98 : decode cX9_setWords 98 = .ok (.if_icmp .ge 42, 3) := by decide +kernel
theorem dX9_setWords_101 : decode cX9_setWords 101 = .ok (.aload_n 0, 1) := by decide +kernel
theorem dX9_setWords_102 : decode cX9_setWords 102 = .ok (.getfield 11, 3) := by decide +kernel
theorem dX9_setWords_105 : decode cX9_setWords 105 = .ok (.bipush 12, 2) := by decide +kernel
theorem dX9_setWords_107 : decode cX9_setWords 107 = .ok (.iload_n 1, 1) := by decide +kernel
theorem dX9_setWords_108 : decode cX9_setWords 108 = .ok (.iadd, 1) := by decide +kernel
theorem dX9_setWords_109 : decode cX9_setWords 109 = .ok (.aload_n 0, 1) := by decide +kernel
theorem dX9_setWords_110 : decode cX9_setWords 110 = .ok (.getfield 38, 3) := by decide +kernel
theorem dX9_setWords_113 : decode cX9_setWords 113 = .ok (.iload_n 1, 1) := by decide +kernel
theorem dX9_setWords_114 : decode cX9_setWords 114 = .ok (.invokevirtual 93, 3) := by decide +kernel
theorem dX9_setWords_117 : decode cX9_setWords 117 = .ok (.ifCond .eq 15, 3) := by decide +kernel
theorem dX9_setWords_120 : decode cX9_setWords 120 = .ok (.aload_n 0, 1) := by decide +kernel
theorem dX9_setWords_121 : decode cX9_setWords 121 = .ok (.getfield 38, 3) := by decide +kernel
theorem dX9_setWords_124 : decode cX9_setWords 124 = .ok (.getfield 96, 3) := by decide +kernel
theorem dX9_setWords_127 : decode cX9_setWords 127 = .ok (.iload_n 1, 1) := by decide +kernel
theorem dX9_setWords_128 : decode cX9_setWords 128 = .ok (.iaload, 1) := by decide +kernel
theorem dX9_setWords_129 : decode cX9_setWords 129 = .ok (.goto 4, 3) := by decide +kernel
theorem dX9_setWords_132 : decode cX9_setWords 132 = .ok (.iconst (-1), 1) := by decide +kernel
theorem dX9_setWords_133 : decode cX9_setWords 133 = .ok (.iastore, 1) := by decide +kernel
theorem dX9_setWords_134 : decode cX9_setWords 134 = .ok (.iinc 1 1, 3) := by decide +kernel
theorem dX9_setWords_137 : decode cX9_setWords 137 = .ok (.goto (-41), 3) := by decide +kernel
theorem dX9_setWords_140 : decode cX9_setWords 140 = .ok (.return_, 1) := by decide +kernel
theorem dX10_init_0 : decode cX10_init 0 = .ok (.aload_n 0, 1) := by decide +kernel
theorem dX10_init_1 : decode cX10_init 1 = .ok (.invokespecial 1, 3) := by decide +kernel
theorem dX10_init_4 : decode cX10_init 4 = .ok (.aload_n 0, 1) := by decide +kernel
theorem dX10_init_5 : decode cX10_init 5 = .ok (.new 7, 3) := by decide +kernel
theorem dX10_init_8 : decode cX10_init 8 = .ok (.dup, 1) := by decide +kernel
theorem dX10_init_9 : decode cX10_init 9 = .ok (.invokespecial 9, 3) := by decide +kernel
theorem dX10_init_12 : decode cX10_init 12 = .ok (.putfield 10, 3) := by decide +kernel
theorem dX10_init_15 : decode cX10_init 15 = .ok (.aload_n 0, 1) := by decide +kernel
theorem dX10_init_16 : decode cX10_init 16 = .ok (.new 16, 3) := by decide +kernel
theorem dX10_init_19 : decode cX10_init 19 = .ok (.dup, 1) := by decide +kernel
theorem dX10_init_20 : decode cX10_init 20 = .ok (.invokespecial 18, 3) := by decide +kernel
theorem dX10_init_23 : decode cX10_init 23 = .ok (.putfield 19, 3) := by decide +kernel
theorem dX10_init_26 : decode cX10_init 26 = .ok (.aload_n 0, 1) := by decide +kernel
theorem dX10_init_27 : decode cX10_init 27 = .ok (.new 23, 3) := by decide +kernel
theorem dX10_init_30 : decode cX10_init 30 = .ok (.dup, 1) := by decide +kernel
theorem dX10_init_31 : decode cX10_init 31 = .ok (.invokespecial 25, 3) := by decide +kernel
theorem dX10_init_34 : decode cX10_init 34 = .ok (.putfield 26, 3) := by decide +kernel
theorem dX10_init_37 : decode cX10_init 37 = .ok (.aload_n 0, 1) := by decide +kernel
theorem dX10_init_38 : decode cX10_init 38 = .ok (.new 30, 3) := by decide +kernel
theorem dX10_init_41 : decode cX10_init 41 = .ok (.dup, 1) := by decide +kernel
theorem dX10_init_42 : decode cX10_init 42 = .ok (.invokespecial 32, 3) := by decide +kernel
theorem dX10_init_45 : decode cX10_init 45 = .ok (.putfield 33, 3) := by decide +kernel
theorem dX10_init_48 : decode cX10_init 48 = .ok (.aload_n 0, 1) := by decide +kernel
theorem dX10_init_49 : decode cX10_init 49 = .ok (.bipush 20, 2) := by decide +kernel
theorem dX10_init_51 : decode cX10_init 51 = .ok (.newarray .long, 2) := by decide +kernel
theorem dX10_init_53 : decode cX10_init 53 = .ok (.putfield 37, 3) := by decide +kernel
theorem dX10_init_56 : decode cX10_init 56 = .ok (.aload_n 0, 1) := by decide +kernel
theorem dX10_init_57 : decode cX10_init 57 = .ok (.sipush 400, 3) := by decide +kernel
theorem dX10_init_60 : decode cX10_init 60 = .ok (.newarray .byte, 2) := by decide +kernel
theorem dX10_init_62 : decode cX10_init 62 = .ok (.putfield 41, 3) := by decide +kernel
theorem dX10_init_65 : decode cX10_init 65 = .ok (.aload_n 0, 1) := by decide +kernel
theorem dX10_init_66 : decode cX10_init 66 = .ok (.iconst 5, 1) := by decide +kernel
theorem dX10_init_67 : decode cX10_init 67 = .ok (.newarray .int, 2) := by decide +kernel
theorem dX10_init_69 : decode cX10_init 69 = .ok (.putfield 45, 3) := by decide +kernel
theorem dX10_init_72 : decode cX10_init 72 = .ok (.aload_n 0, 1) := by decide +kernel
theorem dX10_init_73 : decode cX10_init 73 = .ok (.iconst 2, 1) := by decide +kernel
theorem dX10_init_74 : decode cX10_init 74 = .ok (.anewarray 49, 3) := by decide +kernel
theorem dX10_init_77 : decode cX10_init 77 = .ok (.putfield 51, 3) := by decide +kernel
theorem dX10_init_80 : decode cX10_init 80 = .ok (.aload_n 0, 1) := by decide +kernel
theorem dX10_init_81 : decode cX10_init 81 = .ok (.new 55, 3) := by decide +kernel
theorem dX10_init_84 : decode cX10_init 84 = .ok (.dup, 1) := by decide +kernel
theorem dX10_init_85 : decode cX10_init 85 = .ok (.invokespecial 57, 3) := by decide +kernel
theorem dX10_init_88 : decode cX10_init 88 = .ok (.putfield 58, 3) := by decide +kernel
theorem dX10_init_91 : decode cX10_init 91 = .ok (.aload_n 0, 1) := by decide +kernel
theorem dX10_init_92 : decode cX10_init 92 = .ok (.iconst 0, 1) := by decide +kernel
theorem dX10_init_93 : decode cX10_init 93 = .ok (.putfield 62, 3) := by decide +kernel
theorem dX10_init_96 : decode cX10_init 96 = .ok (.aload_n 0, 1) := by decide +kernel
theorem dX10_init_97 : decode cX10_init 97 = .ok (.iconst (-1), 1) := by decide +kernel
theorem dX10_init_98 : decode cX10_init 98 = .ok (.putfield 66, 3) := by decide +kernel
theorem dX10_init_101 : decode cX10_init 101 = .ok (.aload_n 0, 1) := by decide +kernel
theorem dX10_init_102 : decode cX10_init 102 = .ok (.iconst (-1), 1) := by decide +kernel
theorem dX10_init_103 : decode cX10_init 103 = .ok (.putfield 69, 3) := by decide +kernel
theorem dX10_init_106 : decode cX10_init 106 = .ok (.aload_n 0, 1) := by decide +kernel
theorem dX10_init_107 : decode cX10_init 107 = .ok (.iconst 0, 1) := by decide +kernel
theorem dX10_init_108 : decode cX10_init 108 = .ok (.putfield 72, 3) := by decide +kernel
theorem dX10_init_111 : decode cX10_init 111 = .ok (.aload_n 0, 1) := by decide +kernel
theorem dX10_init_112 : decode cX10_init 112 = .ok (.iconst 0, 1) := by decide +kernel
theorem dX10_init_113 : decode cX10_init 113 = .ok (.putfield 75, 3) := by decide +kernel
theorem dX10_init_116 : decode cX10_init 116 = .ok (.new 78, 3) := by decide +kernel
theorem dX10_init_119 : decode cX10_init 119 = .ok (.dup, 1) := by decide +kernel
theorem dX10_init_120 : decode cX10_init 120 = .ok (.invokespecial 80, 3) := by decide +kernel
theorem dX10_init_123 : decode cX10_init 123 = .ok (.astore_n 1, 1) := by decide +kernel
theorem dX10_init_124 : decode cX10_init 124 = .ok (.new 81, 3) := by decide +kernel
theorem dX10_init_127 : decode cX10_init 127 = .ok (.dup, 1) := by decide +kernel
theorem dX10_init_128 : decode cX10_init 128 = .ok (.aload_n 1, 1) := by decide +kernel
theorem dX10_init_129 : decode cX10_init 129 = .ok (.invokespecial 83, 3) := by decide +kernel
theorem dX10_init_132 : decode cX10_init 132 = .ok (.astore_n 2, 1) := by decide +kernel
theorem dX10_init_133 : decode cX10_init 133 = .ok (.aload_n 0, 1) := by decide +kernel
theorem dX10_init_134 : decode cX10_init 134 = .ok (.new 49, 3) := by decide +kernel
theorem dX10_init_137 : decode cX10_init 137 = .ok (.dup, 1) := by decide +kernel
theorem dX10_init_138 : decode cX10_init 138 = .ok (.aload_n 2, 1) := by decide +kernel
theorem dX10_init_139 : decode cX10_init 139 = .ok (.invokespecial 86, 3) := by decide +kernel
theorem dX10_init_142 : decode cX10_init 142 = .ok (.putfield 89, 3) := by decide +kernel
theorem dX10_init_145 : decode cX10_init 145 = .ok (.aload_n 0, 1) := by decide +kernel
theorem dX10_init_146 : decode cX10_init 146 = .ok (.new 49, 3) := by decide +kernel
theorem dX10_init_149 : decode cX10_init 149 = .ok (.dup, 1) := by decide +kernel
theorem dX10_init_150 : decode cX10_init 150 = .ok (.aload_n 2, 1) := by decide +kernel
theorem dX10_init_151 : decode cX10_init 151 = .ok (.invokespecial 86, 3) := by decide +kernel
theorem dX10_init_154 : decode cX10_init 154 = .ok (.putfield 93, 3) := by decide +kernel
theorem dX10_init_157 : decode cX10_init 157 = .ok (.aload_n 0, 1) := by decide +kernel
theorem dX10_init_158 : decode cX10_init 158 = .ok (.new 96, 3) := by decide +kernel
theorem dX10_init_161 : decode cX10_init 161 = .ok (.dup, 1) := by decide +kernel
theorem dX10_init_162 : decode cX10_init 162 = .ok (.aload_n 1, 1) := by decide +kernel
theorem dX10_init_163 : decode cX10_init 163 = .ok (.aload_n 2, 1) := by decide +kernel
theorem dX10_init_164 : decode cX10_init 164 = .ok (.invokespecial 98, 3) := by decide +kernel
theorem dX10_init_167 : decode cX10_init 167 = .ok (.putfield 101, 3) := by decide +kernel
theorem dX10_init_170 : decode cX10_init 170 = .ok (.return_, 1) := by decide +kernel
theorem dX10_vault_0 : decode cX10_vault 0 = .ok (.iload_n 1, 1) := by decide +kernel
theorem dX10_vault_1 : decode cX10_vault 1 = .ok (.iconst 1, 1) := by decide +kernel
theorem dX10_vault_2 : decode cX10_vault 2 = .ok (.if_icmp .lt 8, 3) := by decide +kernel
theorem dX10_vault_5 : decode cX10_vault 5 = .ok (.iload_n 1, 1) := by decide +kernel
theorem dX10_vault_6 : decode cX10_vault 6 = .ok (.iconst 3, 1) := by decide +kernel
theorem dX10_vault_7 : decode cX10_vault 7 = .ok (.if_icmp .le 9, 3) := by decide +kernel
theorem dX10_vault_10 : decode cX10_vault 10 = .ok (.aload_n 0, 1) := by decide +kernel
theorem dX10_vault_11 : decode cX10_vault 11 = .ok (.iconst (-1), 1) := by decide +kernel
theorem dX10_vault_12 : decode cX10_vault 12 = .ok (.invokevirtual 105, 3) := by decide +kernel
theorem dX10_vault_15 : decode cX10_vault 15 = .ok (.ireturn, 1) := by decide +kernel
theorem dX10_vault_16 : decode cX10_vault 16 = .ok (.aload_n 0, 1) := by decide +kernel
theorem dX10_vault_17 : decode cX10_vault 17 = .ok (.getfield 89, 3) := by decide +kernel
theorem dX10_vault_20 : decode cX10_vault 20 = .ok (.getfield 109, 3) := by decide +kernel
theorem dX10_vault_23 : decode cX10_vault 23 = .ok (.iconst 5, 1) := by decide +kernel
theorem dX10_vault_24 : decode cX10_vault 24 = .ok (.if_icmp .lt 10, 3) := by decide +kernel
theorem dX10_vault_27 : decode cX10_vault 27 = .ok (.aload_n 0, 1) := by decide +kernel
theorem dX10_vault_28 : decode cX10_vault 28 = .ok (.bipush (-5), 2) := by decide +kernel
theorem dX10_vault_30 : decode cX10_vault 30 = .ok (.invokevirtual 105, 3) := by decide +kernel
theorem dX10_vault_33 : decode cX10_vault 33 = .ok (.ireturn, 1) := by decide +kernel
theorem dX10_vault_34 : decode cX10_vault 34 = .ok (.aload_n 0, 1) := by decide +kernel
