theorem dX11_wouldRather_14 : decode cX11_wouldRather 14 = .ok (.bipush 9, 2) := by decide +kernel
theorem dX11_wouldRather_16 : decode cX11_wouldRather 16 = .ok (.iload_n 1, 1) := by decide +kernel
theorem dX11_wouldRather_17 : decode cX11_wouldRather 17 = .ok (.iadd, 1) := by decide +kernel
theorem dX11_wouldRather_18 : decode cX11_wouldRather 18 = .ok (.iaload, 1) := by decide +kernel
theorem dX11_wouldRather_19 : decode cX11_wouldRather 19 = .ok (.iadd, 1) := by decide +kernel
theorem dX11_wouldRather_20 : decode cX11_wouldRather 20 = .ok (.iaload, 1) := by decide +kernel
theorem dX11_wouldRather_21 : decode cX11_wouldRather 21 = .ok (.istore_n 3, 1) := by decide +kernel
theorem dX11_wouldRather_22 : decode cX11_wouldRather 22 = .ok (.aload_n 0, 1) := by decide +kernel
theorem dX11_wouldRather_23 : decode cX11_wouldRather 23 = .ok (.getfield 13, 3) := by decide +kernel
theorem dX11_wouldRather_26 : decode cX11_wouldRather 26 = .ok (.bipush 50, 2) := by decide +kernel
theorem dX11_wouldRather_28 : decode cX11_wouldRather 28 = .ok (.iconst 5, 1) := by decide +kernel
theorem dX11_wouldRather_29 : decode cX11_wouldRather 29 = .ok (.iload_n 1, 1) := by decide +kernel
theorem dX11_wouldRather_30 : decode cX11_wouldRather 30 = .ok (.imul, 1) := by decide +kernel
theorem dX11_wouldRather_31 : decode cX11_wouldRather 31 = .ok (.iadd, 1) := by decide +kernel
theorem dX11_wouldRather_32 : decode cX11_wouldRather 32 = .ok (.aload_n 0, 1) := by decide +kernel
theorem dX11_wouldRather_33 : decode cX11_wouldRather 33 = .ok (.getfield 13, 3) := by decide +kernel
theorem dX11_wouldRather_36 : decode cX11_wouldRather 36 = .ok (.bipush 9, 2) := by decide +kernel
theorem dX11_wouldRather_38 : decode cX11_wouldRather 38 = .ok (.iload_n 2, 1) := by decide +kernel
theorem dX11_wouldRather_39 : decode cX11_wouldRather 39 = .ok (.iadd, 1) := by decide +kernel
theorem dX11_wouldRather_40 : decode cX11_wouldRather 40 = .ok (.iaload, 1) := by decide +kernel
theorem dX11_wouldRather_41 : decode cX11_wouldRather 41 = .ok (.iadd, 1) := by decide +kernel
theorem dX11_wouldRather_42 : decode cX11_wouldRather 42 = .ok (.iaload, 1) := by decide +kernel
theorem dX11_wouldRather_43 : decode cX11_wouldRather 43 = .ok (.iload_n 3, 1) := by decide +kernel
theorem dX11_wouldRather_44 : decode cX11_wouldRather 44 = .ok (.if_icmp .le 24, 3) := by decide +kernel
theorem dX11_wouldRather_47 : decode cX11_wouldRather 47 = .ok (.aload_n 0, 1) := by decide +kernel
theorem dX11_wouldRather_48 : decode cX11_wouldRather 48 = .ok (.iload_n 1, 1) := by decide +kernel
theorem dX11_wouldRather_49 : decode cX11_wouldRather 49 = .ok (.aload_n 0, 1) := by decide +kernel
theorem dX11_wouldRather_50 : decode cX11_wouldRather 50 = .ok (.getfield 13, 3) := by decide +kernel
theorem dX11_wouldRather_53 : decode cX11_wouldRather 53 = .ok (.bipush 9, 2) := by decide +kernel
theorem dX11_wouldRather_55 : decode cX11_wouldRather 55 = .ok (.iload_n 2, 1) := by decide +kernel
theorem dX11_wouldRather_56 : decode cX11_wouldRather 56 = .ok (.iadd, 1) := by decide +kernel
theorem dX11_wouldRather_57 : decode cX11_wouldRather 57 = .ok (.iaload, 1) := by decide +kernel
theorem dX11_wouldRather_58 : decode cX11_wouldRather 58 = .ok (.invokevirtual 220, 3) := by decide +kernel
theorem dX11_wouldRather_61 : decode cX11_wouldRather 61 = .ok (.ifCond .ne 7, 3) := by decide +kernel
theorem dX11_wouldRather_64 : decode cX11_wouldRather 64 = .ok (.iconst 1, 1) := by decide +kernel
theorem dX11_wouldRather_65 : decode cX11_wouldRather 65 = .ok (.goto 4, 3) := by decide +kernel
theorem dX11_wouldRather_68 : decode cX11_wouldRather 68 = .ok (.iconst 0, 1) := by decide +kernel
theorem dX11_wouldRather_69 : decode cX11_wouldRather 69 = .ok (.ireturn, 1) := by decide +kernel
theorem dX11_changes_0 : decode cX11_changes 0 = .ok (.aload_n 0, 1) := by decide +kernel
theorem dX11_changes_1 : decode cX11_changes 1 = .ok (.iconst 0, 1) := by decide +kernel
theorem dX11_changes_2 : decode cX11_changes 2 = .ok (.putfield 149, 3) := by decide +kernel
theorem dX11_changes_5 : decode cX11_changes 5 = .ok (.iconst 0, 1) := by decide +kernel
theorem dX11_changes_6 : decode cX11_changes 6 = .ok (.istore_n 2, 1) := by decide +kernel
theorem dX11_changes_7 : decode cX11_changes 7 = .ok (.iconst (-1), 1) := by decide +kernel
theorem dX11_changes_8 : decode cX11_changes 8 = .ok (.istore_n 3, 1) := by decide +kernel
theorem dX11_changes_9 : decode cX11_changes 9 = .ok (.iconst 0, 1) := by decide +kernel
theorem dX11_changes_10 : decode cX11_changes 10 = .ok (.istore 4, 2) := by decide +kernel
theorem dX11_changes_12 : decode cX11_changes 12 = .ok (.iload 4, 2) := by decide +kernel
theorem dX11_changes_14 : decode cX11_changes 14 = .ok (.aload_n 0, 1) := by decide +kernel
theorem dX11_changes_15 : decode cX11_changes 15 = .ok (.getfield 13, 3) := by decide +kernel
theorem dX11_changes_18 : decode cX11_changes 18 = .ok (.iconst 2, 1) := by decide +kernel
theorem dX11_changes_19 : decode cX11_changes 19 = .ok (.iaload, 1) := by decide +kernel
theorem dX11_changes_20 : decode cX11_changes 20 = .ok (.if_icmp .ge 116, 3) := by decide +kernel
theorem dX11_changes_23 : decode cX11_changes 23 = .ok (.iload 4, 2) := by decide +kernel
theorem dX11_changes_25 : decode cX11_changes 25 = .ok (.iconst 1, 1) := by decide +kernel
theorem dX11_changes_26 : decode cX11_changes 26 = .ok (.iadd, 1) := by decide +kernel
theorem dX11_changes_27 : decode cX11_changes 27 = .ok (.istore 5, 2) := by decide +kernel
theorem dX11_changes_29 : decode cX11_changes 29 = .ok (.iload 5, 2) := by decide +kernel
theorem dX11_changes_31 : decode cX11_changes 31 = .ok (.aload_n 0, 1) := by decide +kernel
theorem dX11_changes_32 : decode cX11_changes 32 = .ok (.getfield 13, 3) := by decide +kernel
theorem dX11_changes_35 : decode cX11_changes 35 = .ok (.iconst 2, 1) := by decide +kernel
theorem dX11_changes_36 : decode cX11_changes 36 = .ok (.iaload, 1) := by decide +kernel
theorem dX11_changes_37 : decode cX11_changes 37 = .ok (.if_icmp .ge 93, 3) := by decide +kernel
theorem dX11_changes_40 : decode cX11_changes 40 = .ok (.aload_n 0, 1) := by decide +kernel
theorem dX11_changes_41 : decode cX11_changes 41 = .ok (.iload 4, 2) := by decide +kernel
theorem dX11_changes_43 : decode cX11_changes 43 = .ok (.invokevirtual 182, 3) := by decide +kernel
theorem dX11_changes_46 : decode cX11_changes 46 = .ok (.ifCond .eq 78, 3) := by decide +kernel
theorem dX11_changes_49 : decode cX11_changes 49 = .ok (.aload_n 0, 1) := by decide +kernel
theorem dX11_changes_50 : decode cX11_changes 50 = .ok (.iload 5, 2) := by decide +kernel
theorem dX11_changes_52 : decode cX11_changes 52 = .ok (.invokevirtual 182, 3) := by decide +kernel
theorem dX11_changes_55 : decode cX11_changes 55 = .ok (.ifCond .eq 69, 3) := by decide +kernel
theorem dX11_changes_58 : decode cX11_changes 58 = .ok (.aload_n 0, 1) := by decide +kernel
theorem dX11_changes_59 : decode cX11_changes 59 = .ok (.getfield 13, 3) := by decide +kernel
theorem dX11_changes_62 : decode cX11_changes 62 = .ok (.bipush 9, 2) := by decide +kernel
theorem dX11_changes_64 : decode cX11_changes 64 = .ok (.iload 4, 2) := by decide +kernel
theorem dX11_changes_66 : decode cX11_changes 66 = .ok (.iadd, 1) := by decide +kernel
theorem dX11_changes_67 : decode cX11_changes 67 = .ok (.iaload, 1) := by decide +kernel
theorem dX11_changes_68 : decode cX11_changes 68 = .ok (.aload_n 0, 1) := by decide +kernel
theorem dX11_changes_69 : decode cX11_changes 69 = .ok (.getfield 13, 3) := by decide +kernel
theorem dX11_changes_72 : decode cX11_changes 72 = .ok (.bipush 9, 2) := by decide +kernel
theorem dX11_changes_74 : decode cX11_changes 74 = .ok (.iload 5, 2) := by decide +kernel
theorem dX11_changes_76 : decode cX11_changes 76 = .ok (.iadd, 1) := by decide +kernel
theorem dX11_changes_77 : decode cX11_changes 77 = .ok (.iaload, 1) := by decide +kernel
theorem dX11_changes_78 : decode cX11_changes 78 = .ok (.if_icmp .eq 46, 3) := by decide +kernel
theorem dX11_changes_81 : decode cX11_changes 81 = .ok (.aload_n 0, 1) := by decide +kernel
theorem dX11_changes_82 : decode cX11_changes 82 = .ok (.iload 4, 2) := by decide +kernel
theorem dX11_changes_84 : decode cX11_changes 84 = .ok (.iload 5, 2) := by decide +kernel
theorem dX11_changes_86 : decode cX11_changes 86 = .ok (.invokevirtual 498, 3) := by decide +kernel
theorem dX11_changes_89 : decode cX11_changes 89 = .ok (.ifCond .eq 35, 3) := by decide +kernel
theorem dX11_changes_92 : decode cX11_changes 92 = .ok (.aload_n 0, 1) := by decide +kernel
theorem dX11_changes_93 : decode cX11_changes 93 = .ok (.iload 5, 2) := by decide +kernel
theorem dX11_changes_95 : decode cX11_changes 95 = .ok (.iload 4, 2) := by decide +kernel
theorem dX11_changes_97 : decode cX11_changes 97 = .ok (.invokevirtual 498, 3) := by decide +kernel
theorem dX11_changes_100 : decode cX11_changes 100 = .ok (.ifCond .eq 24, 3) := by decide +kernel
theorem dX11_changes_103 : decode cX11_changes 103 = .ok (.iload_n 2, 1) := by decide +kernel
theorem dX11_changes_104 : decode cX11_changes 104 = .ok (.iload_n 1, 1) := by decide +kernel
theorem dX11_changes_105 : decode cX11_changes 105 = .ok (.if_icmp .ne 14, 3) := by decide +kernel
theorem dX11_changes_108 : decode cX11_changes 108 = .ok (.bipush 10, 2) := by decide +kernel
theorem dX11_changes_110 : decode cX11_changes 110 = .ok (.iload 4, 2) := by decide +kernel
theorem dX11_changes_112 : decode cX11_changes 112 = .ok (.imul, 1) := by decide +kernel
theorem dX11_changes_113 : decode cX11_changes 113 = .ok (.iload 5, 2) := by decide +kernel
theorem dX11_changes_115 : decode cX11_changes 115 = .ok (.iadd, 1) := by decide +kernel
theorem dX11_changes_116 : decode cX11_changes 116 = .ok (.goto 4, 3) := by decide +kernel
theorem dX11_changes_119 : decode cX11_changes 119 = .ok (.iload_n 3, 1) := by decide +kernel
theorem dX11_changes_120 : decode cX11_changes 120 = .ok (.istore_n 3, 1) := by decide +kernel
theorem dX11_changes_121 : decode cX11_changes 121 = .ok (.iinc 2 1, 3) := by decide +kernel
theorem dX11_changes_124 : decode cX11_changes 124 = .ok (.iinc 5 1, 3) := by decide +kernel
theorem dX11_changes_127 : decode cX11_changes 127 = .ok (.goto (-98), 3) := by decide +kernel
theorem dX11_changes_130 : decode cX11_changes 130 = .ok (.iinc 4 1, 3) := by decide +kernel
theorem dX11_changes_133 : decode cX11_changes 133 = .ok (.goto (-121), 3) := by decide +kernel
theorem dX11_changes_136 : decode cX11_changes 136 = .ok (.iload_n 1, 1) := by decide +kernel
theorem dX11_changes_137 : decode cX11_changes 137 = .ok (.iconst (-1), 1) := by decide +kernel
theorem dX11_changes_138 : decode cX11_changes 138 = .ok (.if_icmp .ne 7, 3) := by decide +kernel
theorem dX11_changes_141 : decode cX11_changes 141 = .ok (.iload_n 2, 1) := by decide +kernel
theorem dX11_changes_142 : decode cX11_changes 142 = .ok (.goto 4, 3) := by decide +kernel
theorem dX11_changes_145 : decode cX11_changes 145 = .ok (.iload_n 3, 1) := by decide +kernel
theorem dX11_changes_146 : decode cX11_changes 146 = .ok (.ireturn, 1) := by decide +kernel
theorem dX11_few_0 : decode cX11_few 0 = .ok (.aload_n 0, 1) := by decide +kernel
theorem dX11_few_1 : decode cX11_few 1 = .ok (.iconst 0, 1) := by decide +kernel
theorem dX11_few_2 : decode cX11_few 2 = .ok (.putfield 149, 3) := by decide +kernel
theorem dX11_few_5 : decode cX11_few 5 = .ok (.iload_n 1, 1) := by decide +kernel
theorem dX11_few_6 : decode cX11_few 6 = .ok (.i2l, 1) := by decide +kernel
theorem dX11_few_7 : decode cX11_few 7 = .ok (.lconst 1, 1) := by decide +kernel
theorem dX11_few_8 : decode cX11_few 8 = .ok (.ldc2_w 294, 3) := by decide +kernel
theorem dX11_few_11 : decode cX11_few 11 = .ok (.invokestatic 169, 3) := by decide +kernel
theorem dX11_few_14 : decode cX11_few 14 = .ok (.ifCond .eq 15, 3) := by decide +kernel
theorem dX11_few_17 : decode cX11_few 17 = .ok (.iload_n 2, 1) := by decide +kernel
theorem dX11_few_18 : decode cX11_few 18 = .ok (.i2l, 1) := by decide +kernel
theorem dX11_few_19 : decode cX11_few 19 = .ok (.lconst 0, 1) := by decide +kernel
theorem dX11_few_20 : decode cX11_few 20 = .ok (.ldc2_w 208, 3) := by decide +kernel
theorem dX11_few_23 : decode cX11_few 23 = .ok (.invokestatic 169, 3) := by decide +kernel
theorem dX11_few_26 : decode cX11_few 26 = .ok (.ifCond .ne 7, 3) := by decide +kernel
theorem dX11_few_29 : decode cX11_few 29 = .ok (.ldc2_w 271, 3) := by decide +kernel
theorem dX11_few_32 : decode cX11_few 32 = .ok (.lreturn, 1) := by decide +kernel
theorem dX11_few_33 : decode cX11_few 33 = .ok (.iconst 0, 1) := by decide +kernel
theorem dX11_few_34 : decode cX11_few 34 = .ok (.istore_n 3, 1) := by decide +kernel
theorem dX11_few_35 : decode cX11_few 35 = .ok (.iload_n 3, 1) := by decide +kernel
theorem dX11_few_36 : decode cX11_few 36 = .ok (.bipush 21, 2) := by decide +kernel
theorem dX11_few_38 : decode cX11_few 38 = .ok (.if_icmp .ge 26, 3) := by decide +kernel
theorem dX11_few_41 : decode cX11_few 41 = .ok (.aload_n 0, 1) := by decide +kernel
theorem dX11_few_42 : decode cX11_few 42 = .ok (.getfield 120, 3) := by decide +kernel
theorem dX11_few_45 : decode cX11_few 45 = .ok (.iload_n 3, 1) := by decide +kernel
theorem dX11_few_46 : decode cX11_few 46 = .ok (.iload_n 3, 1) := by decide +kernel
theorem dX11_few_47 : decode cX11_few 47 = .ok (.ifCond .ne 9, 3) := by decide +kernel
theorem dX11_few_50 : decode cX11_few 50 = .ok (.ldc2_w 501, 3) := by decide +kernel
theorem dX11_few_53 : decode cX11_few 53 = .ok (.goto 4, 3) := by decide +kernel
theorem dX11_few_56 : decode cX11_few 56 = .ok (.lconst 0, 1) := by decide +kernel
theorem dX11_few_57 : decode cX11_few 57 = .ok (.lastore, 1) := by decide +kernel
theorem dX11_few_58 : decode cX11_few 58 = .ok (.iinc 3 1, 3) := by decide +kernel
theorem dX11_few_61 : decode cX11_few 61 = .ok (.goto (-26), 3) := by decide +kernel
theorem dX11_few_64 : decode cX11_few 64 = .ok (.aload_n 0, 1) := by decide +kernel
theorem dX11_few_65 : decode cX11_few 65 = .ok (.getfield 13, 3) := by decide +kernel
theorem dX11_few_68 : decode cX11_few 68 = .ok (.bipush 7, 2) := by decide +kernel
theorem dX11_few_70 : decode cX11_few 70 = .ok (.iaload, 1) := by decide +kernel
theorem dX11_few_71 : decode cX11_few 71 = .ok (.istore_n 3, 1) := by decide +kernel
theorem dX11_few_72 : decode cX11_few 72 = .ok (.iconst 0, 1) := by decide +kernel
theorem dX11_few_73 : decode cX11_few 73 = .ok (.istore 4, 2) := by decide +kernel
theorem dX11_few_75 : decode cX11_few 75 = .ok (.iload 4, 2) := by decide +kernel
theorem dX11_few_77 : decode cX11_few 77 = .ok (.iload_n 2, 1) := by decide +kernel
theorem dX11_few_78 : decode cX11_few 78 = .ok (.if_icmp .ge 74, 3) := by decide +kernel
theorem dX11_few_81 : decode cX11_few 81 = .ok (.iload_n 1, 1) := by decide +kernel
theorem dX11_few_82 : decode cX11_few 82 = .ok (.iconst 1, 1) := by decide +kernel
theorem dX11_few_83 : decode cX11_few 83 = .ok (.isub, 1) := by decide +kernel
theorem dX11_few_84 : decode cX11_few 84 = .ok (.istore 5, 2) := by decide +kernel
theorem dX11_few_86 : decode cX11_few 86 = .ok (.iload 5, 2) := by decide +kernel
theorem dX11_few_88 : decode cX11_few 88 = .ok (.ifCond .lt 58, 3) := by decide +kernel
theorem dX11_few_91 : decode cX11_few 91 = .ok (.aload_n 0, 1) := by decide +kernel
theorem dX11_few_92 : decode cX11_few 92 = .ok (.getfield 120, 3) := by decide +kernel
theorem dX11_few_95 : decode cX11_few 95 = .ok (.iload 5, 2) := by decide +kernel
theorem dX11_few_97 : decode cX11_few 97 = .ok (.laload, 1) := by decide +kernel
theorem dX11_few_98 : decode cX11_few 98 = .ok (.lstore 6, 2) := by decide +kernel
theorem dX11_few_100 : decode cX11_few 100 = .ok (.aload_n 0, 1) := by decide +kernel
theorem dX11_few_101 : decode cX11_few 101 = .ok (.getfield 120, 3) := by decide +kernel
theorem dX11_few_104 : decode cX11_few 104 = .ok (.iload 5, 2) := by decide +kernel
theorem dX11_few_106 : decode cX11_few 106 = .ok (.lload 6, 2) := by decide +kernel
theorem dX11_few_108 : decode cX11_few 108 = .ok (.bipush 10, 2) := by decide +kernel
theorem dX11_few_110 : decode cX11_few 110 = .ok (.iload_n 3, 1) := by decide +kernel
theorem dX11_few_111 : decode cX11_few 111 = .ok (.isub, 1) := by decide +kernel
theorem dX11_few_112 : decode cX11_few 112 = .ok (.i2l, 1) := by decide +kernel
theorem dX11_few_113 : decode cX11_few 113 = .ok (.lmul, 1) := by decide +kernel
theorem dX11_few_114 : decode cX11_few 114 = .ok (.ldc2_w 230, 3) := by decide +kernel
theorem dX11_few_117 : decode cX11_few 117 = .ok (.ldiv, 1) := by decide +kernel
theorem dX11_few_118 : decode cX11_few 118 = .ok (.lastore, 1) := by decide +kernel
theorem dX11_few_119 : decode cX11_few 119 = .ok (.aload_n 0, 1) := by decide +kernel
theorem dX11_few_120 : decode cX11_few 120 = .ok (.getfield 120, 3) := by decide +kernel
theorem dX11_few_123 : decode cX11_few 123 = .ok (.iload 5, 2) := by decide +kernel
theorem dX11_few_125 : decode cX11_few 125 = .ok (.iconst 1, 1) := by decide +kernel
theorem dX11_few_126 : decode cX11_few 126 = .ok (.iadd, 1) := by decide +kernel
theorem dX11_few_127 : decode cX11_few 127 = .ok (.dup2, 1) := by decide +kernel
theorem dX11_few_128 : decode cX11_few 128 = .ok (.laload, 1) := by decide +kernel
theorem dX11_few_129 : decode cX11_few 129 = .ok (.lload 6, 2) := by decide +kernel
theorem dX11_few_131 : decode cX11_few 131 = .ok (.iload_n 3, 1) := by decide +kernel
theorem dX11_few_132 : decode cX11_few 132 = .ok (.i2l, 1) := by decide +kernel
theorem dX11_few_133 : decode cX11_few 133 = .ok (.lmul, 1) := by decide +kernel
theorem dX11_few_134 : decode cX11_few 134 = .ok (.ldc2_w 230, 3) := by decide +kernel
theorem dX11_few_137 : decode cX11_few 137 = .ok (.ldiv, 1) := by decide +kernel
theorem dX11_few_138 : decode cX11_few 138 = .ok (.ladd, 1) := by decide +kernel
theorem dX11_few_139 : decode cX11_few 139 = .ok (.lastore, 1) := by decide +kernel
theorem dX11_few_140 : decode cX11_few 140 = .ok (.iinc 5 (-1), 3) := by decide +kernel
theorem dX11_few_143 : decode cX11_few 143 = .ok (.goto (-57), 3) := by decide +kernel
theorem dX11_few_146 : decode cX11_few 146 = .ok (.iinc 4 1, 3) := by decide +kernel
theorem dX11_few_149 : decode cX11_few 149 = .ok (.goto (-74), 3) := by decide +kernel
theorem dX11_few_152 : decode cX11_few 152 = .ok (.lconst 0, 1) := by decide +kernel
theorem dX11_few_153 : decode cX11_few 153 = .ok (.lstore 4, 2) := by decide +kernel
theorem dX11_few_155 : decode cX11_few 155 = .ok (.iconst 0, 1) := by decide +kernel
theorem dX11_few_156 : decode cX11_few 156 = .ok (.istore 6, 2) := by decide +kernel
theorem dX11_few_158 : decode cX11_few 158 = .ok (.iload 6, 2) := by decide +kernel
theorem dX11_few_160 : decode cX11_few 160 = .ok (.iload_n 1, 1) := by decide +kernel
theorem dX11_few_161 : decode cX11_few 161 = .ok (.if_icmp .ge 21, 3) := by decide +kernel
theorem dX11_few_164 : decode cX11_few 164 = .ok (.lload 4, 2) := by decide +kernel
theorem dX11_few_166 : decode cX11_few 166 = .ok (.aload_n 0, 1) := by decide +kernel
theorem dX11_few_167 : decode cX11_few 167 = .ok (.getfield 120, 3) := by decide +kernel
theorem dX11_few_170 : decode cX11_few 170 = .ok (.iload 6, 2) := by decide +kernel
theorem dX11_few_172 : decode cX11_few 172 = .ok (.laload, 1) := by decide +kernel
theorem dX11_few_173 : decode cX11_few 173 = .ok (.ladd, 1) := by decide +kernel
theorem dX11_few_174 : decode cX11_few 174 = .ok (.lstore 4, 2) := by decide +kernel
theorem dX11_few_176 : decode cX11_few 176 = .ok (.iinc 6 1, 3) := by decide +kernel
theorem dX11_few_179 : decode cX11_few 179 = .ok (.goto (-21), 3) := by decide +kernel
theorem dX11_few_182 : decode cX11_few 182 = .ok (.lload 4, 2) := by decide +kernel
theorem dX11_few_184 : decode cX11_few 184 = .ok (.lreturn, 1) := by decide +kernel
theorem dX11_compare_0 : decode cX11_compare 0 = .ok (.aload_n 0, 1) := by decide +kernel
theorem dX11_compare_1 : decode cX11_compare 1 = .ok (.iconst 0, 1) := by decide +kernel
theorem dX11_compare_2 : decode cX11_compare 2 = .ok (.putfield 149, 3) := by decide +kernel
theorem dX11_compare_5 : decode cX11_compare 5 = .ok (.aload_n 0, 1) := by decide +kernel
theorem dX11_compare_6 : decode cX11_compare 6 = .ok (.iload_n 1, 1) := by decide +kernel
theorem dX11_compare_7 : decode cX11_compare 7 = .ok (.invokevirtual 392, 3) := by decide +kernel
theorem dX11_compare_10 : decode cX11_compare 10 = .ok (.ifCond .ne 5, 3) := by decide +kernel
theorem dX11_compare_13 : decode cX11_compare 13 = .ok (.iconst (-1), 1) := by decide +kernel
theorem dX11_compare_14 : decode cX11_compare 14 = .ok (.ireturn, 1) := by decide +kernel
theorem dX11_compare_15 : decode cX11_compare 15 = .ok (.aload_n 0, 1) := by decide +kernel
theorem dX11_compare_16 : decode cX11_compare 16 = .ok (.getfield 13, 3) := by decide +kernel
theorem dX11_compare_19 : decode cX11_compare 19 = .ok (.iconst 5, 1) := by decide +kernel
theorem dX11_compare_20 : decode cX11_compare 20 = .ok (.iaload, 1) := by decide +kernel
theorem dX11_compare_21 : decode cX11_compare 21 = .ok (.istore_n 2, 1) := by decide +kernel
theorem dX11_compare_22 : decode cX11_compare 22 = .ok (.aload_n 0, 1) := by decide +kernel
theorem dX11_compare_23 : decode cX11_compare 23 = .ok (.getfield 13, 3) := by decide +kernel
theorem dX11_compare_26 : decode cX11_compare 26 = .ok (.iconst 5, 1) := by decide +kernel
theorem dX11_compare_27 : decode cX11_compare 27 = .ok (.iload_n 1, 1) := by decide +kernel
theorem dX11_compare_28 : decode cX11_compare 28 = .ok (.iastore, 1) := by decide +kernel
theorem dX11_compare_29 : decode cX11_compare 29 = .ok (.iconst 0, 1) := by decide +kernel
theorem dX11_compare_30 : decode cX11_compare 30 = .ok (.istore_n 3, 1) := by decide +kernel
theorem dX11_compare_31 : decode cX11_compare 31 = .ok (.iconst 0, 1) := by decide +kernel
theorem dX11_compare_32 : decode cX11_compare 32 = .ok (.istore 4, 2) := by decide +kernel
theorem dX11_compare_34 : decode cX11_compare 34 = .ok (.iload 4, 2) := by decide +kernel
theorem dX11_compare_36 : decode cX11_compare 36 = .ok (.aload_n 0, 1) := by decide +kernel
theorem dX11_compare_37 : decode cX11_compare 37 = .ok (.getfield 13, 3) := by decide +kernel
theorem dX11_compare_40 : decode cX11_compare 40 = .ok (.iconst 2, 1) := by decide +kernel
theorem dX11_compare_41 : decode cX11_compare 41 = .ok (.iaload, 1) := by decide +kernel
theorem dX11_compare_42 : decode cX11_compare 42 = .ok (.if_icmp .ge 31, 3) := by decide +kernel
theorem dX11_compare_45 : decode cX11_compare 45 = .ok (.iload_n 3, 1) := by decide +kernel
theorem dX11_compare_46 : decode cX11_compare 46 = .ok (.aload_n 0, 1) := by decide +kernel
theorem dX11_compare_47 : decode cX11_compare 47 = .ok (.iload 4, 2) := by decide +kernel
theorem dX11_compare_49 : decode cX11_compare 49 = .ok (.invokevirtual 182, 3) := by decide +kernel
theorem dX11_compare_52 : decode cX11_compare 52 = .ok (.ifCond .eq 12, 3) := by decide +kernel
theorem dX11_compare_55 : decode cX11_compare 55 = .ok (.aload_n 0, 1) := by decide +kernel
theorem dX11_compare_56 : decode cX11_compare 56 = .ok (.iload 4, 2) := by decide +kernel
theorem dX11_compare_58 : decode cX11_compare 58 = .ok (.invokevirtual 196, 3) := by decide +kernel
theorem dX11_compare_61 : decode cX11_compare 61 = .ok (.goto 4, 3) := by decide +kernel
theorem dX11_compare_64 : decode cX11_compare 64 = .ok (.iconst 0, 1) := by decide +kernel
theorem dX11_compare_65 : decode cX11_compare 65 = .ok (.iadd, 1) := by decide +kernel
theorem dX11_compare_66 : decode cX11_compare 66 = .ok (.istore_n 3, 1) := by decide +kernel
theorem dX11_compare_67 : decode cX11_compare 67 = .ok (.iinc 4 1, 3) := by decide +kernel
theorem dX11_compare_70 : decode cX11_compare 70 = .ok (.goto (-36), 3) := by decide +kernel
theorem dX11_compare_73 : decode cX11_compare 73 = .ok (.aload_n 0, 1) := by decide +kernel
theorem dX11_compare_74 : decode cX11_compare 74 = .ok (.getfield 13, 3) := by decide +kernel
theorem dX11_compare_77 : decode cX11_compare 77 = .ok (.iconst 5, 1) := by decide +kernel
theorem dX11_compare_78 : decode cX11_compare 78 = .ok (.iload_n 2, 1) := by decide +kernel
theorem dX11_compare_79 : decode cX11_compare 79 = .ok (.iastore, 1) := by decide +kernel
theorem dX11_compare_80 : decode cX11_compare 80 = .ok (.iload_n 3, 1) := by decide +kernel
theorem dX11_compare_81 : decode cX11_compare 81 = .ok (.ireturn, 1) := by decide +kernel
theorem dX11_readSum_0 : decode cX11_readSum 0 = .ok (.aload_n 0, 1) := by decide +kernel
theorem dX11_readSum_1 : decode cX11_readSum 1 = .ok (.getfield 134, 3) := by decide +kernel
theorem dX11_readSum_4 : decode cX11_readSum 4 = .ok (.iload_n 1, 1) := by decide +kernel
theorem dX11_readSum_5 : decode cX11_readSum 5 = .ok (.aload_n 0, 1) := by decide +kernel
theorem dX11_readSum_6 : decode cX11_readSum 6 = .ok (.getfield 281, 3) := by decide +kernel
theorem dX11_readSum_9 : decode cX11_readSum 9 = .ok (.iastore, 1) := by decide +kernel
theorem dX11_readSum_10 : decode cX11_readSum 10 = .ok (.aload_n 0, 1) := by decide +kernel
theorem dX11_readSum_11 : decode cX11_readSum 11 = .ok (.getfield 244, 3) := by decide +kernel
theorem dX11_readSum_14 : decode cX11_readSum 14 = .ok (.ifCond .ne 8, 3) := by decide +kernel
theorem dX11_readSum_17 : decode cX11_readSum 17 = .ok (.aload_n 0, 1) := by decide +kernel
theorem dX11_readSum_18 : decode cX11_readSum 18 = .ok (.iconst 0, 1) := by decide +kernel
theorem dX11_readSum_19 : decode cX11_readSum 19 = .ok (.invokevirtual 378, 3) := by decide +kernel
theorem dX11_readSum_22 : decode cX11_readSum 22 = .ok (.aload_n 0, 1) := by decide +kernel
theorem dX11_readSum_23 : decode cX11_readSum 23 = .ok (.getfield 134, 3) := by decide +kernel
theorem dX11_readSum_26 : decode cX11_readSum 26 = .ok (.iload_n 1, 1) := by decide +kernel
theorem dX11_readSum_27 : decode cX11_readSum 27 = .ok (.iconst 1, 1) := by decide +kernel
theorem dX11_readSum_28 : decode cX11_readSum 28 = .ok (.iadd, 1) := by decide +kernel
theorem dX11_readSum_29 : decode cX11_readSum 29 = .ok (.aload_n 0, 1) := by decide +kernel
theorem dX11_readSum_30 : decode cX11_readSum 30 = .ok (.getfield 281, 3) := by decide +kernel
theorem dX11_readSum_33 : decode cX11_readSum 33 = .ok (.iastore, 1) := by decide +kernel
theorem dX11_readSum_34 : decode cX11_readSum 34 = .ok (.return_, 1) := by decide +kernel
theorem dX11_readOrder_0 : decode cX11_readOrder 0 = .ok (.iconst (-1), 1) := by decide +kernel
theorem dX11_readOrder_1 : decode cX11_readOrder 1 = .ok (.istore_n 1, 1) := by decide +kernel
theorem dX11_readOrder_2 : decode cX11_readOrder 2 = .ok (.iconst 0, 1) := by decide +kernel
theorem dX11_readOrder_3 : decode cX11_readOrder 3 = .ok (.istore_n 2, 1) := by decide +kernel
theorem dX11_readOrder_4 : decode cX11_readOrder 4 = .ok (.iload_n 2, 1) := by decide +kernel
theorem dX11_readOrder_5 : decode cX11_readOrder 5 = .ok (.iconst 4, 1) := by decide +kernel
theorem dX11_readOrder_6 : decode cX11_readOrder 6 = .ok (.if_icmp .ge 28, 3) := by decide +kernel
theorem dX11_readOrder_9 : decode cX11_readOrder 9 = .ok (.aload_n 0, 1) := by decide +kernel
theorem dX11_readOrder_10 : decode cX11_readOrder 10 = .ok (.aload_n 0, 1) := by decide +kernel
theorem dX11_readOrder_11 : decode cX11_readOrder 11 = .ok (.getfield 131, 3) := by decide +kernel
theorem dX11_readOrder_14 : decode cX11_readOrder 14 = .ok (.iload_n 2, 1) := by decide +kernel
theorem dX11_readOrder_15 : decode cX11_readOrder 15 = .ok (.laload, 1) := by decide +kernel
theorem dX11_readOrder_16 : decode cX11_readOrder 16 = .ok (.invokevirtual 302, 3) := by decide +kernel
theorem dX11_readOrder_19 : decode cX11_readOrder 19 = .ok (.ifCond .eq 7, 3) := by decide +kernel
theorem dX11_readOrder_22 : decode cX11_readOrder 22 = .ok (.iload_n 2, 1) := by decide +kernel
theorem dX11_readOrder_23 : decode cX11_readOrder 23 = .ok (.goto 4, 3) := by decide +kernel
theorem dX11_readOrder_26 : decode cX11_readOrder 26 = .ok (.iload_n 1, 1) := by decide +kernel
theorem dX11_readOrder_27 : decode cX11_readOrder 27 = .ok (.istore_n 1, 1) := by decide +kernel
theorem dX11_readOrder_28 : decode cX11_readOrder 28 = .ok (.iinc 2 1, 3) := by decide +kernel
theorem dX11_readOrder_31 : decode cX11_readOrder 31 = .ok (.goto (-27), 3) := by decide +kernel
theorem dX11_readOrder_34 : decode cX11_readOrder 34 = .ok (.aload_n 0, 1) := by decide +kernel
theorem dX11_readOrder_35 : decode cX11_readOrder 35 = .ok (.iload_n 1, 1) := by decide +kernel
theorem dX11_readOrder_36 : decode cX11_readOrder 36 = .ok (.iconst (-1), 1) := by decide +kernel
theorem dX11_readOrder_37 : decode cX11_readOrder 37 = .ok (.if_icmp .eq 16, 3) := by decide +kernel
theorem dX11_readOrder_40 : decode cX11_readOrder 40 = .ok (.aload_n 0, 1) := by decide +kernel
theorem dX11_readOrder_41 : decode cX11_readOrder 41 = .ok (.getfield 375, 3) := by decide +kernel
theorem dX11_readOrder_44 : decode cX11_readOrder 44 = .ok (.bipush 12, 2) := by decide +kernel
theorem dX11_readOrder_46 : decode cX11_readOrder 46 = .ok (.if_icmp .ge 7, 3) := by decide +kernel
theorem dX11_readOrder_49 : decode cX11_readOrder 49 = .ok (.iconst 1, 1) := by decide +kernel
theorem dX11_readOrder_50 : decode cX11_readOrder 50 = .ok (.goto 4, 3) := by decide +kernel
theorem dX11_readOrder_53 : decode cX11_readOrder 53 = .ok (.iconst 0, 1) := by decide +kernel
theorem dX11_readOrder_54 : decode cX11_readOrder 54 = .ok (.invokevirtual 277, 3) := by decide +kernel
theorem dX11_readOrder_57 : decode cX11_readOrder 57 = .ok (.aload_n 0, 1) := by decide +kernel
theorem dX11_readOrder_58 : decode cX11_readOrder 58 = .ok (.getfield 244, 3) := by decide +kernel
theorem dX11_readOrder_61 : decode cX11_readOrder 61 = .ok (.ifCond .eq 4, 3) := by decide +kernel
theorem dX11_readOrder_64 : decode cX11_readOrder 64 = .ok (.return_, 1) := by decide +kernel
theorem dX11_readOrder_65 : decode cX11_readOrder 65 = .ok (.bipush 8, 2) := by decide +kernel
theorem dX11_readOrder_67 : decode cX11_readOrder 67 = .ok (.aload_n 0, 1) := by decide +kernel
theorem dX11_readOrder_68 : decode cX11_readOrder 68 = .ok (.getfield 375, 3) := by decide +kernel
theorem dX11_readOrder_71 : decode cX11_readOrder 71 = .ok (.imul, 1) := by decide +kernel
theorem dX11_readOrder_72 : decode cX11_readOrder 72 = .ok (.istore_n 2, 1) := by decide +kernel
theorem dX11_readOrder_73 : decode cX11_readOrder 73 = .ok (.aload_n 0, 1) := by decide +kernel
theorem dX11_readOrder_74 : decode cX11_readOrder 74 = .ok (.dup, 1) := by decide +kernel
theorem dX11_readOrder_75 : decode cX11_readOrder 75 = .ok (.getfield 375, 3) := by decide +kernel
theorem dX11_readOrder_78 : decode cX11_readOrder 78 = .ok (.iconst 1, 1) := by decide +kernel
theorem dX11_readOrder_79 : decode cX11_readOrder 79 = .ok (.iadd, 1) := by decide +kernel
theorem dX11_readOrder_80 : decode cX11_readOrder 80 = .ok (.putfield 375, 3) := by decide +kernel
theorem dX11_readOrder_83 : decode cX11_readOrder 83 = .ok (.iconst 0, 1) := by decide +kernel
theorem dX11_readOrder_84 : decode cX11_readOrder 84 = .ok (.istore_n 3, 1) := by decide +kernel
theorem dX11_readOrder_85 : decode cX11_readOrder 85 = .ok (.iload_n 3, 1) := by decide +kernel
theorem dX11_readOrder_86 : decode cX11_readOrder 86 = .ok (.bipush 8, 2) := by decide +kernel
theorem dX11_readOrder_88 : decode cX11_readOrder 88 = .ok (.if_icmp .ge 18, 3) := by decide +kernel
theorem dX11_readOrder_91 : decode cX11_readOrder 91 = .ok (.aload_n 0, 1) := by decide +kernel
theorem dX11_readOrder_92 : decode cX11_readOrder 92 = .ok (.getfield 134, 3) := by decide +kernel
theorem dX11_readOrder_95 : decode cX11_readOrder 95 = .ok (.iload_n 2, 1) := by decide +kernel
theorem dX11_readOrder_96 : decode cX11_readOrder 96 = .ok (.iload_n 3, 1) := by decide +kernel
theorem dX11_readOrder_97 : decode cX11_readOrder 97 = .ok (.iadd, 1) := by decide +kernel
theorem dX11_readOrder_98 : decode cX11_readOrder 98 = .ok (.iconst 0, 1) := by decide +kernel
theorem dX11_readOrder_99 : decode cX11_readOrder 99 = .ok (.iastore, 1) := by decide +kernel
theorem dX11_readOrder_100 : decode cX11_readOrder 100 = .ok (.iinc 3 1, 3) := by decide +kernel
theorem dX11_readOrder_103 : decode cX11_readOrder 103 = .ok (.goto (-18), 3) := by decide +kernel
theorem dX11_readOrder_106 : decode cX11_readOrder 106 = .ok (.aload_n 0, 1) := by decide +kernel
theorem dX11_readOrder_107 : decode cX11_readOrder 107 = .ok (.getfield 134, 3) := by decide +kernel
theorem dX11_readOrder_110 : decode cX11_readOrder 110 = .ok (.iload_n 2, 1) := by decide +kernel
theorem dX11_readOrder_111 : decode cX11_readOrder 111 = .ok (.iload_n 1, 1) := by decide +kernel
theorem dX11_readOrder_112 : decode cX11_readOrder 112 = .ok (.iastore, 1) := by decide +kernel
theorem dX11_readOrder_113 : decode cX11_readOrder 113 = .ok (.iload_n 1, 1) := by decide +kernel
theorem dX11_readOrder_114 : decode cX11_readOrder 114 = .ok (.iconst 3, 1) := by decide +kernel
theorem dX11_readOrder_115 : decode cX11_readOrder 115 = .ok (.if_icmp .eq 10, 3) := by decide +kernel
theorem dX11_readOrder_118 : decode cX11_readOrder 118 = .ok (.aload_n 0, 1) := by decide +kernel
theorem dX11_readOrder_119 : decode cX11_readOrder 119 = .ok (.iload_n 2, 1) := by decide +kernel
theorem dX11_readOrder_120 : decode cX11_readOrder 120 = .ok (.iconst 1, 1) := by decide +kernel
theorem dX11_readOrder_121 : decode cX11_readOrder 121 = .ok (.iadd, 1) := by decide +kernel
theorem dX11_readOrder_122 : decode cX11_readOrder 122 = .ok (.invokevirtual 503, 3) := by decide +kernel
theorem dX11_readOrder_125 : decode cX11_readOrder 125 = .ok (.iload_n 1, 1) := by decide +kernel
theorem dX11_readOrder_126 : decode cX11_readOrder 126 = .ok (.iconst 1, 1) := by decide +kernel
theorem dX11_readOrder_127 : decode cX11_readOrder 127 = .ok (.if_icmp .ne 28, 3) := by decide +kernel
theorem dX11_readOrder_130 : decode cX11_readOrder 130 = .ok (.aload_n 0, 1) := by decide +kernel
theorem dX11_readOrder_131 : decode cX11_readOrder 131 = .ok (.getfield 244, 3) := by decide +kernel
theorem dX11_readOrder_134 : decode cX11_readOrder 134 = .ok (.ifCond .ne 14, 3) := by decide +kernel
theorem dX11_readOrder_137 : decode cX11_readOrder 137 = .ok (.aload_n 0, 1) := by decide +kernel
theorem dX11_readOrder_138 : decode cX11_readOrder 138 = .ok (.aload_n 0, 1) := by decide +kernel
theorem dX11_readOrder_139 : decode cX11_readOrder 139 = .ok (.ldc2_w 506, 3) := by decide +kernel
theorem dX11_readOrder_142 : decode cX11_readOrder 142 = .ok (.invokevirtual 302, 3) := by decide +kernel
theorem dX11_readOrder_145 : decode cX11_readOrder 145 = .ok (.invokevirtual 277, 3) := by decide +kernel
theorem dX11_readOrder_148 : decode cX11_readOrder 148 = .ok (.aload_n 0, 1) := by decide +kernel
theorem dX11_readOrder_149 : decode cX11_readOrder 149 = .ok (.iload_n 2, 1) := by decide +kernel
theorem dX11_readOrder_150 : decode cX11_readOrder 150 = .ok (.iconst 3, 1) := by decide +kernel
theorem dX11_readOrder_151 : decode cX11_readOrder 151 = .ok (.iadd, 1) := by decide +kernel
theorem dX11_readOrder_152 : decode cX11_readOrder 152 = .ok (.invokevirtual 503, 3) := by decide +kernel
theorem dX11_readOrder_155 : decode cX11_readOrder 155 = .ok (.aload_n 0, 1) := by decide +kernel
theorem dX11_readOrder_156 : decode cX11_readOrder 156 = .ok (.getfield 134, 3) := by decide +kernel
theorem dX11_readOrder_159 : decode cX11_readOrder 159 = .ok (.iload_n 2, 1) := by decide +kernel
theorem dX11_readOrder_160 : decode cX11_readOrder 160 = .ok (.bipush 7, 2) := by decide +kernel
theorem dX11_readOrder_162 : decode cX11_readOrder 162 = .ok (.iadd, 1) := by decide +kernel
theorem dX11_readOrder_163 : decode cX11_readOrder 163 = .ok (.iconst 1, 1) := by decide +kernel
theorem dX11_readOrder_164 : decode cX11_readOrder 164 = .ok (.iastore, 1) := by decide +kernel
theorem dX11_readOrder_165 : decode cX11_readOrder 165 = .ok (.aload_n 0, 1) := by decide +kernel
theorem dX11_readOrder_166 : decode cX11_readOrder 166 = .ok (.getfield 244, 3) := by decide +kernel
theorem dX11_readOrder_169 : decode cX11_readOrder 169 = .ok (.ifCond .ne 34, 3) := by decide +kernel
theorem dX11_readOrder_172 : decode cX11_readOrder 172 = .ok (.aload_n 0, 1) := by decide +kernel
theorem dX11_readOrder_173 : decode cX11_readOrder 173 = .ok (.ldc2_w 508, 3) := by decide +kernel
theorem dX11_readOrder_176 : decode cX11_readOrder 176 = .ok (.invokevirtual 302, 3) := by decide +kernel
theorem dX11_readOrder_179 : decode cX11_readOrder 179 = .ok (.ifCond .eq 24, 3) := by decide +kernel
theorem dX11_readOrder_182 : decode cX11_readOrder 182 = .ok (.aload_n 0, 1) := by decide +kernel
theorem dX11_readOrder_183 : decode cX11_readOrder 183 = .ok (.invokevirtual 248, 3) := by decide +kernel
theorem dX11_readOrder_186 : decode cX11_readOrder 186 = .ok (.aload_n 0, 1) := by decide +kernel
theorem dX11_readOrder_187 : decode cX11_readOrder 187 = .ok (.getfield 134, 3) := by decide +kernel
theorem dX11_readOrder_190 : decode cX11_readOrder 190 = .ok (.iload_n 2, 1) := by decide +kernel
theorem dX11_readOrder_191 : decode cX11_readOrder 191 = .ok (.bipush 7, 2) := by decide +kernel
theorem dX11_readOrder_193 : decode cX11_readOrder 193 = .ok (.iadd, 1) := by decide +kernel
theorem dX11_readOrder_194 : decode cX11_readOrder 194 = .ok (.aload_n 0, 1) := by decide +kernel
theorem dX11_readOrder_195 : decode cX11_readOrder 195 = .ok (.lconst 1, 1) := by decide +kernel
theorem dX11_readOrder_196 : decode cX11_readOrder 196 = .ok (.ldc2_w 294, 3) := by decide +kernel
theorem dX11_readOrder_199 : decode cX11_readOrder 199 = .ok (.invokevirtual 339, 3) := by decide +kernel
theorem dX11_readOrder_202 : decode cX11_readOrder 202 = .ok (.iastore, 1) := by decide +kernel
theorem dX11_readOrder_203 : decode cX11_readOrder 203 = .ok (.aload_n 0, 1) := by decide +kernel
theorem dX11_readOrder_204 : decode cX11_readOrder 204 = .ok (.getfield 134, 3) := by decide +kernel
theorem dX11_readOrder_207 : decode cX11_readOrder 207 = .ok (.iload_n 2, 1) := by decide +kernel
theorem dX11_readOrder_208 : decode cX11_readOrder 208 = .ok (.iconst 5, 1) := by decide +kernel
theorem dX11_readOrder_209 : decode cX11_readOrder 209 = .ok (.iadd, 1) := by decide +kernel
theorem dX11_readOrder_210 : decode cX11_readOrder 210 = .ok (.aload_n 0, 1) := by decide +kernel
theorem dX11_readOrder_211 : decode cX11_readOrder 211 = .ok (.getfield 281, 3) := by decide +kernel
theorem dX11_readOrder_214 : decode cX11_readOrder 214 = .ok (.iastore, 1) := by decide +kernel
theorem dX11_readOrder_215 : decode cX11_readOrder 215 = .ok (.aload_n 0, 1) := by decide +kernel
theorem dX11_readOrder_216 : decode cX11_readOrder 216 = .ok (.getfield 244, 3) := by decide +kernel
theorem dX11_readOrder_219 : decode cX11_readOrder 219 = .ok (.ifCond .ne 22, 3) := by decide +kernel
theorem dX11_readOrder_222 : decode cX11_readOrder 222 = .ok (.aload_n 0, 1) := by decide +kernel
theorem dX11_readOrder_223 : decode cX11_readOrder 223 = .ok (.ldc2_w 381, 3) := by decide +kernel
theorem dX11_readOrder_226 : decode cX11_readOrder 226 = .ok (.invokevirtual 302, 3) := by decide +kernel
theorem dX11_readOrder_229 : decode cX11_readOrder 229 = .ok (.ifCond .eq 12, 3) := by decide +kernel
theorem dX11_readOrder_232 : decode cX11_readOrder 232 = .ok (.aload_n 0, 1) := by decide +kernel
theorem dX11_readOrder_233 : decode cX11_readOrder 233 = .ok (.invokevirtual 248, 3) := by decide +kernel
theorem dX11_readOrder_236 : decode cX11_readOrder 236 = .ok (.aload_n 0, 1) := by decide +kernel
theorem dX11_readOrder_237 : decode cX11_readOrder 237 = .ok (.iconst 1, 1) := by decide +kernel
theorem dX11_readOrder_238 : decode cX11_readOrder 238 = .ok (.invokevirtual 378, 3) := by decide +kernel
theorem dX11_readOrder_241 : decode cX11_readOrder 241 = .ok (.aload_n 0, 1) := by decide +kernel
theorem dX11_readOrder_242 : decode cX11_readOrder 242 = .ok (.getfield 134, 3) := by decide +kernel
theorem dX11_readOrder_245 : decode cX11_readOrder 245 = .ok (.iload_n 2, 1) := by decide +kernel
theorem dX11_readOrder_246 : decode cX11_readOrder 246 = .ok (.bipush 6, 2) := by decide +kernel
theorem dX11_readOrder_248 : decode cX11_readOrder 248 = .ok (.iadd, 1) := by decide +kernel
theorem dX11_readOrder_249 : decode cX11_readOrder 249 = .ok (.aload_n 0, 1) := by decide +kernel
theorem dX11_readOrder_250 : decode cX11_readOrder 250 = .ok (.getfield 281, 3) := by decide +kernel
theorem dX11_readOrder_253 : decode cX11_readOrder 253 = .ok (.iastore, 1) := by decide +kernel
theorem dX11_readOrder_254 : decode cX11_readOrder 254 = .ok (.return_, 1) := by decide +kernel
theorem dX11_sumOf_0 : decode cX11_sumOf 0 = .ok (.aload_n 0, 1) := by decide +kernel
theorem dX11_sumOf_1 : decode cX11_sumOf 1 = .ok (.getfield 510, 3) := by decide +kernel
theorem dX11_sumOf_4 : decode cX11_sumOf 4 = .ok (.ifCond .ne 20, 3) := by decide +kernel
theorem dX11_sumOf_7 : decode cX11_sumOf 7 = .ok (.aload_n 0, 1) := by decide +kernel
theorem dX11_sumOf_8 : decode cX11_sumOf 8 = .ok (.getfield 134, 3) := by decide +kernel
theorem dX11_sumOf_11 : decode cX11_sumOf 11 = .ok (.iload_n 1, 1) := by decide +kernel
theorem dX11_sumOf_12 : decode cX11_sumOf 12 = .ok (.iaload, 1) := by decide +kernel
theorem dX11_sumOf_13 : decode cX11_sumOf 13 = .ok (.aload_n 0, 1) := by decide +kernel
theorem dX11_sumOf_14 : decode cX11_sumOf 14 = .ok (.getfield 134, 3) := by decide +kernel
theorem dX11_sumOf_17 : decode cX11_sumOf 17 = .ok (.iload_n 1, 1) := by decide +kernel
theorem dX11_sumOf_18 : decode cX11_sumOf 18 = .ok (.iconst 1, 1) := by decide +kernel
theorem dX11_sumOf_19 : decode cX11_sumOf 19 = .ok (.iadd, 1) := by decide +kernel
theorem dX11_sumOf_20 : decode cX11_sumOf 20 = .ok (.iaload, 1) := by decide +kernel
theorem dX11_sumOf_21 : decode cX11_sumOf 21 = .ok (.if_icmp .ne 5, 3) := by decide +kernel
theorem dX11_sumOf_24 : decode cX11_sumOf 24 = .ok (.iconst (-1), 1) := by decide +kernel
theorem dX11_sumOf_25 : decode cX11_sumOf 25 = .ok (.ireturn, 1) := by decide +kernel
theorem dX11_sumOf_26 : decode cX11_sumOf 26 = .ok (.aload_n 0, 1) := by decide +kernel
theorem dX11_sumOf_27 : decode cX11_sumOf 27 = .ok (.iconst 1, 1) := by decide +kernel
theorem dX11_sumOf_28 : decode cX11_sumOf 28 = .ok (.putfield 321, 3) := by decide +kernel
theorem dX11_sumOf_31 : decode cX11_sumOf 31 = .ok (.aload_n 0, 1) := by decide +kernel
theorem dX11_sumOf_32 : decode cX11_sumOf 32 = .ok (.aload_n 0, 1) := by decide +kernel
theorem dX11_sumOf_33 : decode cX11_sumOf 33 = .ok (.getfield 134, 3) := by decide +kernel
theorem dX11_sumOf_36 : decode cX11_sumOf 36 = .ok (.iload_n 1, 1) := by decide +kernel
theorem dX11_sumOf_37 : decode cX11_sumOf 37 = .ok (.iaload, 1) := by decide +kernel
theorem dX11_sumOf_38 : decode cX11_sumOf 38 = .ok (.aload_n 0, 1) := by decide +kernel
theorem dX11_sumOf_39 : decode cX11_sumOf 39 = .ok (.getfield 134, 3) := by decide +kernel
theorem dX11_sumOf_42 : decode cX11_sumOf 42 = .ok (.iload_n 1, 1) := by decide +kernel
theorem dX11_sumOf_43 : decode cX11_sumOf 43 = .ok (.iconst 1, 1) := by decide +kernel
theorem dX11_sumOf_44 : decode cX11_sumOf 44 = .ok (.iadd, 1) := by decide +kernel
theorem dX11_sumOf_45 : decode cX11_sumOf 45 = .ok (.iaload, 1) := by decide +kernel
theorem dX11_sumOf_46 : decode cX11_sumOf 46 = .ok (.invokevirtual 412, 3) := by decide +kernel
theorem dX11_sumOf_49 : decode cX11_sumOf 49 = .ok (.aload_n 0, 1) := by decide +kernel
theorem dX11_sumOf_50 : decode cX11_sumOf 50 = .ok (.iconst 0, 1) := by decide +kernel
theorem dX11_sumOf_51 : decode cX11_sumOf 51 = .ok (.putfield 321, 3) := by decide +kernel
theorem dX11_sumOf_54 : decode cX11_sumOf 54 = .ok (.aload_n 0, 1) := by decide +kernel
theorem dX11_sumOf_55 : decode cX11_sumOf 55 = .ok (.aload_n 0, 1) := by decide +kernel
theorem dX11_sumOf_56 : decode cX11_sumOf 56 = .ok (.getfield 395, 3) := by decide +kernel
theorem dX11_sumOf_59 : decode cX11_sumOf 59 = .ok (.putfield 510, 3) := by decide +kernel
theorem dX11_sumOf_62 : decode cX11_sumOf 62 = .ok (.aload_n 0, 1) := by decide +kernel
theorem dX11_sumOf_63 : decode cX11_sumOf 63 = .ok (.getfield 409, 3) := by decide +kernel
theorem dX11_sumOf_66 : decode cX11_sumOf 66 = .ok (.l2i, 1) := by decide +kernel
theorem dX11_sumOf_67 : decode cX11_sumOf 67 = .ok (.ireturn, 1) := by decide +kernel
theorem dX11_act_0 : decode cX11_act 0 = .ok (.iload_n 1, 1) := by decide +kernel
theorem dX11_act_1 : decode cX11_act 1 = .ok (.tableswitch 46 0 2 #[27, 33, 40], 27) := by decide +kernel
theorem dX11_act_28 : decode cX11_act 28 = .ok (.aload_n 0, 1) := by decide +kernel
theorem dX11_act_29 : decode cX11_act 29 = .ok (.iload_n 2, 1) := by decide +kernel
theorem dX11_act_30 : decode cX11_act 30 = .ok (.invokevirtual 443, 3) := by decide +kernel
theorem dX11_act_33 : decode cX11_act 33 = .ok (.ireturn, 1) := by decide +kernel
theorem dX11_act_34 : decode cX11_act 34 = .ok (.aload_n 0, 1) := by decide +kernel
theorem dX11_act_35 : decode cX11_act 35 = .ok (.iload_n 2, 1) := by decide +kernel
theorem dX11_act_36 : decode cX11_act 36 = .ok (.iload_n 3, 1) := by decide +kernel
theorem dX11_act_37 : decode cX11_act 37 = .ok (.invokevirtual 452, 3) := by decide +kernel
theorem dX11_act_40 : decode cX11_act 40 = .ok (.ireturn, 1) := by decide +kernel
theorem dX11_act_41 : decode cX11_act 41 = .ok (.aload_n 0, 1) := by decide +kernel
theorem dX11_act_42 : decode cX11_act 42 = .ok (.iload_n 2, 1) := by decide +kernel
theorem dX11_act_43 : decode cX11_act 43 = .ok (.invokevirtual 461, 3) := by decide +kernel
theorem dX11_act_46 : decode cX11_act 46 = .ok (.ireturn, 1) := by decide +kernel
theorem dX11_act_47 : decode cX11_act 47 = .ok (.aload_n 0, 1) := by decide +kernel
theorem dX11_act_48 : decode cX11_act 48 = .ok (.invokevirtual 467, 3) := by decide +kernel
theorem dX11_act_51 : decode cX11_act 51 = .ok (.ireturn, 1) := by decide +kernel
theorem dX11_run_0 : decode cX11_run 0 = .ok (.aload_n 0, 1) := by decide +kernel
theorem dX11_run_1 : decode cX11_run 1 = .ok (.getfield 102, 3) := by decide +kernel
theorem dX11_run_4 : decode cX11_run 4 = .ok (.iconst 1, 1) := by decide +kernel
theorem dX11_run_5 : decode cX11_run 5 = .ok (.aload_n 0, 1) := by decide +kernel
theorem dX11_run_6 : decode cX11_run 6 = .ok (.getfield 13, 3) := by decide +kernel
theorem dX11_run_9 : decode cX11_run 9 = .ok (.bipush 6, 2) := by decide +kernel
theorem dX11_run_11 : decode cX11_run 11 = .ok (.iaload, 1) := by decide +kernel
theorem dX11_run_12 : decode cX11_run 12 = .ok (.i2l, 1) := by decide +kernel
theorem dX11_run_13 : decode cX11_run 13 = .ok (.lastore, 1) := by decide +kernel
theorem dX11_run_14 : decode cX11_run 14 = .ok (.aload_n 0, 1) := by decide +kernel
theorem dX11_run_15 : decode cX11_run 15 = .ok (.getfield 102, 3) := by decide +kernel
theorem dX11_run_18 : decode cX11_run 18 = .ok (.iconst 2, 1) := by decide +kernel
theorem dX11_run_19 : decode cX11_run 19 = .ok (.aload_n 0, 1) := by decide +kernel
theorem dX11_run_20 : decode cX11_run 20 = .ok (.getfield 513, 3) := by decide +kernel
theorem dX11_run_23 : decode cX11_run 23 = .ok (.i2l, 1) := by decide +kernel
theorem dX11_run_24 : decode cX11_run 24 = .ok (.lastore, 1) := by decide +kernel
theorem dX11_run_25 : decode cX11_run 25 = .ok (.aload_n 0, 1) := by decide +kernel
theorem dX11_run_26 : decode cX11_run 26 = .ok (.getfield 102, 3) := by decide +kernel
theorem dX11_run_29 : decode cX11_run 29 = .ok (.iconst 3, 1) := by decide +kernel
theorem dX11_run_30 : decode cX11_run 30 = .ok (.aload_n 0, 1) := by decide +kernel
theorem dX11_run_31 : decode cX11_run 31 = .ok (.getfield 516, 3) := by decide +kernel
theorem dX11_run_34 : decode cX11_run 34 = .ok (.i2l, 1) := by decide +kernel
theorem dX11_run_35 : decode cX11_run 35 = .ok (.lastore, 1) := by decide +kernel
theorem dX11_run_36 : decode cX11_run 36 = .ok (.aload_n 0, 1) := by decide +kernel
theorem dX11_run_37 : decode cX11_run 37 = .ok (.getfield 102, 3) := by decide +kernel
theorem dX11_run_40 : decode cX11_run 40 = .ok (.iconst 4, 1) := by decide +kernel
theorem dX11_run_41 : decode cX11_run 41 = .ok (.aload_n 0, 1) := by decide +kernel
theorem dX11_run_42 : decode cX11_run 42 = .ok (.invokevirtual 519, 3) := by decide +kernel
theorem dX11_run_45 : decode cX11_run 45 = .ok (.i2l, 1) := by decide +kernel
theorem dX11_run_46 : decode cX11_run 46 = .ok (.lastore, 1) := by decide +kernel
theorem dX11_run_47 : decode cX11_run 47 = .ok (.aload_n 0, 1) := by decide +kernel
theorem dX11_run_48 : decode cX11_run 48 = .ok (.iconst 0, 1) := by decide +kernel
theorem dX11_run_49 : decode cX11_run 49 = .ok (.putfield 510, 3) := by decide +kernel
theorem dX11_run_52 : decode cX11_run 52 = .ok (.aload_n 0, 1) := by decide +kernel
theorem dX11_run_53 : decode cX11_run 53 = .ok (.getfield 134, 3) := by decide +kernel
theorem dX11_run_56 : decode cX11_run 56 = .ok (.iload_n 1, 1) := by decide +kernel
theorem dX11_run_57 : decode cX11_run 57 = .ok (.iconst 5, 1) := by decide +kernel
theorem dX11_run_58 : decode cX11_run 58 = .ok (.iadd, 1) := by decide +kernel
theorem dX11_run_59 : decode cX11_run 59 = .ok (.iaload, 1) := by decide +kernel
theorem dX11_run_60 : decode cX11_run 60 = .ok (.aload_n 0, 1) := by decide +kernel
theorem dX11_run_61 : decode cX11_run 61 = .ok (.getfield 134, 3) := by decide +kernel
theorem dX11_run_64 : decode cX11_run 64 = .ok (.iload_n 1, 1) := by decide +kernel
theorem dX11_run_65 : decode cX11_run 65 = .ok (.bipush 6, 2) := by decide +kernel
theorem dX11_run_67 : decode cX11_run 67 = .ok (.iadd, 1) := by decide +kernel
theorem dX11_run_68 : decode cX11_run 68 = .ok (.iaload, 1) := by decide +kernel
theorem dX11_run_69 : decode cX11_run 69 = .ok (.if_icmp .ge 24, 3) := by decide +kernel
theorem dX11_run_72 : decode cX11_run 72 = .ok (.aload_n 0, 1) := by decide +kernel
theorem dX11_run_73 : decode cX11_run 73 = .ok (.iload_n 1, 1) := by decide +kernel
theorem dX11_run_74 : decode cX11_run 74 = .ok (.iconst 5, 1) := by decide +kernel
theorem dX11_run_75 : decode cX11_run 75 = .ok (.iadd, 1) := by decide +kernel
theorem dX11_run_76 : decode cX11_run 76 = .ok (.invokevirtual 522, 3) := by decide +kernel
theorem dX11_run_79 : decode cX11_run 79 = .ok (.istore_n 2, 1) := by decide +kernel
theorem dX11_run_80 : decode cX11_run 80 = .ok (.aload_n 0, 1) := by decide +kernel
theorem dX11_run_81 : decode cX11_run 81 = .ok (.getfield 510, 3) := by decide +kernel
theorem dX11_run_84 : decode cX11_run 84 = .ok (.ifCond .ne 7, 3) := by decide +kernel
theorem dX11_run_87 : decode cX11_run 87 = .ok (.iload_n 2, 1) := by decide +kernel
theorem dX11_run_88 : decode cX11_run 88 = .ok (.ifCond .ne 5, 3) := by decide +kernel
theorem dX11_run_91 : decode cX11_run 91 = .ok (.iconst 0, 1) := by decide +kernel
theorem dX11_run_92 : decode cX11_run 92 = .ok (.ireturn, 1) := by decide +kernel
theorem dX11_run_93 : decode cX11_run 93 = .ok (.aload_n 0, 1) := by decide +kernel
theorem dX11_run_94 : decode cX11_run 94 = .ok (.iload_n 1, 1) := by decide +kernel
theorem dX11_run_95 : decode cX11_run 95 = .ok (.iconst 1, 1) := by decide +kernel
theorem dX11_run_96 : decode cX11_run 96 = .ok (.iadd, 1) := by decide +kernel
theorem dX11_run_97 : decode cX11_run 97 = .ok (.invokevirtual 522, 3) := by decide +kernel
theorem dX11_run_100 : decode cX11_run 100 = .ok (.istore_n 2, 1) := by decide +kernel
theorem dX11_run_101 : decode cX11_run 101 = .ok (.aload_n 0, 1) := by decide +kernel
theorem dX11_run_102 : decode cX11_run 102 = .ok (.iload_n 1, 1) := by decide +kernel
theorem dX11_run_103 : decode cX11_run 103 = .ok (.iconst 3, 1) := by decide +kernel
theorem dX11_run_104 : decode cX11_run 104 = .ok (.iadd, 1) := by decide +kernel
theorem dX11_run_105 : decode cX11_run 105 = .ok (.invokevirtual 522, 3) := by decide +kernel
theorem dX11_run_108 : decode cX11_run 108 = .ok (.istore_n 3, 1) := by decide +kernel
theorem dX11_run_109 : decode cX11_run 109 = .ok (.aload_n 0, 1) := by decide +kernel
theorem dX11_run_110 : decode cX11_run 110 = .ok (.getfield 510, 3) := by decide +kernel
theorem dX11_run_113 : decode cX11_run 113 = .ok (.ifCond .eq 6, 3) := by decide +kernel
theorem dX11_run_116 : decode cX11_run 116 = .ok (.bipush (-3), 2) := by decide +kernel
theorem dX11_run_118 : decode cX11_run 118 = .ok (.ireturn, 1) := by decide +kernel
theorem dX11_run_119 : decode cX11_run 119 = .ok (.aload_n 0, 1) := by decide +kernel
theorem dX11_run_120 : decode cX11_run 120 = .ok (.aload_n 0, 1) := by decide +kernel
theorem dX11_run_121 : decode cX11_run 121 = .ok (.getfield 134, 3) := by decide +kernel
theorem dX11_run_124 : decode cX11_run 124 = .ok (.iload_n 1, 1) := by decide +kernel
theorem dX11_run_125 : decode cX11_run 125 = .ok (.iaload, 1) := by decide +kernel
theorem dX11_run_126 : decode cX11_run 126 = .ok (.iload_n 2, 1) := by decide +kernel
theorem dX11_run_127 : decode cX11_run 127 = .ok (.iload_n 3, 1) := by decide +kernel
theorem dX11_run_128 : decode cX11_run 128 = .ok (.invokevirtual 525, 3) := by decide +kernel
theorem dX11_run_131 : decode cX11_run 131 = .ok (.istore 4, 2) := by decide +kernel
theorem dX11_run_133 : decode cX11_run 133 = .ok (.iload 4, 2) := by decide +kernel
theorem dX11_run_135 : decode cX11_run 135 = .ok (.ifCond .ge 6, 3) := by decide +kernel
theorem dX11_run_138 : decode cX11_run 138 = .ok (.bipush (-3), 2) := by decide +kernel
theorem dX11_run_140 : decode cX11_run 140 = .ok (.ireturn, 1) := by decide +kernel
theorem dX11_run_141 : decode cX11_run 141 = .ok (.aload_n 0, 1) := by decide +kernel
theorem dX11_run_142 : decode cX11_run 142 = .ok (.aload_n 0, 1) := by decide +kernel
theorem dX11_run_143 : decode cX11_run 143 = .ok (.getfield 134, 3) := by decide +kernel
theorem dX11_run_146 : decode cX11_run 146 = .ok (.iload_n 1, 1) := by decide +kernel
theorem dX11_run_147 : decode cX11_run 147 = .ok (.iaload, 1) := by decide +kernel
theorem dX11_run_148 : decode cX11_run 148 = .ok (.ifCond .ne 8, 3) := by decide +kernel
theorem dX11_run_151 : decode cX11_run 151 = .ok (.iload 4, 2) := by decide +kernel
theorem dX11_run_153 : decode cX11_run 153 = .ok (.goto 7, 3) := by decide +kernel
theorem dX11_run_156 : decode cX11_run 156 = .ok (.aload_n 0, 1) := by decide +kernel
theorem dX11_run_157 : decode cX11_run 157 = .ok (.getfield 516, 3) := by decide +kernel
theorem dX11_run_160 : decode cX11_run 160 = .ok (.putfield 516, 3) := by decide +kernel
theorem dX11_run_163 : decode cX11_run 163 = .ok (.aload_n 0, 1) := by decide +kernel
theorem dX11_run_164 : decode cX11_run 164 = .ok (.dup, 1) := by decide +kernel
theorem dX11_run_165 : decode cX11_run 165 = .ok (.getfield 513, 3) := by decide +kernel
theorem dX11_run_168 : decode cX11_run 168 = .ok (.iconst 1, 1) := by decide +kernel
theorem dX11_run_169 : decode cX11_run 169 = .ok (.iadd, 1) := by decide +kernel
theorem dX11_run_170 : decode cX11_run 170 = .ok (.putfield 513, 3) := by decide +kernel
theorem dX11_run_173 : decode cX11_run 173 = .ok (.iconst 0, 1) := by decide +kernel
theorem dX11_run_174 : decode cX11_run 174 = .ok (.ireturn, 1) := by decide +kernel
theorem dX11_orders_0 : decode cX11_orders 0 = .ok (.aload_n 0, 1) := by decide +kernel
theorem dX11_orders_1 : decode cX11_orders 1 = .ok (.iconst 0, 1) := by decide +kernel
theorem dX11_orders_2 : decode cX11_orders 2 = .ok (.putfield 149, 3) := by decide +kernel
theorem dX11_orders_5 : decode cX11_orders 5 = .ok (.aload_n 0, 1) := by decide +kernel
theorem dX11_orders_6 : decode cX11_orders 6 = .ok (.iconst (-1), 1) := by decide +kernel
theorem dX11_orders_7 : decode cX11_orders 7 = .ok (.putfield 137, 3) := by decide +kernel
theorem dX11_orders_10 : decode cX11_orders 10 = .ok (.aload_n 0, 1) := by decide +kernel
theorem dX11_orders_11 : decode cX11_orders 11 = .ok (.iconst 1, 1) := by decide +kernel
theorem dX11_orders_12 : decode cX11_orders 12 = .ok (.invokevirtual 383, 3) := by decide +kernel
theorem dX11_orders_15 : decode cX11_orders 15 = .ok (.aload_n 0, 1) := by decide +kernel
theorem dX11_orders_16 : decode cX11_orders 16 = .ok (.invokevirtual 528, 3) := by decide +kernel
theorem dX11_orders_19 : decode cX11_orders 19 = .ok (.aload_n 0, 1) := by decide +kernel
theorem dX11_orders_20 : decode cX11_orders 20 = .ok (.getfield 244, 3) := by decide +kernel
theorem dX11_orders_23 : decode cX11_orders 23 = .ok (.ifCond .ne 23, 3) := by decide +kernel
theorem dX11_orders_26 : decode cX11_orders 26 = .ok (.aload_n 0, 1) := by decide +kernel
theorem dX11_orders_27 : decode cX11_orders 27 = .ok (.bipush 59, 2) := by decide +kernel
theorem dX11_orders_29 : decode cX11_orders 29 = .ok (.invokevirtual 315, 3) := by decide +kernel
theorem dX11_orders_32 : decode cX11_orders 32 = .ok (.ifCond .eq 14, 3) := by decide +kernel
theorem dX11_orders_35 : decode cX11_orders 35 = .ok (.aload_n 0, 1) := by decide +kernel
theorem dX11_orders_36 : decode cX11_orders 36 = .ok (.invokevirtual 248, 3) := by decide +kernel
theorem dX11_orders_39 : decode cX11_orders 39 = .ok (.aload_n 0, 1) := by decide +kernel
theorem dX11_orders_40 : decode cX11_orders 40 = .ok (.invokevirtual 528, 3) := by decide +kernel
theorem dX11_orders_43 : decode cX11_orders 43 = .ok (.goto (-24), 3) := by decide +kernel
theorem dX11_orders_46 : decode cX11_orders 46 = .ok (.aload_n 0, 1) := by decide +kernel
theorem dX11_orders_47 : decode cX11_orders 47 = .ok (.invokevirtual 389, 3) := by decide +kernel
theorem dX11_orders_50 : decode cX11_orders 50 = .ok (.aload_n 0, 1) := by decide +kernel
theorem dX11_orders_51 : decode cX11_orders 51 = .ok (.getfield 244, 3) := by decide +kernel
theorem dX11_orders_54 : decode cX11_orders 54 = .ok (.ifCond .eq 10, 3) := by decide +kernel
theorem dX11_orders_57 : decode cX11_orders 57 = .ok (.aload_n 0, 1) := by decide +kernel
theorem dX11_orders_58 : decode cX11_orders 58 = .ok (.bipush (-6), 2) := by decide +kernel
theorem dX11_orders_60 : decode cX11_orders 60 = .ok (.invokevirtual 158, 3) := by decide +kernel
theorem dX11_orders_63 : decode cX11_orders 63 = .ok (.ireturn, 1) := by decide +kernel
theorem dX11_orders_64 : decode cX11_orders 64 = .ok (.aload_n 0, 1) := by decide +kernel
theorem dX11_orders_65 : decode cX11_orders 65 = .ok (.bipush 17, 2) := by decide +kernel
theorem dX11_orders_67 : decode cX11_orders 67 = .ok (.invokevirtual 162, 3) := by decide +kernel
theorem dX11_orders_70 : decode cX11_orders 70 = .ok (.aload_n 0, 1) := by decide +kernel
theorem dX11_orders_71 : decode cX11_orders 71 = .ok (.getfield 155, 3) := by decide +kernel
theorem dX11_orders_74 : decode cX11_orders 74 = .ok (.istore_n 1, 1) := by decide +kernel
theorem dX11_orders_75 : decode cX11_orders 75 = .ok (.iconst 0, 1) := by decide +kernel
theorem dX11_orders_76 : decode cX11_orders 76 = .ok (.istore_n 2, 1) := by decide +kernel
theorem dX11_orders_77 : decode cX11_orders 77 = .ok (.iload_n 2, 1) := by decide +kernel
theorem dX11_orders_78 : decode cX11_orders 78 = .ok (.sipush 496, 3) := by decide +kernel
theorem dX11_orders_81 : decode cX11_orders 81 = .ok (.if_icmp .ge 21, 3) := by decide +kernel
theorem dX11_orders_84 : decode cX11_orders 84 = .ok (.aload_n 0, 1) := by decide +kernel
theorem dX11_orders_85 : decode cX11_orders 85 = .ok (.getfield 29, 3) := by decide +kernel
theorem dX11_orders_88 : decode cX11_orders 88 = .ok (.iload_n 2, 1) := by decide +kernel
theorem dX11_orders_89 : decode cX11_orders 89 = .ok (.aload_n 0, 1) := by decide +kernel
theorem dX11_orders_90 : decode cX11_orders 90 = .ok (.getfield 23, 3) := by decide +kernel
theorem dX11_orders_93 : decode cX11_orders 93 = .ok (.iload_n 2, 1) := by decide +kernel
theorem dX11_orders_94 : decode cX11_orders 94 = .ok (.iaload, 1) := by decide +kernel
theorem dX11_orders_95 : decode cX11_orders 95 = .ok (.iastore, 1) := by decide +kernel
theorem dX11_orders_96 : decode cX11_orders 96 = .ok (.iinc 2 1, 3) := by decide +kernel
theorem dX11_orders_99 : decode cX11_orders 99 = .ok (.goto (-22), 3) := by decide +kernel
theorem dX11_orders_102 : decode cX11_orders 102 = .ok (.iconst 0, 1) := by decide +kernel
theorem dX11_orders_103 : decode cX11_orders 103 = .ok (.istore_n 2, 1) := by decide +kernel
theorem dX11_orders_104 : decode cX11_orders 104 = .ok (.iload_n 2, 1) := by decide +kernel
theorem dX11_orders_105 : decode cX11_orders 105 = .ok (.bipush 16, 2) := by decide +kernel
theorem dX11_orders_107 : decode cX11_orders 107 = .ok (.if_icmp .ge 21, 3) := by decide +kernel
theorem dX11_orders_110 : decode cX11_orders 110 = .ok (.aload_n 0, 1) := by decide +kernel
theorem dX11_orders_111 : decode cX11_orders 111 = .ok (.getfield 32, 3) := by decide +kernel
theorem dX11_orders_114 : decode cX11_orders 114 = .ok (.iload_n 2, 1) := by decide +kernel
theorem dX11_orders_115 : decode cX11_orders 115 = .ok (.aload_n 0, 1) := by decide +kernel
theorem dX11_orders_116 : decode cX11_orders 116 = .ok (.getfield 26, 3) := by decide +kernel
theorem dX11_orders_119 : decode cX11_orders 119 = .ok (.iload_n 2, 1) := by decide +kernel
theorem dX11_orders_120 : decode cX11_orders 120 = .ok (.iaload, 1) := by decide +kernel
theorem dX11_orders_121 : decode cX11_orders 121 = .ok (.iastore, 1) := by decide +kernel
theorem dX11_orders_122 : decode cX11_orders 122 = .ok (.iinc 2 1, 3) := by decide +kernel
theorem dX11_orders_125 : decode cX11_orders 125 = .ok (.goto (-21), 3) := by decide +kernel
theorem dX11_orders_128 : decode cX11_orders 128 = .ok (.aload_n 0, 1) := by decide +kernel
theorem dX11_orders_129 : decode cX11_orders 129 = .ok (.iconst 0, 1) := by decide +kernel
theorem dX11_orders_130 : decode cX11_orders 130 = .ok (.putfield 513, 3) := by decide +kernel
theorem dX11_orders_133 : decode cX11_orders 133 = .ok (.aload_n 0, 1) := by decide +kernel
theorem dX11_orders_134 : decode cX11_orders 134 = .ok (.iconst (-1), 1) := by decide +kernel
theorem dX11_orders_135 : decode cX11_orders 135 = .ok (.putfield 516, 3) := by decide +kernel
theorem dX11_orders_138 : decode cX11_orders 138 = .ok (.iconst 0, 1) := by decide +kernel
theorem dX11_orders_139 : decode cX11_orders 139 = .ok (.istore_n 2, 1) := by decide +kernel
theorem dX11_orders_140 : decode cX11_orders 140 = .ok (.iload_n 2, 1) := by decide +kernel
theorem dX11_orders_141 : decode cX11_orders 141 = .ok (.aload_n 0, 1) := by decide +kernel
theorem dX11_orders_142 : decode cX11_orders 142 = .ok (.getfield 375, 3) := by decide +kernel
theorem dX11_orders_145 : decode cX11_orders 145 = .ok (.if_icmp .ge 61, 3) := by decide +kernel
theorem dX11_orders_148 : decode cX11_orders 148 = .ok (.iconst 0, 1) := by decide +kernel
theorem dX11_orders_149 : decode cX11_orders 149 = .ok (.istore_n 3, 1) := by decide +kernel
theorem dX11_orders_150 : decode cX11_orders 150 = .ok (.iload_n 3, 1) := by decide +kernel
theorem dX11_orders_151 : decode cX11_orders 151 = .ok (.aload_n 0, 1) := by decide +kernel
theorem dX11_orders_152 : decode cX11_orders 152 = .ok (.getfield 134, 3) := by decide +kernel
theorem dX11_orders_155 : decode cX11_orders 155 = .ok (.bipush 8, 2) := by decide +kernel
theorem dX11_orders_157 : decode cX11_orders 157 = .ok (.iload_n 2, 1) := by decide +kernel
theorem dX11_orders_158 : decode cX11_orders 158 = .ok (.imul, 1) := by decide +kernel
theorem dX11_orders_159 : decode cX11_orders 159 = .ok (.bipush 7, 2) := by decide +kernel
theorem dX11_orders_161 : decode cX11_orders 161 = .ok (.iadd, 1) := by decide +kernel
theorem dX11_orders_162 : decode cX11_orders 162 = .ok (.iaload, 1) := by decide +kernel
theorem dX11_orders_163 : decode cX11_orders 163 = .ok (.if_icmp .ge 37, 3) := by decide +kernel
theorem dX11_orders_166 : decode cX11_orders 166 = .ok (.aload_n 0, 1) := by decide +kernel
theorem dX11_orders_167 : decode cX11_orders 167 = .ok (.bipush 8, 2) := by decide +kernel
theorem dX11_orders_169 : decode cX11_orders 169 = .ok (.iload_n 2, 1) := by decide +kernel
theorem dX11_orders_170 : decode cX11_orders 170 = .ok (.imul, 1) := by decide +kernel
theorem dX11_orders_171 : decode cX11_orders 171 = .ok (.invokevirtual 531, 3) := by decide +kernel
theorem dX11_orders_174 : decode cX11_orders 174 = .ok (.ifCond .ge 20, 3) := by decide +kernel
theorem dX11_orders_177 : decode cX11_orders 177 = .ok (.aload_n 0, 1) := by decide +kernel
theorem dX11_orders_178 : decode cX11_orders 178 = .ok (.iload_n 1, 1) := by decide +kernel
theorem dX11_orders_179 : decode cX11_orders 179 = .ok (.invokevirtual 534, 3) := by decide +kernel
theorem dX11_orders_182 : decode cX11_orders 182 = .ok (.aload_n 0, 1) := by decide +kernel
theorem dX11_orders_183 : decode cX11_orders 183 = .ok (.iload_n 2, 1) := by decide +kernel
theorem dX11_orders_184 : decode cX11_orders 184 = .ok (.putfield 137, 3) := by decide +kernel
theorem dX11_orders_187 : decode cX11_orders 187 = .ok (.aload_n 0, 1) := by decide +kernel
theorem dX11_orders_188 : decode cX11_orders 188 = .ok (.bipush (-3), 2) := by decide +kernel
theorem dX11_orders_190 : decode cX11_orders 190 = .ok (.invokevirtual 158, 3) := by decide +kernel
theorem dX11_orders_193 : decode cX11_orders 193 = .ok (.ireturn, 1) := by decide +kernel
theorem dX11_orders_194 : decode cX11_orders 194 = .ok (.iinc 3 1, 3) := by decide +kernel
theorem dX11_orders_197 : decode cX11_orders 197 = .ok (.goto (-47), 3) := by decide +kernel
theorem dX11_orders_200 : decode cX11_orders 200 = .ok (.iinc 2 1, 3) := by decide +kernel
theorem dX11_orders_203 : decode cX11_orders 203 = .ok (.goto (-63), 3) := by decide +kernel
theorem dX11_orders_206 : decode cX11_orders 206 = .ok (.aload_n 0, 1) := by decide +kernel
theorem dX11_orders_207 : decode cX11_orders 207 = .ok (.aload_n 0, 1) := by decide +kernel
theorem dX11_orders_208 : decode cX11_orders 208 = .ok (.getfield 513, 3) := by decide +kernel
theorem dX11_orders_211 : decode cX11_orders 211 = .ok (.invokevirtual 158, 3) := by decide +kernel
theorem dX11_orders_214 : decode cX11_orders 214 = .ok (.ireturn, 1) := by decide +kernel
theorem dX11_giveBack_0 : decode cX11_giveBack 0 = .ok (.aload_n 0, 1) := by decide +kernel
theorem dX11_giveBack_1 : decode cX11_giveBack 1 = .ok (.bipush 17, 2) := by decide +kernel
theorem dX11_giveBack_3 : decode cX11_giveBack 3 = .ok (.invokevirtual 166, 3) := by decide +kernel
theorem dX11_giveBack_6 : decode cX11_giveBack 6 = .ok (.iconst 0, 1) := by decide +kernel
theorem dX11_giveBack_7 : decode cX11_giveBack 7 = .ok (.istore_n 2, 1) := by decide +kernel
theorem dX11_giveBack_8 : decode cX11_giveBack 8 = .ok (.iload_n 2, 1) := by decide +kernel
theorem dX11_giveBack_9 : decode cX11_giveBack 9 = .ok (.sipush 496, 3) := by decide +kernel
theorem dX11_giveBack_12 : decode cX11_giveBack 12 = .ok (.if_icmp .ge 21, 3) := by decide +kernel
theorem dX11_giveBack_15 : decode cX11_giveBack 15 = .ok (.aload_n 0, 1) := by decide +kernel
theorem dX11_giveBack_16 : decode cX11_giveBack 16 = .ok (.getfield 23, 3) := by decide +kernel
theorem dX11_giveBack_19 : decode cX11_giveBack 19 = .ok (.iload_n 2, 1) := by decide +kernel
theorem dX11_giveBack_20 : decode cX11_giveBack 20 = .ok (.aload_n 0, 1) := by decide +kernel
theorem dX11_giveBack_21 : decode cX11_giveBack 21 = .ok (.getfield 29, 3) := by decide +kernel
theorem dX11_giveBack_24 : decode cX11_giveBack 24 = .ok (.iload_n 2, 1) := by decide +kernel
theorem dX11_giveBack_25 : decode cX11_giveBack 25 = .ok (.iaload, 1) := by decide +kernel
theorem dX11_giveBack_26 : decode cX11_giveBack 26 = .ok (.iastore, 1) := by decide +kernel
theorem dX11_giveBack_27 : decode cX11_giveBack 27 = .ok (.iinc 2 1, 3) := by decide +kernel
theorem dX11_giveBack_30 : decode cX11_giveBack 30 = .ok (.goto (-22), 3) := by decide +kernel
theorem dX11_giveBack_33 : decode cX11_giveBack 33 = .ok (.iconst 0, 1) := by decide +kernel
theorem dX11_giveBack_34 : decode cX11_giveBack 34 = .ok (.istore_n 2, 1) := by decide +kernel
theorem dX11_giveBack_35 : decode cX11_giveBack 35 = .ok (.iload_n 2, 1) := by decide +kernel
theorem dX11_giveBack_36 : decode cX11_giveBack 36 = .ok (.bipush 16, 2) := by decide +kernel
theorem dX11_giveBack_38 : decode cX11_giveBack 38 = .ok (.if_icmp .ge 21, 3) := by decide +kernel
theorem dX11_giveBack_41 : decode cX11_giveBack 41 = .ok (.aload_n 0, 1) := by decide +kernel
theorem dX11_giveBack_42 : decode cX11_giveBack 42 = .ok (.getfield 26, 3) := by decide +kernel
theorem dX11_giveBack_45 : decode cX11_giveBack 45 = .ok (.iload_n 2, 1) := by decide +kernel
theorem dX11_giveBack_46 : decode cX11_giveBack 46 = .ok (.aload_n 0, 1) := by decide +kernel
theorem dX11_giveBack_47 : decode cX11_giveBack 47 = .ok (.getfield 32, 3) := by decide +kernel
theorem dX11_giveBack_50 : decode cX11_giveBack 50 = .ok (.iload_n 2, 1) := by decide +kernel
theorem dX11_giveBack_51 : decode cX11_giveBack 51 = .ok (.iaload, 1) := by decide +kernel
theorem dX11_giveBack_52 : decode cX11_giveBack 52 = .ok (.iastore, 1) := by decide +kernel
theorem dX11_giveBack_53 : decode cX11_giveBack 53 = .ok (.iinc 2 1, 3) := by decide +kernel
theorem dX11_giveBack_56 : decode cX11_giveBack 56 = .ok (.goto (-21), 3) := by decide +kernel
theorem dX11_giveBack_59 : decode cX11_giveBack 59 = .ok (.aload_n 0, 1) := by decide +kernel
theorem dX11_giveBack_60 : decode cX11_giveBack 60 = .ok (.iload_n 1, 1) := by decide +kernel
theorem dX11_giveBack_61 : decode cX11_giveBack 61 = .ok (.putfield 155, 3) := by decide +kernel
theorem dX11_giveBack_64 : decode cX11_giveBack 64 = .ok (.return_, 1) := by decide +kernel
theorem dX11_stopped_0 : decode cX11_stopped 0 = .ok (.aload_n 0, 1) := by decide +kernel
theorem dX11_stopped_1 : decode cX11_stopped 1 = .ok (.iconst 0, 1) := by decide +kernel
theorem dX11_stopped_2 : decode cX11_stopped 2 = .ok (.putfield 149, 3) := by decide +kernel
theorem dX11_stopped_5 : decode cX11_stopped 5 = .ok (.aload_n 0, 1) := by decide +kernel
theorem dX11_stopped_6 : decode cX11_stopped 6 = .ok (.getfield 137, 3) := by decide +kernel
theorem dX11_stopped_9 : decode cX11_stopped 9 = .ok (.ireturn, 1) := by decide +kernel
theorem dX11_draw_0 : decode cX11_draw 0 = .ok (.aload_n 0, 1) := by decide +kernel
theorem dX11_draw_1 : decode cX11_draw 1 = .ok (.aload_n 0, 1) := by decide +kernel
theorem dX11_draw_2 : decode cX11_draw 2 = .ok (.getfield 537, 3) := by decide +kernel
theorem dX11_draw_5 : decode cX11_draw 5 = .ok (.ldc2_w 540, 3) := by decide +kernel
theorem dX11_draw_8 : decode cX11_draw 8 = .ok (.lmul, 1) := by decide +kernel
theorem dX11_draw_9 : decode cX11_draw 9 = .ok (.ldc2_w 542, 3) := by decide +kernel
theorem dX11_draw_12 : decode cX11_draw 12 = .ok (.ladd, 1) := by decide +kernel
theorem dX11_draw_13 : decode cX11_draw 13 = .ok (.ldc2_w 544, 3) := by decide +kernel
theorem dX11_draw_16 : decode cX11_draw 16 = .ok (.lrem, 1) := by decide +kernel
theorem dX11_draw_17 : decode cX11_draw 17 = .ok (.putfield 537, 3) := by decide +kernel
theorem dX11_draw_20 : decode cX11_draw 20 = .ok (.aload_n 0, 1) := by decide +kernel
theorem dX11_draw_21 : decode cX11_draw 21 = .ok (.getfield 537, 3) := by decide +kernel
theorem dX11_draw_24 : decode cX11_draw 24 = .ok (.iload_n 1, 1) := by decide +kernel
theorem dX11_draw_25 : decode cX11_draw 25 = .ok (.i2l, 1) := by decide +kernel
theorem dX11_draw_26 : decode cX11_draw 26 = .ok (.lrem, 1) := by decide +kernel
theorem dX11_draw_27 : decode cX11_draw 27 = .ok (.l2i, 1) := by decide +kernel
theorem dX11_draw_28 : decode cX11_draw 28 = .ok (.ireturn, 1) := by decide +kernel
theorem dX11_centuries_0 : decode cX11_centuries 0 = .ok (.aload_n 0, 1) := by decide +kernel
theorem dX11_centuries_1 : decode cX11_centuries 1 = .ok (.iconst 0, 1) := by decide +kernel
theorem dX11_centuries_2 : decode cX11_centuries 2 = .ok (.putfield 149, 3) := by decide +kernel
theorem dX11_centuries_5 : decode cX11_centuries 5 = .ok (.iload_n 1, 1) := by decide +kernel
theorem dX11_centuries_6 : decode cX11_centuries 6 = .ok (.i2l, 1) := by decide +kernel
theorem dX11_centuries_7 : decode cX11_centuries 7 = .ok (.lconst 0, 1) := by decide +kernel
theorem dX11_centuries_8 : decode cX11_centuries 8 = .ok (.ldc2_w 273, 3) := by decide +kernel
theorem dX11_centuries_11 : decode cX11_centuries 11 = .ok (.invokestatic 169, 3) := by decide +kernel
theorem dX11_centuries_14 : decode cX11_centuries 14 = .ok (.ifCond .eq 15, 3) := by decide +kernel
theorem dX11_centuries_17 : decode cX11_centuries 17 = .ok (.iload_n 2, 1) := by decide +kernel
theorem dX11_centuries_18 : decode cX11_centuries 18 = .ok (.i2l, 1) := by decide +kernel
theorem dX11_centuries_19 : decode cX11_centuries 19 = .ok (.lconst 1, 1) := by decide +kernel
theorem dX11_centuries_20 : decode cX11_centuries 20 = .ok (.ldc2_w 546, 3) := by decide +kernel
theorem dX11_centuries_23 : decode cX11_centuries 23 = .ok (.invokestatic 169, 3) := by decide +kernel
theorem dX11_centuries_26 : decode cX11_centuries 26 = .ok (.ifCond .ne 9, 3) := by decide +kernel
theorem dX11_centuries_29 : decode cX11_centuries 29 = .ok (.aload_n 0, 1) := by decide +kernel
theorem dX11_centuries_30 : decode cX11_centuries 30 = .ok (.iconst (-1), 1) := by decide +kernel
theorem dX11_centuries_31 : decode cX11_centuries 31 = .ok (.invokevirtual 158, 3) := by decide +kernel
theorem dX11_centuries_34 : decode cX11_centuries 34 = .ok (.ireturn, 1) := by decide +kernel
theorem dX11_centuries_35 : decode cX11_centuries 35 = .ok (.aload_n 0, 1) := by decide +kernel
theorem dX11_centuries_36 : decode cX11_centuries 36 = .ok (.getfield 13, 3) := by decide +kernel
theorem dX11_centuries_39 : decode cX11_centuries 39 = .ok (.iconst 2, 1) := by decide +kernel
theorem dX11_centuries_40 : decode cX11_centuries 40 = .ok (.iaload, 1) := by decide +kernel
theorem dX11_centuries_41 : decode cX11_centuries 41 = .ok (.ifCond .ne 10, 3) := by decide +kernel
theorem dX11_centuries_44 : decode cX11_centuries 44 = .ok (.aload_n 0, 1) := by decide +kernel
theorem dX11_centuries_45 : decode cX11_centuries 45 = .ok (.bipush (-3), 2) := by decide +kernel
theorem dX11_centuries_47 : decode cX11_centuries 47 = .ok (.invokevirtual 158, 3) := by decide +kernel
theorem dX11_centuries_50 : decode cX11_centuries 50 = .ok (.ireturn, 1) := by decide +kernel
theorem dX11_centuries_51 : decode cX11_centuries 51 = .ok (.aload_n 0, 1) := by decide +kernel
theorem dX11_centuries_52 : decode cX11_centuries 52 = .ok (.bipush 16, 2) := by decide +kernel
theorem dX11_centuries_54 : decode cX11_centuries 54 = .ok (.invokevirtual 162, 3) := by decide +kernel
theorem dX11_centuries_57 : decode cX11_centuries 57 = .ok (.aload_n 0, 1) := by decide +kernel
theorem dX11_centuries_58 : decode cX11_centuries 58 = .ok (.iload_n 1, 1) := by decide +kernel
theorem dX11_centuries_59 : decode cX11_centuries 59 = .ok (.i2l, 1) := by decide +kernel
theorem dX11_centuries_60 : decode cX11_centuries 60 = .ok (.putfield 537, 3) := by decide +kernel
theorem dX11_centuries_63 : decode cX11_centuries 63 = .ok (.iconst 0, 1) := by decide +kernel
theorem dX11_centuries_64 : decode cX11_centuries 64 = .ok (.istore_n 3, 1) := by decide +kernel
theorem dX11_centuries_65 : decode cX11_centuries 65 = .ok (.iconst 0, 1) := by decide +kernel
theorem dX11_centuries_66 : decode cX11_centuries 66 = .ok (.istore 4, 2) := by decide +kernel
theorem dX11_centuries_68 : decode cX11_centuries 68 = .ok (.iload 4, 2) := by decide +kernel
theorem dX11_centuries_70 : decode cX11_centuries 70 = .ok (.iload_n 2, 1) := by decide +kernel
theorem dX11_centuries_71 : decode cX11_centuries 71 = .ok (.if_icmp .ge 127, 3) := by decide +kernel
theorem dX11_centuries_74 : decode cX11_centuries 74 = .ok (.aload_n 0, 1) := by decide +kernel
theorem dX11_centuries_75 : decode cX11_centuries 75 = .ok (.getfield 13, 3) := by decide +kernel
theorem dX11_centuries_78 : decode cX11_centuries 78 = .ok (.bipush 6, 2) := by decide +kernel
theorem dX11_centuries_80 : decode cX11_centuries 80 = .ok (.iaload, 1) := by decide +kernel
theorem dX11_centuries_81 : decode cX11_centuries 81 = .ok (.sipush 999, 3) := by decide +kernel
theorem dX11_centuries_84 : decode cX11_centuries 84 = .ok (.if_icmp .ge 114, 3) := by decide +kernel
theorem dX11_centuries_87 : decode cX11_centuries 87 = .ok (.aload_n 0, 1) := by decide +kernel
theorem dX11_centuries_88 : decode cX11_centuries 88 = .ok (.aload_n 0, 1) := by decide +kernel
theorem dX11_centuries_89 : decode cX11_centuries 89 = .ok (.getfield 13, 3) := by decide +kernel
theorem dX11_centuries_92 : decode cX11_centuries 92 = .ok (.iconst 2, 1) := by decide +kernel
theorem dX11_centuries_93 : decode cX11_centuries 93 = .ok (.iaload, 1) := by decide +kernel
theorem dX11_centuries_94 : decode cX11_centuries 94 = .ok (.invokevirtual 548, 3) := by decide +kernel
theorem dX11_centuries_97 : decode cX11_centuries 97 = .ok (.istore 5, 2) := by decide +kernel
theorem dX11_centuries_99 : decode cX11_centuries 99 = .ok (.aload_n 0, 1) := by decide +kernel
theorem dX11_centuries_100 : decode cX11_centuries 100 = .ok (.aload_n 0, 1) := by decide +kernel
theorem dX11_centuries_101 : decode cX11_centuries 101 = .ok (.getfield 13, 3) := by decide +kernel
theorem dX11_centuries_104 : decode cX11_centuries 104 = .ok (.iconst 0, 1) := by decide +kernel
theorem dX11_centuries_105 : decode cX11_centuries 105 = .ok (.iaload, 1) := by decide +kernel
theorem dX11_centuries_106 : decode cX11_centuries 106 = .ok (.invokevirtual 548, 3) := by decide +kernel
theorem dX11_centuries_109 : decode cX11_centuries 109 = .ok (.istore 6, 2) := by decide +kernel
theorem dX11_centuries_111 : decode cX11_centuries 111 = .ok (.aload_n 0, 1) := by decide +kernel
theorem dX11_centuries_112 : decode cX11_centuries 112 = .ok (.iconst 3, 1) := by decide +kernel
theorem dX11_centuries_113 : decode cX11_centuries 113 = .ok (.invokevirtual 548, 3) := by decide +kernel
theorem dX11_centuries_116 : decode cX11_centuries 116 = .ok (.istore 7, 2) := by decide +kernel
theorem dX11_centuries_118 : decode cX11_centuries 118 = .ok (.iload 7, 2) := by decide +kernel
theorem dX11_centuries_120 : decode cX11_centuries 120 = .ok (.ifCond .ne 19, 3) := by decide +kernel
theorem dX11_centuries_123 : decode cX11_centuries 123 = .ok (.aload_n 0, 1) := by decide +kernel
theorem dX11_centuries_124 : decode cX11_centuries 124 = .ok (.iload 5, 2) := by decide +kernel
theorem dX11_centuries_126 : decode cX11_centuries 126 = .ok (.invokevirtual 434, 3) := by decide +kernel
theorem dX11_centuries_129 : decode cX11_centuries 129 = .ok (.ifCond .eq 10, 3) := by decide +kernel
theorem dX11_centuries_132 : decode cX11_centuries 132 = .ok (.aload_n 0, 1) := by decide +kernel
theorem dX11_centuries_133 : decode cX11_centuries 133 = .ok (.iload 5, 2) := by decide +kernel
theorem dX11_centuries_135 : decode cX11_centuries 135 = .ok (.invokevirtual 440, 3) := by decide +kernel
theorem dX11_centuries_138 : decode cX11_centuries 138 = .ok (.pop, 1) := by decide +kernel
theorem dX11_centuries_139 : decode cX11_centuries 139 = .ok (.iload 7, 2) := by decide +kernel
theorem dX11_centuries_141 : decode cX11_centuries 141 = .ok (.iconst 1, 1) := by decide +kernel
theorem dX11_centuries_142 : decode cX11_centuries 142 = .ok (.if_icmp .ne 22, 3) := by decide +kernel
theorem dX11_centuries_145 : decode cX11_centuries 145 = .ok (.aload_n 0, 1) := by decide +kernel
theorem dX11_centuries_146 : decode cX11_centuries 146 = .ok (.iload 5, 2) := by decide +kernel
theorem dX11_centuries_148 : decode cX11_centuries 148 = .ok (.iload 6, 2) := by decide +kernel
theorem dX11_centuries_150 : decode cX11_centuries 150 = .ok (.invokevirtual 446, 3) := by decide +kernel
theorem dX11_centuries_153 : decode cX11_centuries 153 = .ok (.ifCond .eq 11, 3) := by decide +kernel
theorem dX11_centuries_156 : decode cX11_centuries 156 = .ok (.aload_n 0, 1) := by decide +kernel
theorem dX11_centuries_157 : decode cX11_centuries 157 = .ok (.iload 5, 2) := by decide +kernel
theorem dX11_centuries_159 : decode cX11_centuries 159 = .ok (.iload 6, 2) := by decide +kernel
theorem dX11_centuries_161 : decode cX11_centuries 161 = .ok (.invokevirtual 449, 3) := by decide +kernel
theorem dX11_centuries_164 : decode cX11_centuries 164 = .ok (.iload 7, 2) := by decide +kernel
theorem dX11_centuries_166 : decode cX11_centuries 166 = .ok (.iconst 2, 1) := by decide +kernel
theorem dX11_centuries_167 : decode cX11_centuries 167 = .ok (.if_icmp .ne 18, 3) := by decide +kernel
theorem dX11_centuries_170 : decode cX11_centuries 170 = .ok (.aload_n 0, 1) := by decide +kernel
theorem dX11_centuries_171 : decode cX11_centuries 171 = .ok (.iload 5, 2) := by decide +kernel
theorem dX11_centuries_173 : decode cX11_centuries 173 = .ok (.invokevirtual 455, 3) := by decide +kernel
theorem dX11_centuries_176 : decode cX11_centuries 176 = .ok (.ifCond .eq 9, 3) := by decide +kernel
theorem dX11_centuries_179 : decode cX11_centuries 179 = .ok (.aload_n 0, 1) := by decide +kernel
theorem dX11_centuries_180 : decode cX11_centuries 180 = .ok (.iload 5, 2) := by decide +kernel
theorem dX11_centuries_182 : decode cX11_centuries 182 = .ok (.invokevirtual 458, 3) := by decide +kernel
theorem dX11_centuries_185 : decode cX11_centuries 185 = .ok (.iload_n 3, 1) := by decide +kernel
theorem dX11_centuries_186 : decode cX11_centuries 186 = .ok (.aload_n 0, 1) := by decide +kernel
theorem dX11_centuries_187 : decode cX11_centuries 187 = .ok (.invokevirtual 464, 3) := by decide +kernel
theorem dX11_centuries_190 : decode cX11_centuries 190 = .ok (.iadd, 1) := by decide +kernel
theorem dX11_centuries_191 : decode cX11_centuries 191 = .ok (.istore_n 3, 1) := by decide +kernel
theorem dX11_centuries_192 : decode cX11_centuries 192 = .ok (.iinc 4 1, 3) := by decide +kernel
theorem dX11_centuries_195 : decode cX11_centuries 195 = .ok (.goto (-127), 3) := by decide +kernel
theorem dX11_centuries_198 : decode cX11_centuries 198 = .ok (.iconst 0, 1) := by decide +kernel
theorem dX11_centuries_199 : decode cX11_centuries 199 = .ok (.istore 4, 2) := by decide +kernel
theorem dX11_centuries_201 : decode cX11_centuries 201 = .ok (.iload 4, 2) := by decide +kernel
theorem dX11_centuries_203 : decode cX11_centuries 203 = .ok (.bipush 31, 2) := by decide +kernel
theorem dX11_centuries_205 : decode cX11_centuries 205 = .ok (.if_icmp .ge 26, 3) := by decide +kernel
theorem dX11_centuries_208 : decode cX11_centuries 208 = .ok (.aload_n 0, 1) := by decide +kernel
theorem dX11_centuries_209 : decode cX11_centuries 209 = .ok (.getfield 140, 3) := by decide +kernel
theorem dX11_centuries_212 : decode cX11_centuries 212 = .ok (.iload 4, 2) := by decide +kernel
theorem dX11_centuries_214 : decode cX11_centuries 214 = .ok (.aload_n 0, 1) := by decide +kernel
theorem dX11_centuries_215 : decode cX11_centuries 215 = .ok (.getfield 13, 3) := by decide +kernel
theorem dX11_centuries_218 : decode cX11_centuries 218 = .ok (.bipush 6, 2) := by decide +kernel
theorem dX11_centuries_220 : decode cX11_centuries 220 = .ok (.iload 4, 2) := by decide +kernel
theorem dX11_centuries_222 : decode cX11_centuries 222 = .ok (.iadd, 1) := by decide +kernel
theorem dX11_centuries_223 : decode cX11_centuries 223 = .ok (.iaload, 1) := by decide +kernel
theorem dX11_centuries_224 : decode cX11_centuries 224 = .ok (.iastore, 1) := by decide +kernel
theorem dX11_centuries_225 : decode cX11_centuries 225 = .ok (.iinc 4 1, 3) := by decide +kernel
theorem dX11_centuries_228 : decode cX11_centuries 228 = .ok (.goto (-27), 3) := by decide +kernel
theorem dX11_centuries_231 : decode cX11_centuries 231 = .ok (.aload_n 0, 1) := by decide +kernel
theorem dX11_centuries_232 : decode cX11_centuries 232 = .ok (.aload_n 0, 1) := by decide +kernel
theorem dX11_centuries_233 : decode cX11_centuries 233 = .ok (.getfield 13, 3) := by decide +kernel
theorem dX11_centuries_236 : decode cX11_centuries 236 = .ok (.iconst 2, 1) := by decide +kernel
theorem dX11_centuries_237 : decode cX11_centuries 237 = .ok (.iaload, 1) := by decide +kernel
theorem dX11_centuries_238 : decode cX11_centuries 238 = .ok (.putfield 143, 3) := by decide +kernel
theorem dX11_centuries_241 : decode cX11_centuries 241 = .ok (.aload_n 0, 1) := by decide +kernel
theorem dX11_centuries_242 : decode cX11_centuries 242 = .ok (.aload_n 0, 1) := by decide +kernel
theorem dX11_centuries_243 : decode cX11_centuries 243 = .ok (.getfield 13, 3) := by decide +kernel
theorem dX11_centuries_246 : decode cX11_centuries 246 = .ok (.iconst 1, 1) := by decide +kernel
theorem dX11_centuries_247 : decode cX11_centuries 247 = .ok (.iaload, 1) := by decide +kernel
theorem dX11_centuries_248 : decode cX11_centuries 248 = .ok (.putfield 146, 3) := by decide +kernel
theorem dX11_centuries_251 : decode cX11_centuries 251 = .ok (.aload_n 0, 1) := by decide +kernel
theorem dX11_centuries_252 : decode cX11_centuries 252 = .ok (.bipush 16, 2) := by decide +kernel
theorem dX11_centuries_254 : decode cX11_centuries 254 = .ok (.invokevirtual 166, 3) := by decide +kernel
theorem dX11_centuries_257 : decode cX11_centuries 257 = .ok (.aload_n 0, 1) := by decide +kernel
theorem dX11_centuries_258 : decode cX11_centuries 258 = .ok (.iload_n 3, 1) := by decide +kernel
theorem dX11_centuries_259 : decode cX11_centuries 259 = .ok (.invokevirtual 158, 3) := by decide +kernel
theorem dX11_centuries_262 : decode cX11_centuries 262 = .ok (.ireturn, 1) := by decide +kernel
theorem dX11_drawn_0 : decode cX11_drawn 0 = .ok (.aload_n 0, 1) := by decide +kernel
theorem dX11_drawn_1 : decode cX11_drawn 1 = .ok (.iconst 0, 1) := by decide +kernel
theorem dX11_drawn_2 : decode cX11_drawn 2 = .ok (.putfield 149, 3) := by decide +kernel
theorem dX11_drawn_5 : decode cX11_drawn 5 = .ok (.iload_n 2, 1) := by decide +kernel
theorem dX11_drawn_6 : decode cX11_drawn 6 = .ok (.i2l, 1) := by decide +kernel
theorem dX11_drawn_7 : decode cX11_drawn 7 = .ok (.lconst 0, 1) := by decide +kernel
theorem dX11_drawn_8 : decode cX11_drawn 8 = .ok (.ldc2_w 471, 3) := by decide +kernel
theorem dX11_drawn_11 : decode cX11_drawn 11 = .ok (.invokestatic 169, 3) := by decide +kernel
theorem dX11_drawn_14 : decode cX11_drawn 14 = .ok (.ifCond .eq 31, 3) := by decide +kernel
theorem dX11_drawn_17 : decode cX11_drawn 17 = .ok (.iload_n 1, 1) := by decide +kernel
theorem dX11_drawn_18 : decode cX11_drawn 18 = .ok (.i2l, 1) := by decide +kernel
theorem dX11_drawn_19 : decode cX11_drawn 19 = .ok (.lconst 0, 1) := by decide +kernel
theorem dX11_drawn_20 : decode cX11_drawn 20 = .ok (.iload_n 2, 1) := by decide +kernel
theorem dX11_drawn_21 : decode cX11_drawn 21 = .ok (.iconst 2, 1) := by decide +kernel
theorem dX11_drawn_22 : decode cX11_drawn 22 = .ok (.if_icmp .ge 10, 3) := by decide +kernel
theorem dX11_drawn_25 : decode cX11_drawn 25 = .ok (.aload_n 0, 1) := by decide +kernel
theorem dX11_drawn_26 : decode cX11_drawn 26 = .ok (.getfield 143, 3) := by decide +kernel
theorem dX11_drawn_29 : decode cX11_drawn 29 = .ok (.goto 7, 3) := by decide +kernel
theorem dX11_drawn_32 : decode cX11_drawn 32 = .ok (.aload_n 0, 1) := by decide +kernel
theorem dX11_drawn_33 : decode cX11_drawn 33 = .ok (.getfield 146, 3) := by decide +kernel
theorem dX11_drawn_36 : decode cX11_drawn 36 = .ok (.i2l, 1) := by decide +kernel
theorem dX11_drawn_37 : decode cX11_drawn 37 = .ok (.lconst 1, 1) := by decide +kernel
theorem dX11_drawn_38 : decode cX11_drawn 38 = .ok (.lsub, 1) := by decide +kernel
theorem dX11_drawn_39 : decode cX11_drawn 39 = .ok (.invokestatic 169, 3) := by decide +kernel
theorem dX11_drawn_42 : decode cX11_drawn 42 = .ok (.ifCond .ne 6, 3) := by decide +kernel
theorem dX11_drawn_45 : decode cX11_drawn 45 = .ok (.bipush (-100), 2) := by decide +kernel
theorem dX11_drawn_47 : decode cX11_drawn 47 = .ok (.ireturn, 1) := by decide +kernel
theorem dX11_drawn_48 : decode cX11_drawn 48 = .ok (.iload_n 2, 1) := by decide +kernel
theorem dX11_drawn_49 : decode cX11_drawn 49 = .ok (.ifCond .ne 8, 3) := by decide +kernel
theorem dX11_drawn_52 : decode cX11_drawn 52 = .ok (.bipush 9, 2) := by decide +kernel
theorem dX11_drawn_54 : decode cX11_drawn 54 = .ok (.goto 15, 3) := by decide +kernel
theorem dX11_drawn_57 : decode cX11_drawn 57 = .ok (.iload_n 2, 1) := by decide +kernel
theorem dX11_drawn_58 : decode cX11_drawn 58 = .ok (.iconst 1, 1) := by decide +kernel
theorem dX11_drawn_59 : decode cX11_drawn 59 = .ok (.if_icmp .ne 8, 3) := by decide +kernel
theorem dX11_drawn_62 : decode cX11_drawn 62 = .ok (.bipush 17, 2) := by decide +kernel
theorem dX11_drawn_64 : decode cX11_drawn 64 = .ok (.goto 5, 3) := by decide +kernel
theorem dX11_drawn_67 : decode cX11_drawn 67 = .ok (.bipush 33, 2) := by decide +kernel
theorem dX11_drawn_69 : decode cX11_drawn 69 = .ok (.istore_n 3, 1) := by decide +kernel
theorem dX11_drawn_70 : decode cX11_drawn 70 = .ok (.aload_n 0, 1) := by decide +kernel
theorem dX11_drawn_71 : decode cX11_drawn 71 = .ok (.getfield 140, 3) := by decide +kernel
theorem dX11_drawn_74 : decode cX11_drawn 74 = .ok (.iload_n 3, 1) := by decide +kernel
theorem dX11_drawn_75 : decode cX11_drawn 75 = .ok (.bipush 6, 2) := by decide +kernel
theorem dX11_drawn_77 : decode cX11_drawn 77 = .ok (.isub, 1) := by decide +kernel
theorem dX11_drawn_78 : decode cX11_drawn 78 = .ok (.iload_n 1, 1) := by decide +kernel
theorem dX11_drawn_79 : decode cX11_drawn 79 = .ok (.iadd, 1) := by decide +kernel
theorem dX11_drawn_80 : decode cX11_drawn 80 = .ok (.iaload, 1) := by decide +kernel
theorem dX11_drawn_81 : decode cX11_drawn 81 = .ok (.ireturn, 1) := by decide +kernel
theorem dX11_count_0 : decode cX11_count 0 = .ok (.aload_n 0, 1) := by decide +kernel
theorem dX11_count_1 : decode cX11_count 1 = .ok (.iconst 0, 1) := by decide +kernel
theorem dX11_count_2 : decode cX11_count 2 = .ok (.putfield 149, 3) := by decide +kernel
theorem dX11_count_5 : decode cX11_count 5 = .ok (.iload_n 1, 1) := by decide +kernel
theorem dX11_count_6 : decode cX11_count 6 = .ok (.tableswitch 163 0 13 #[70, 77, 84, 91, 96, 103, 110, 115, 120, 127, 134, 141, 148, 156], 70) := by decide +kernel
theorem dX11_count_76 : decode cX11_count 76 = .ok (.aload_n 0, 1) := by decide +kernel
theorem dX11_count_77 : decode cX11_count 77 = .ok (.getfield 13, 3) := by decide +kernel
theorem dX11_count_80 : decode cX11_count 80 = .ok (.iconst 0, 1) := by decide +kernel
theorem dX11_count_81 : decode cX11_count 81 = .ok (.iaload, 1) := by decide +kernel
theorem dX11_count_82 : decode cX11_count 82 = .ok (.ireturn, 1) := by decide +kernel
theorem dX11_count_83 : decode cX11_count 83 = .ok (.aload_n 0, 1) := by decide +kernel
theorem dX11_count_84 : decode cX11_count 84 = .ok (.getfield 13, 3) := by decide +kernel
theorem dX11_count_87 : decode cX11_count 87 = .ok (.iconst 1, 1) := by decide +kernel
theorem dX11_count_88 : decode cX11_count 88 = .ok (.iaload, 1) := by decide +kernel
theorem dX11_count_89 : decode cX11_count 89 = .ok (.ireturn, 1) := by decide +kernel
theorem dX11_count_90 : decode cX11_count 90 = .ok (.aload_n 0, 1) := by decide +kernel
theorem dX11_count_91 : decode cX11_count 91 = .ok (.getfield 13, 3) := by decide +kernel
theorem dX11_count_94 : decode cX11_count 94 = .ok (.iconst 2, 1) := by decide +kernel
theorem dX11_count_95 : decode cX11_count 95 = .ok (.iaload, 1) := by decide +kernel
theorem dX11_count_96 : decode cX11_count 96 = .ok (.ireturn, 1) := by decide +kernel
theorem dX11_count_97 : decode cX11_count 97 = .ok (.aload_n 0, 1) := by decide +kernel
theorem dX11_count_98 : decode cX11_count 98 = .ok (.invokevirtual 519, 3) := by decide +kernel
theorem dX11_count_101 : decode cX11_count 101 = .ok (.ireturn, 1) := by decide +kernel
theorem dX11_count_102 : decode cX11_count 102 = .ok (.aload_n 0, 1) := by decide +kernel
theorem dX11_count_103 : decode cX11_count 103 = .ok (.getfield 13, 3) := by decide +kernel
theorem dX11_count_106 : decode cX11_count 106 = .ok (.iconst 3, 1) := by decide +kernel
theorem dX11_count_107 : decode cX11_count 107 = .ok (.iaload, 1) := by decide +kernel
theorem dX11_count_108 : decode cX11_count 108 = .ok (.ireturn, 1) := by decide +kernel
theorem dX11_count_109 : decode cX11_count 109 = .ok (.aload_n 0, 1) := by decide +kernel
theorem dX11_count_110 : decode cX11_count 110 = .ok (.getfield 13, 3) := by decide +kernel
theorem dX11_count_113 : decode cX11_count 113 = .ok (.iconst 4, 1) := by decide +kernel
theorem dX11_count_114 : decode cX11_count 114 = .ok (.iaload, 1) := by decide +kernel
theorem dX11_count_115 : decode cX11_count 115 = .ok (.ireturn, 1) := by decide +kernel
theorem dX11_count_116 : decode cX11_count 116 = .ok (.aload_n 0, 1) := by decide +kernel
theorem dX11_count_117 : decode cX11_count 117 = .ok (.getfield 155, 3) := by decide +kernel
theorem dX11_count_120 : decode cX11_count 120 = .ok (.ireturn, 1) := by decide +kernel
theorem dX11_count_121 : decode cX11_count 121 = .ok (.aload_n 0, 1) := by decide +kernel
theorem dX11_count_122 : decode cX11_count 122 = .ok (.getfield 232, 3) := by decide +kernel
theorem dX11_count_125 : decode cX11_count 125 = .ok (.ireturn, 1) := by decide +kernel
theorem dX11_count_126 : decode cX11_count 126 = .ok (.aload_n 0, 1) := by decide +kernel
theorem dX11_count_127 : decode cX11_count 127 = .ok (.getfield 7, 3) := by decide +kernel
theorem dX11_count_130 : decode cX11_count 130 = .ok (.iconst 1, 1) := by decide +kernel
theorem dX11_count_131 : decode cX11_count 131 = .ok (.iaload, 1) := by decide +kernel
theorem dX11_count_132 : decode cX11_count 132 = .ok (.ireturn, 1) := by decide +kernel
theorem dX11_count_133 : decode cX11_count 133 = .ok (.aload_n 0, 1) := by decide +kernel
theorem dX11_count_134 : decode cX11_count 134 = .ok (.getfield 7, 3) := by decide +kernel
theorem dX11_count_137 : decode cX11_count 137 = .ok (.iconst 2, 1) := by decide +kernel
theorem dX11_count_138 : decode cX11_count 138 = .ok (.iaload, 1) := by decide +kernel
theorem dX11_count_139 : decode cX11_count 139 = .ok (.ireturn, 1) := by decide +kernel
theorem dX11_count_140 : decode cX11_count 140 = .ok (.aload_n 0, 1) := by decide +kernel
theorem dX11_count_141 : decode cX11_count 141 = .ok (.getfield 7, 3) := by decide +kernel
theorem dX11_count_144 : decode cX11_count 144 = .ok (.iconst 3, 1) := by decide +kernel
theorem dX11_count_145 : decode cX11_count 145 = .ok (.iaload, 1) := by decide +kernel
theorem dX11_count_146 : decode cX11_count 146 = .ok (.ireturn, 1) := by decide +kernel
theorem dX11_count_147 : decode cX11_count 147 = .ok (.aload_n 0, 1) := by decide +kernel
theorem dX11_count_148 : decode cX11_count 148 = .ok (.getfield 7, 3) := by decide +kernel
theorem dX11_count_151 : decode cX11_count 151 = .ok (.iconst 5, 1) := by decide +kernel
theorem dX11_count_152 : decode cX11_count 152 = .ok (.iaload, 1) := by decide +kernel
theorem dX11_count_153 : decode cX11_count 153 = .ok (.ireturn, 1) := by decide +kernel
theorem dX11_count_154 : decode cX11_count 154 = .ok (.aload_n 0, 1) := by decide +kernel
theorem dX11_count_155 : decode cX11_count 155 = .ok (.getfield 7, 3) := by decide +kernel
theorem dX11_count_158 : decode cX11_count 158 = .ok (.bipush 6, 2) := by decide +kernel
theorem dX11_count_160 : decode cX11_count 160 = .ok (.iaload, 1) := by decide +kernel
theorem dX11_count_161 : decode cX11_count 161 = .ok (.ireturn, 1) := by decide +kernel
theorem dX11_count_162 : decode cX11_count 162 = .ok (.aload_n 0, 1) := by decide +kernel
theorem dX11_count_163 : decode cX11_count 163 = .ok (.getfield 13, 3) := by decide +kernel
theorem dX11_count_166 : decode cX11_count 166 = .ok (.iconst 5, 1) := by decide +kernel
theorem dX11_count_167 : decode cX11_count 167 = .ok (.iaload, 1) := by decide +kernel
theorem dX11_count_168 : decode cX11_count 168 = .ok (.ireturn, 1) := by decide +kernel
theorem dX11_count_169 : decode cX11_count 169 = .ok (.iload_n 1, 1) := by decide +kernel
theorem dX11_count_170 : decode cX11_count 170 = .ok (.i2l, 1) := by decide +kernel
theorem dX11_count_171 : decode cX11_count 171 = .ok (.ldc2_w 551, 3) := by decide +kernel
theorem dX11_count_174 : decode cX11_count 174 = .ok (.ldc2_w 553, 3) := by decide +kernel
theorem dX11_count_177 : decode cX11_count 177 = .ok (.invokestatic 169, 3) := by decide +kernel
theorem dX11_count_180 : decode cX11_count 180 = .ok (.ifCond .eq 18, 3) := by decide +kernel
theorem dX11_count_183 : decode cX11_count 183 = .ok (.aload_n 0, 1) := by decide +kernel
theorem dX11_count_184 : decode cX11_count 184 = .ok (.getfield 13, 3) := by decide +kernel
theorem dX11_count_187 : decode cX11_count 187 = .ok (.bipush 6, 2) := by decide +kernel
theorem dX11_count_189 : decode cX11_count 189 = .ok (.iload_n 1, 1) := by decide +kernel
theorem dX11_count_190 : decode cX11_count 190 = .ok (.iadd, 1) := by decide +kernel
theorem dX11_count_191 : decode cX11_count 191 = .ok (.bipush 14, 2) := by decide +kernel
theorem dX11_count_193 : decode cX11_count 193 = .ok (.isub, 1) := by decide +kernel
theorem dX11_count_194 : decode cX11_count 194 = .ok (.iaload, 1) := by decide +kernel
theorem dX11_count_195 : decode cX11_count 195 = .ok (.goto 4, 3) := by decide +kernel
theorem dX11_count_198 : decode cX11_count 198 = .ok (.iconst (-1), 1) := by decide +kernel
theorem dX11_count_199 : decode cX11_count 199 = .ok (.ireturn, 1) := by decide +kernel
theorem dX11_status_0 : decode cX11_status 0 = .ok (.aload_n 0, 1) := by decide +kernel
theorem dX11_status_1 : decode cX11_status 1 = .ok (.iconst 0, 1) := by decide +kernel
theorem dX11_status_2 : decode cX11_status 2 = .ok (.putfield 149, 3) := by decide +kernel
theorem dX11_status_5 : decode cX11_status 5 = .ok (.aload_n 0, 1) := by decide +kernel
theorem dX11_status_6 : decode cX11_status 6 = .ok (.getfield 152, 3) := by decide +kernel
theorem dX11_status_9 : decode cX11_status 9 = .ok (.ireturn, 1) := by decide +kernel
theorem dJ6_bitCount_0f7a4_0 : decode cJ6_bitCount_0f7a4 0 = .ok (.iload_n 0, 1) := by decide +kernel
theorem dJ6_bitCount_0f7a4_1 : decode cJ6_bitCount_0f7a4 1 = .ok (.iload_n 0, 1) := by decide +kernel
theorem dJ6_bitCount_0f7a4_2 : decode cJ6_bitCount_0f7a4 2 = .ok (.iconst 1, 1) := by decide +kernel
theorem dJ6_bitCount_0f7a4_3 : decode cJ6_bitCount_0f7a4 3 = .ok (.iushr, 1) := by decide +kernel
theorem dJ6_bitCount_0f7a4_4 : decode cJ6_bitCount_0f7a4 4 = .ok (.ldc_w 265, 3) := by decide +kernel
theorem dJ6_bitCount_0f7a4_7 : decode cJ6_bitCount_0f7a4 7 = .ok (.iand, 1) := by decide +kernel
theorem dJ6_bitCount_0f7a4_8 : decode cJ6_bitCount_0f7a4 8 = .ok (.isub, 1) := by decide +kernel
theorem dJ6_bitCount_0f7a4_9 : decode cJ6_bitCount_0f7a4 9 = .ok (.istore_n 0, 1) := by decide +kernel
theorem dJ6_bitCount_0f7a4_10 : decode cJ6_bitCount_0f7a4 10 = .ok (.iload_n 0, 1) := by decide +kernel
theorem dJ6_bitCount_0f7a4_11 : decode cJ6_bitCount_0f7a4 11 = .ok (.ldc_w 266, 3) := by decide +kernel
theorem dJ6_bitCount_0f7a4_14 : decode cJ6_bitCount_0f7a4 14 = .ok (.iand, 1) := by decide +kernel
theorem dJ6_bitCount_0f7a4_15 : decode cJ6_bitCount_0f7a4 15 = .ok (.iload_n 0, 1) := by decide +kernel
theorem dJ6_bitCount_0f7a4_16 : decode cJ6_bitCount_0f7a4 16 = .ok (.iconst 2, 1) := by decide +kernel
theorem dJ6_bitCount_0f7a4_17 : decode cJ6_bitCount_0f7a4 17 = .ok (.iushr, 1) := by decide +kernel
theorem dJ6_bitCount_0f7a4_18 : decode cJ6_bitCount_0f7a4 18 = .ok (.ldc_w 266, 3) := by decide +kernel
theorem dJ6_bitCount_0f7a4_21 : decode cJ6_bitCount_0f7a4 21 = .ok (.iand, 1) := by decide +kernel
theorem dJ6_bitCount_0f7a4_22 : decode cJ6_bitCount_0f7a4 22 = .ok (.iadd, 1) := by decide +kernel
theorem dJ6_bitCount_0f7a4_23 : decode cJ6_bitCount_0f7a4 23 = .ok (.istore_n 0, 1) := by decide +kernel
theorem dJ6_bitCount_0f7a4_24 : decode cJ6_bitCount_0f7a4 24 = .ok (.iload_n 0, 1) := by decide +kernel
theorem dJ6_bitCount_0f7a4_25 : decode cJ6_bitCount_0f7a4 25 = .ok (.iload_n 0, 1) := by decide +kernel
theorem dJ6_bitCount_0f7a4_26 : decode cJ6_bitCount_0f7a4 26 = .ok (.iconst 4, 1) := by decide +kernel
theorem dJ6_bitCount_0f7a4_27 : decode cJ6_bitCount_0f7a4 27 = .ok (.iushr, 1) := by decide +kernel
theorem dJ6_bitCount_0f7a4_28 : decode cJ6_bitCount_0f7a4 28 = .ok (.iadd, 1) := by decide +kernel
theorem dJ6_bitCount_0f7a4_29 : decode cJ6_bitCount_0f7a4 29 = .ok (.ldc_w 267, 3) := by decide +kernel
theorem dJ6_bitCount_0f7a4_32 : decode cJ6_bitCount_0f7a4 32 = .ok (.iand, 1) := by decide +kernel
theorem dJ6_bitCount_0f7a4_33 : decode cJ6_bitCount_0f7a4 33 = .ok (.istore_n 0, 1) := by decide +kernel
theorem dJ6_bitCount_0f7a4_34 : decode cJ6_bitCount_0f7a4 34 = .ok (.iload_n 0, 1) := by decide +kernel
theorem dJ6_bitCount_0f7a4_35 : decode cJ6_bitCount_0f7a4 35 = .ok (.iload_n 0, 1) := by decide +kernel
theorem dJ6_bitCount_0f7a4_36 : decode cJ6_bitCount_0f7a4 36 = .ok (.bipush 8, 2) := by decide +kernel
theorem dJ6_bitCount_0f7a4_38 : decode cJ6_bitCount_0f7a4 38 = .ok (.iushr, 1) := by decide +kernel
theorem dJ6_bitCount_0f7a4_39 : decode cJ6_bitCount_0f7a4 39 = .ok (.iadd, 1) := by decide +kernel
theorem dJ6_bitCount_0f7a4_40 : decode cJ6_bitCount_0f7a4 40 = .ok (.istore_n 0, 1) := by decide +kernel
theorem dJ6_bitCount_0f7a4_41 : decode cJ6_bitCount_0f7a4 41 = .ok (.iload_n 0, 1) := by decide +kernel
theorem dJ6_bitCount_0f7a4_42 : decode cJ6_bitCount_0f7a4 42 = .ok (.iload_n 0, 1) := by decide +kernel
theorem dJ6_bitCount_0f7a4_43 : decode cJ6_bitCount_0f7a4 43 = .ok (.bipush 16, 2) := by decide +kernel
theorem dJ6_bitCount_0f7a4_45 : decode cJ6_bitCount_0f7a4 45 = .ok (.iushr, 1) := by decide +kernel
theorem dJ6_bitCount_0f7a4_46 : decode cJ6_bitCount_0f7a4 46 = .ok (.iadd, 1) := by decide +kernel
theorem dJ6_bitCount_0f7a4_47 : decode cJ6_bitCount_0f7a4 47 = .ok (.istore_n 0, 1) := by decide +kernel
theorem dJ6_bitCount_0f7a4_48 : decode cJ6_bitCount_0f7a4 48 = .ok (.iload_n 0, 1) := by decide +kernel
theorem dJ6_bitCount_0f7a4_49 : decode cJ6_bitCount_0f7a4 49 = .ok (.bipush 63, 2) := by decide +kernel
theorem dJ6_bitCount_0f7a4_51 : decode cJ6_bitCount_0f7a4 51 = .ok (.iand, 1) := by decide +kernel
theorem dJ6_bitCount_0f7a4_52 : decode cJ6_bitCount_0f7a4 52 = .ok (.ireturn, 1) := by decide +kernel
theorem dJ9_max_7cf53_0 : decode cJ9_max_7cf53 0 = .ok (.iload_n 0, 1) := by decide +kernel
theorem dJ9_max_7cf53_1 : decode cJ9_max_7cf53 1 = .ok (.iload_n 1, 1) := by decide +kernel
theorem dJ9_max_7cf53_2 : decode cJ9_max_7cf53 2 = .ok (.if_icmp .lt 7, 3) := by decide +kernel
theorem dJ9_max_7cf53_5 : decode cJ9_max_7cf53 5 = .ok (.iload_n 0, 1) := by decide +kernel
theorem dJ9_max_7cf53_6 : decode cJ9_max_7cf53 6 = .ok (.goto 4, 3) := by decide +kernel
theorem dJ9_max_7cf53_9 : decode cJ9_max_7cf53 9 = .ok (.iload_n 1, 1) := by decide +kernel
theorem dJ9_max_7cf53_10 : decode cJ9_max_7cf53 10 = .ok (.ireturn, 1) := by decide +kernel
theorem dJ9_min_7cf53_0 : decode cJ9_min_7cf53 0 = .ok (.iload_n 0, 1) := by decide +kernel
theorem dJ9_min_7cf53_1 : decode cJ9_min_7cf53 1 = .ok (.iload_n 1, 1) := by decide +kernel
theorem dJ9_min_7cf53_2 : decode cJ9_min_7cf53 2 = .ok (.if_icmp .gt 7, 3) := by decide +kernel
theorem dJ9_min_7cf53_5 : decode cJ9_min_7cf53 5 = .ok (.iload_n 0, 1) := by decide +kernel
theorem dJ9_min_7cf53_6 : decode cJ9_min_7cf53 6 = .ok (.goto 4, 3) := by decide +kernel
theorem dJ9_min_7cf53_9 : decode cJ9_min_7cf53 9 = .ok (.iload_n 1, 1) := by decide +kernel
theorem dJ9_min_7cf53_10 : decode cJ9_min_7cf53 10 = .ok (.ireturn, 1) := by decide +kernel
theorem dL_law_0 : decode cL_law 0 = .ok (.new 7, 3) := by decide +kernel
theorem dL_law_3 : decode cL_law 3 = .ok (.dup, 1) := by decide +kernel
theorem dL_law_4 : decode cL_law 4 = .ok (.invokespecial 9, 3) := by decide +kernel
theorem dL_law_7 : decode cL_law 7 = .ok (.astore_n 1, 1) := by decide +kernel
theorem dL_law_8 : decode cL_law 8 = .ok (.new 10, 3) := by decide +kernel
theorem dL_law_11 : decode cL_law 11 = .ok (.dup, 1) := by decide +kernel
theorem dL_law_12 : decode cL_law 12 = .ok (.invokespecial 12, 3) := by decide +kernel
theorem dL_law_15 : decode cL_law 15 = .ok (.astore_n 2, 1) := by decide +kernel
theorem dL_law_16 : decode cL_law 16 = .ok (.iconst 0, 1) := by decide +kernel
theorem dL_law_17 : decode cL_law 17 = .ok (.istore_n 3, 1) := by decide +kernel
theorem dL_law_18 : decode cL_law 18 = .ok (.iload_n 3, 1) := by decide +kernel
theorem dL_law_19 : decode cL_law 19 = .ok (.aload_n 0, 1) := by decide +kernel
theorem dL_law_20 : decode cL_law 20 = .ok (.arraylength, 1) := by decide +kernel
theorem dL_law_21 : decode cL_law 21 = .ok (.bipush 6, 2) := by decide +kernel
theorem dL_law_23 : decode cL_law 23 = .ok (.isub, 1) := by decide +kernel
theorem dL_law_24 : decode cL_law 24 = .ok (.if_icmp .gt 1265, 3) := by decide +kernel
theorem dL_law_27 : decode cL_law 27 = .ok (.aload_n 0, 1) := by decide +kernel
theorem dL_law_28 : decode cL_law 28 = .ok (.iload_n 3, 1) := by decide +kernel
theorem dL_law_29 : decode cL_law 29 = .ok (.iaload, 1) := by decide +kernel
theorem dL_law_30 : decode cL_law 30 = .ok (.bipush 63, 2) := by decide +kernel
theorem dL_law_32 : decode cL_law 32 = .ok (.iand, 1) := by decide +kernel
theorem dL_law_33 : decode cL_law 33 = .ok (.tableswitch 1250 0 41 #[183, 206, 239, 262, 295, 338, 371, 414, 457, 490, 553, 576, 589, 602, 615, 628, 641, 654, 677, 700, 733, 756, 769, 782, 805, 818, 861, 894, 927, 940, 953, 976, 999, 1022, 1045, 1079, 1102, 1135, 1168, 1191, 1214, 1237], 183) := by decide +kernel
theorem dL_law_216 : decode cL_law 216 = .ok (.aload_n 1, 1) := by decide +kernel
theorem dL_law_217 : decode cL_law 217 = .ok (.aload_n 0, 1) := by decide +kernel
theorem dL_law_218 : decode cL_law 218 = .ok (.iload_n 3, 1) := by decide +kernel
theorem dL_law_219 : decode cL_law 219 = .ok (.iconst 1, 1) := by decide +kernel
theorem dL_law_220 : decode cL_law 220 = .ok (.iadd, 1) := by decide +kernel
theorem dL_law_221 : decode cL_law 221 = .ok (.iaload, 1) := by decide +kernel
theorem dL_law_222 : decode cL_law 222 = .ok (.invokevirtual 13, 3) := by decide +kernel
theorem dL_law_225 : decode cL_law 225 = .ok (.aload_n 2, 1) := by decide +kernel
theorem dL_law_226 : decode cL_law 226 = .ok (.aload_n 0, 1) := by decide +kernel
theorem dL_law_227 : decode cL_law 227 = .ok (.iload_n 3, 1) := by decide +kernel
theorem dL_law_228 : decode cL_law 228 = .ok (.iconst 1, 1) := by decide +kernel
theorem dL_law_229 : decode cL_law 229 = .ok (.iadd, 1) := by decide +kernel
theorem dL_law_230 : decode cL_law 230 = .ok (.iaload, 1) := by decide +kernel
theorem dL_law_231 : decode cL_law 231 = .ok (.invokevirtual 17, 3) := by decide +kernel
theorem dL_law_234 : decode cL_law 234 = .ok (.if_icmp .eq 1049, 3) := by decide +kernel
theorem dL_law_237 : decode cL_law 237 = .ok (.iconst 0, 1) := by decide +kernel
theorem dL_law_238 : decode cL_law 238 = .ok (.ireturn, 1) := by decide +kernel
theorem dL_law_239 : decode cL_law 239 = .ok (.aload_n 1, 1) := by decide +kernel
theorem dL_law_240 : decode cL_law 240 = .ok (.aload_n 0, 1) := by decide +kernel
theorem dL_law_241 : decode cL_law 241 = .ok (.iload_n 3, 1) := by decide +kernel
theorem dL_law_242 : decode cL_law 242 = .ok (.iconst 1, 1) := by decide +kernel
theorem dL_law_243 : decode cL_law 243 = .ok (.iadd, 1) := by decide +kernel
theorem dL_law_244 : decode cL_law 244 = .ok (.iaload, 1) := by decide +kernel
theorem dL_law_245 : decode cL_law 245 = .ok (.aload_n 0, 1) := by decide +kernel
theorem dL_law_246 : decode cL_law 246 = .ok (.iload_n 3, 1) := by decide +kernel
theorem dL_law_247 : decode cL_law 247 = .ok (.iconst 2, 1) := by decide +kernel
theorem dL_law_248 : decode cL_law 248 = .ok (.iadd, 1) := by decide +kernel
theorem dL_law_249 : decode cL_law 249 = .ok (.iaload, 1) := by decide +kernel
theorem dL_law_250 : decode cL_law 250 = .ok (.invokevirtual 18, 3) := by decide +kernel
theorem dL_law_253 : decode cL_law 253 = .ok (.aload_n 2, 1) := by decide +kernel
theorem dL_law_254 : decode cL_law 254 = .ok (.aload_n 0, 1) := by decide +kernel
theorem dL_law_255 : decode cL_law 255 = .ok (.iload_n 3, 1) := by decide +kernel
theorem dL_law_256 : decode cL_law 256 = .ok (.iconst 1, 1) := by decide +kernel
theorem dL_law_257 : decode cL_law 257 = .ok (.iadd, 1) := by decide +kernel
theorem dL_law_258 : decode cL_law 258 = .ok (.iaload, 1) := by decide +kernel
theorem dL_law_259 : decode cL_law 259 = .ok (.aload_n 0, 1) := by decide +kernel
theorem dL_law_260 : decode cL_law 260 = .ok (.iload_n 3, 1) := by decide +kernel
theorem dL_law_261 : decode cL_law 261 = .ok (.iconst 2, 1) := by decide +kernel
theorem dL_law_262 : decode cL_law 262 = .ok (.iadd, 1) := by decide +kernel
theorem dL_law_263 : decode cL_law 263 = .ok (.iaload, 1) := by decide +kernel
theorem dL_law_264 : decode cL_law 264 = .ok (.invokevirtual 22, 3) := by decide +kernel
theorem dL_law_267 : decode cL_law 267 = .ok (.if_icmp .eq 1016, 3) := by decide +kernel
theorem dL_law_270 : decode cL_law 270 = .ok (.iconst 0, 1) := by decide +kernel
theorem dL_law_271 : decode cL_law 271 = .ok (.ireturn, 1) := by decide +kernel
theorem dL_law_272 : decode cL_law 272 = .ok (.aload_n 1, 1) := by decide +kernel
theorem dL_law_273 : decode cL_law 273 = .ok (.aload_n 0, 1) := by decide +kernel
theorem dL_law_274 : decode cL_law 274 = .ok (.iload_n 3, 1) := by decide +kernel
theorem dL_law_275 : decode cL_law 275 = .ok (.iconst 1, 1) := by decide +kernel
theorem dL_law_276 : decode cL_law 276 = .ok (.iadd, 1) := by decide +kernel
theorem dL_law_277 : decode cL_law 277 = .ok (.iaload, 1) := by decide +kernel
theorem dL_law_278 : decode cL_law 278 = .ok (.invokevirtual 23, 3) := by decide +kernel
theorem dL_law_281 : decode cL_law 281 = .ok (.aload_n 2, 1) := by decide +kernel
theorem dL_law_282 : decode cL_law 282 = .ok (.aload_n 0, 1) := by decide +kernel
theorem dL_law_283 : decode cL_law 283 = .ok (.iload_n 3, 1) := by decide +kernel
theorem dL_law_284 : decode cL_law 284 = .ok (.iconst 1, 1) := by decide +kernel
theorem dL_law_285 : decode cL_law 285 = .ok (.iadd, 1) := by decide +kernel
theorem dL_law_286 : decode cL_law 286 = .ok (.iaload, 1) := by decide +kernel
theorem dL_law_287 : decode cL_law 287 = .ok (.invokevirtual 26, 3) := by decide +kernel
theorem dL_law_290 : decode cL_law 290 = .ok (.if_icmp .eq 993, 3) := by decide +kernel
theorem dL_law_293 : decode cL_law 293 = .ok (.iconst 0, 1) := by decide +kernel
theorem dL_law_294 : decode cL_law 294 = .ok (.ireturn, 1) := by decide +kernel
theorem dL_law_295 : decode cL_law 295 = .ok (.aload_n 1, 1) := by decide +kernel
theorem dL_law_296 : decode cL_law 296 = .ok (.aload_n 0, 1) := by decide +kernel
theorem dL_law_297 : decode cL_law 297 = .ok (.iload_n 3, 1) := by decide +kernel
theorem dL_law_298 : decode cL_law 298 = .ok (.iconst 1, 1) := by decide +kernel
theorem dL_law_299 : decode cL_law 299 = .ok (.iadd, 1) := by decide +kernel
theorem dL_law_300 : decode cL_law 300 = .ok (.iaload, 1) := by decide +kernel
theorem dL_law_301 : decode cL_law 301 = .ok (.aload_n 0, 1) := by decide +kernel
theorem dL_law_302 : decode cL_law 302 = .ok (.iload_n 3, 1) := by decide +kernel
theorem dL_law_303 : decode cL_law 303 = .ok (.iconst 2, 1) := by decide +kernel
theorem dL_law_304 : decode cL_law 304 = .ok (.iadd, 1) := by decide +kernel
theorem dL_law_305 : decode cL_law 305 = .ok (.iaload, 1) := by decide +kernel
theorem dL_law_306 : decode cL_law 306 = .ok (.invokevirtual 27, 3) := by decide +kernel
theorem dL_law_309 : decode cL_law 309 = .ok (.aload_n 2, 1) := by decide +kernel
theorem dL_law_310 : decode cL_law 310 = .ok (.aload_n 0, 1) := by decide +kernel
theorem dL_law_311 : decode cL_law 311 = .ok (.iload_n 3, 1) := by decide +kernel
theorem dL_law_312 : decode cL_law 312 = .ok (.iconst 1, 1) := by decide +kernel
theorem dL_law_313 : decode cL_law 313 = .ok (.iadd, 1) := by decide +kernel
theorem dL_law_314 : decode cL_law 314 = .ok (.iaload, 1) := by decide +kernel
theorem dL_law_315 : decode cL_law 315 = .ok (.aload_n 0, 1) := by decide +kernel
theorem dL_law_316 : decode cL_law 316 = .ok (.iload_n 3, 1) := by decide +kernel
theorem dL_law_317 : decode cL_law 317 = .ok (.iconst 2, 1) := by decide +kernel
theorem dL_law_318 : decode cL_law 318 = .ok (.iadd, 1) := by decide +kernel
theorem dL_law_319 : decode cL_law 319 = .ok (.iaload, 1) := by decide +kernel
theorem dL_law_320 : decode cL_law 320 = .ok (.invokevirtual 30, 3) := by decide +kernel
theorem dL_law_323 : decode cL_law 323 = .ok (.if_icmp .eq 960, 3) := by decide +kernel
theorem dL_law_326 : decode cL_law 326 = .ok (.iconst 0, 1) := by decide +kernel
theorem dL_law_327 : decode cL_law 327 = .ok (.ireturn, 1) := by decide +kernel
theorem dL_law_328 : decode cL_law 328 = .ok (.aload_n 1, 1) := by decide +kernel
theorem dL_law_329 : decode cL_law 329 = .ok (.aload_n 0, 1) := by decide +kernel
theorem dL_law_330 : decode cL_law 330 = .ok (.iload_n 3, 1) := by decide +kernel
theorem dL_law_331 : decode cL_law 331 = .ok (.iconst 1, 1) := by decide +kernel
theorem dL_law_332 : decode cL_law 332 = .ok (.iadd, 1) := by decide +kernel
theorem dL_law_333 : decode cL_law 333 = .ok (.iaload, 1) := by decide +kernel
theorem dL_law_334 : decode cL_law 334 = .ok (.aload_n 0, 1) := by decide +kernel
theorem dL_law_335 : decode cL_law 335 = .ok (.iload_n 3, 1) := by decide +kernel
theorem dL_law_336 : decode cL_law 336 = .ok (.iconst 2, 1) := by decide +kernel
theorem dL_law_337 : decode cL_law 337 = .ok (.iadd, 1) := by decide +kernel
theorem dL_law_338 : decode cL_law 338 = .ok (.iaload, 1) := by decide +kernel
theorem dL_law_339 : decode cL_law 339 = .ok (.aload_n 0, 1) := by decide +kernel
theorem dL_law_340 : decode cL_law 340 = .ok (.iload_n 3, 1) := by decide +kernel
theorem dL_law_341 : decode cL_law 341 = .ok (.iconst 3, 1) := by decide +kernel
theorem dL_law_342 : decode cL_law 342 = .ok (.iadd, 1) := by decide +kernel
theorem dL_law_343 : decode cL_law 343 = .ok (.iaload, 1) := by decide +kernel
theorem dL_law_344 : decode cL_law 344 = .ok (.invokevirtual 31, 3) := by decide +kernel
theorem dL_law_347 : decode cL_law 347 = .ok (.aload_n 2, 1) := by decide +kernel
theorem dL_law_348 : decode cL_law 348 = .ok (.aload_n 0, 1) := by decide +kernel
theorem dL_law_349 : decode cL_law 349 = .ok (.iload_n 3, 1) := by decide +kernel
theorem dL_law_350 : decode cL_law 350 = .ok (.iconst 1, 1) := by decide +kernel
theorem dL_law_351 : decode cL_law 351 = .ok (.iadd, 1) := by decide +kernel
theorem dL_law_352 : decode cL_law 352 = .ok (.iaload, 1) := by decide +kernel
theorem dL_law_353 : decode cL_law 353 = .ok (.aload_n 0, 1) := by decide +kernel
theorem dL_law_354 : decode cL_law 354 = .ok (.iload_n 3, 1) := by decide +kernel
theorem dL_law_355 : decode cL_law 355 = .ok (.iconst 2, 1) := by decide +kernel
theorem dL_law_356 : decode cL_law 356 = .ok (.iadd, 1) := by decide +kernel
theorem dL_law_357 : decode cL_law 357 = .ok (.iaload, 1) := by decide +kernel
theorem dL_law_358 : decode cL_law 358 = .ok (.aload_n 0, 1) := by decide +kernel
theorem dL_law_359 : decode cL_law 359 = .ok (.iload_n 3, 1) := by decide +kernel
theorem dL_law_360 : decode cL_law 360 = .ok (.iconst 3, 1) := by decide +kernel
theorem dL_law_361 : decode cL_law 361 = .ok (.iadd, 1) := by decide +kernel
theorem dL_law_362 : decode cL_law 362 = .ok (.iaload, 1) := by decide +kernel
theorem dL_law_363 : decode cL_law 363 = .ok (.invokevirtual 35, 3) := by decide +kernel
theorem dL_law_366 : decode cL_law 366 = .ok (.if_icmp .eq 917, 3) := by decide +kernel
theorem dL_law_369 : decode cL_law 369 = .ok (.iconst 0, 1) := by decide +kernel
theorem dL_law_370 : decode cL_law 370 = .ok (.ireturn, 1) := by decide +kernel
theorem dL_law_371 : decode cL_law 371 = .ok (.aload_n 1, 1) := by decide +kernel
theorem dL_law_372 : decode cL_law 372 = .ok (.aload_n 0, 1) := by decide +kernel
theorem dL_law_373 : decode cL_law 373 = .ok (.iload_n 3, 1) := by decide +kernel
theorem dL_law_374 : decode cL_law 374 = .ok (.iconst 1, 1) := by decide +kernel
theorem dL_law_375 : decode cL_law 375 = .ok (.iadd, 1) := by decide +kernel
theorem dL_law_376 : decode cL_law 376 = .ok (.iaload, 1) := by decide +kernel
theorem dL_law_377 : decode cL_law 377 = .ok (.aload_n 0, 1) := by decide +kernel
theorem dL_law_378 : decode cL_law 378 = .ok (.iload_n 3, 1) := by decide +kernel
theorem dL_law_379 : decode cL_law 379 = .ok (.iconst 2, 1) := by decide +kernel
theorem dL_law_380 : decode cL_law 380 = .ok (.iadd, 1) := by decide +kernel
theorem dL_law_381 : decode cL_law 381 = .ok (.iaload, 1) := by decide +kernel
theorem dL_law_382 : decode cL_law 382 = .ok (.invokevirtual 36, 3) := by decide +kernel
theorem dL_law_385 : decode cL_law 385 = .ok (.aload_n 2, 1) := by decide +kernel
theorem dL_law_386 : decode cL_law 386 = .ok (.aload_n 0, 1) := by decide +kernel
theorem dL_law_387 : decode cL_law 387 = .ok (.iload_n 3, 1) := by decide +kernel
theorem dL_law_388 : decode cL_law 388 = .ok (.iconst 1, 1) := by decide +kernel
theorem dL_law_389 : decode cL_law 389 = .ok (.iadd, 1) := by decide +kernel
theorem dL_law_390 : decode cL_law 390 = .ok (.iaload, 1) := by decide +kernel
theorem dL_law_391 : decode cL_law 391 = .ok (.aload_n 0, 1) := by decide +kernel
theorem dL_law_392 : decode cL_law 392 = .ok (.iload_n 3, 1) := by decide +kernel
theorem dL_law_393 : decode cL_law 393 = .ok (.iconst 2, 1) := by decide +kernel
theorem dL_law_394 : decode cL_law 394 = .ok (.iadd, 1) := by decide +kernel
theorem dL_law_395 : decode cL_law 395 = .ok (.iaload, 1) := by decide +kernel
theorem dL_law_396 : decode cL_law 396 = .ok (.invokevirtual 39, 3) := by decide +kernel
theorem dL_law_399 : decode cL_law 399 = .ok (.if_icmp .eq 884, 3) := by decide +kernel
theorem dL_law_402 : decode cL_law 402 = .ok (.iconst 0, 1) := by decide +kernel
theorem dL_law_403 : decode cL_law 403 = .ok (.ireturn, 1) := by decide +kernel
theorem dL_law_404 : decode cL_law 404 = .ok (.aload_n 1, 1) := by decide +kernel
theorem dL_law_405 : decode cL_law 405 = .ok (.aload_n 0, 1) := by decide +kernel
theorem dL_law_406 : decode cL_law 406 = .ok (.iload_n 3, 1) := by decide +kernel
theorem dL_law_407 : decode cL_law 407 = .ok (.iconst 1, 1) := by decide +kernel
theorem dL_law_408 : decode cL_law 408 = .ok (.iadd, 1) := by decide +kernel
theorem dL_law_409 : decode cL_law 409 = .ok (.iaload, 1) := by decide +kernel
theorem dL_law_410 : decode cL_law 410 = .ok (.aload_n 0, 1) := by decide +kernel
theorem dL_law_411 : decode cL_law 411 = .ok (.iload_n 3, 1) := by decide +kernel
theorem dL_law_412 : decode cL_law 412 = .ok (.iconst 2, 1) := by decide +kernel
theorem dL_law_413 : decode cL_law 413 = .ok (.iadd, 1) := by decide +kernel
theorem dL_law_414 : decode cL_law 414 = .ok (.iaload, 1) := by decide +kernel
theorem dL_law_415 : decode cL_law 415 = .ok (.aload_n 0, 1) := by decide +kernel
theorem dL_law_416 : decode cL_law 416 = .ok (.iload_n 3, 1) := by decide +kernel
theorem dL_law_417 : decode cL_law 417 = .ok (.iconst 3, 1) := by decide +kernel
theorem dL_law_418 : decode cL_law 418 = .ok (.iadd, 1) := by decide +kernel
theorem dL_law_419 : decode cL_law 419 = .ok (.iaload, 1) := by decide +kernel
theorem dL_law_420 : decode cL_law 420 = .ok (.invokevirtual 40, 3) := by decide +kernel
theorem dL_law_423 : decode cL_law 423 = .ok (.aload_n 2, 1) := by decide +kernel
theorem dL_law_424 : decode cL_law 424 = .ok (.aload_n 0, 1) := by decide +kernel
theorem dL_law_425 : decode cL_law 425 = .ok (.iload_n 3, 1) := by decide +kernel
theorem dL_law_426 : decode cL_law 426 = .ok (.iconst 1, 1) := by decide +kernel
theorem dL_law_427 : decode cL_law 427 = .ok (.iadd, 1) := by decide +kernel
theorem dL_law_428 : decode cL_law 428 = .ok (.iaload, 1) := by decide +kernel
theorem dL_law_429 : decode cL_law 429 = .ok (.aload_n 0, 1) := by decide +kernel
theorem dL_law_430 : decode cL_law 430 = .ok (.iload_n 3, 1) := by decide +kernel
theorem dL_law_431 : decode cL_law 431 = .ok (.iconst 2, 1) := by decide +kernel
theorem dL_law_432 : decode cL_law 432 = .ok (.iadd, 1) := by decide +kernel
theorem dL_law_433 : decode cL_law 433 = .ok (.iaload, 1) := by decide +kernel
theorem dL_law_434 : decode cL_law 434 = .ok (.aload_n 0, 1) := by decide +kernel
theorem dL_law_435 : decode cL_law 435 = .ok (.iload_n 3, 1) := by decide +kernel
theorem dL_law_436 : decode cL_law 436 = .ok (.iconst 3, 1) := by decide +kernel
theorem dL_law_437 : decode cL_law 437 = .ok (.iadd, 1) := by decide +kernel
theorem dL_law_438 : decode cL_law 438 = .ok (.iaload, 1) := by decide +kernel
theorem dL_law_439 : decode cL_law 439 = .ok (.invokevirtual 43, 3) := by decide +kernel
theorem dL_law_442 : decode cL_law 442 = .ok (.if_icmp .eq 841, 3) := by decide +kernel
theorem dL_law_445 : decode cL_law 445 = .ok (.iconst 0, 1) := by decide +kernel
theorem dL_law_446 : decode cL_law 446 = .ok (.ireturn, 1) := by decide +kernel
theorem dL_law_447 : decode cL_law 447 = .ok (.aload_n 1, 1) := by decide +kernel
theorem dL_law_448 : decode cL_law 448 = .ok (.aload_n 0, 1) := by decide +kernel
theorem dL_law_449 : decode cL_law 449 = .ok (.iload_n 3, 1) := by decide +kernel
theorem dL_law_450 : decode cL_law 450 = .ok (.iconst 1, 1) := by decide +kernel
theorem dL_law_451 : decode cL_law 451 = .ok (.iadd, 1) := by decide +kernel
theorem dL_law_452 : decode cL_law 452 = .ok (.iaload, 1) := by decide +kernel
theorem dL_law_453 : decode cL_law 453 = .ok (.aload_n 0, 1) := by decide +kernel
theorem dL_law_454 : decode cL_law 454 = .ok (.iload_n 3, 1) := by decide +kernel
theorem dL_law_455 : decode cL_law 455 = .ok (.iconst 2, 1) := by decide +kernel
theorem dL_law_456 : decode cL_law 456 = .ok (.iadd, 1) := by decide +kernel
theorem dL_law_457 : decode cL_law 457 = .ok (.iaload, 1) := by decide +kernel
theorem dL_law_458 : decode cL_law 458 = .ok (.aload_n 0, 1) := by decide +kernel
theorem dL_law_459 : decode cL_law 459 = .ok (.iload_n 3, 1) := by decide +kernel
theorem dL_law_460 : decode cL_law 460 = .ok (.iconst 3, 1) := by decide +kernel
theorem dL_law_461 : decode cL_law 461 = .ok (.iadd, 1) := by decide +kernel
theorem dL_law_462 : decode cL_law 462 = .ok (.iaload, 1) := by decide +kernel
theorem dL_law_463 : decode cL_law 463 = .ok (.invokevirtual 44, 3) := by decide +kernel
theorem dL_law_466 : decode cL_law 466 = .ok (.aload_n 2, 1) := by decide +kernel
theorem dL_law_467 : decode cL_law 467 = .ok (.aload_n 0, 1) := by decide +kernel
theorem dL_law_468 : decode cL_law 468 = .ok (.iload_n 3, 1) := by decide +kernel
theorem dL_law_469 : decode cL_law 469 = .ok (.iconst 1, 1) := by decide +kernel
theorem dL_law_470 : decode cL_law 470 = .ok (.iadd, 1) := by decide +kernel
theorem dL_law_471 : decode cL_law 471 = .ok (.iaload, 1) := by decide +kernel
theorem dL_law_472 : decode cL_law 472 = .ok (.aload_n 0, 1) := by decide +kernel
theorem dL_law_473 : decode cL_law 473 = .ok (.iload_n 3, 1) := by decide +kernel
theorem dL_law_474 : decode cL_law 474 = .ok (.iconst 2, 1) := by decide +kernel
theorem dL_law_475 : decode cL_law 475 = .ok (.iadd, 1) := by decide +kernel
theorem dL_law_476 : decode cL_law 476 = .ok (.iaload, 1) := by decide +kernel
theorem dL_law_477 : decode cL_law 477 = .ok (.aload_n 0, 1) := by decide +kernel
theorem dL_law_478 : decode cL_law 478 = .ok (.iload_n 3, 1) := by decide +kernel
theorem dL_law_479 : decode cL_law 479 = .ok (.iconst 3, 1) := by decide +kernel
theorem dL_law_480 : decode cL_law 480 = .ok (.iadd, 1) := by decide +kernel
theorem dL_law_481 : decode cL_law 481 = .ok (.iaload, 1) := by decide +kernel
theorem dL_law_482 : decode cL_law 482 = .ok (.invokevirtual 47, 3) := by decide +kernel
theorem dL_law_485 : decode cL_law 485 = .ok (.if_icmp .eq 798, 3) := by decide +kernel
theorem dL_law_488 : decode cL_law 488 = .ok (.iconst 0, 1) := by decide +kernel
theorem dL_law_489 : decode cL_law 489 = .ok (.ireturn, 1) := by decide +kernel
theorem dL_law_490 : decode cL_law 490 = .ok (.aload_n 1, 1) := by decide +kernel
theorem dL_law_491 : decode cL_law 491 = .ok (.aload_n 0, 1) := by decide +kernel
theorem dL_law_492 : decode cL_law 492 = .ok (.iload_n 3, 1) := by decide +kernel
theorem dL_law_493 : decode cL_law 493 = .ok (.iconst 1, 1) := by decide +kernel
theorem dL_law_494 : decode cL_law 494 = .ok (.iadd, 1) := by decide +kernel
theorem dL_law_495 : decode cL_law 495 = .ok (.iaload, 1) := by decide +kernel
theorem dL_law_496 : decode cL_law 496 = .ok (.aload_n 0, 1) := by decide +kernel
theorem dL_law_497 : decode cL_law 497 = .ok (.iload_n 3, 1) := by decide +kernel
theorem dL_law_498 : decode cL_law 498 = .ok (.iconst 2, 1) := by decide +kernel
theorem dL_law_499 : decode cL_law 499 = .ok (.iadd, 1) := by decide +kernel
theorem dL_law_500 : decode cL_law 500 = .ok (.iaload, 1) := by decide +kernel
theorem dL_law_501 : decode cL_law 501 = .ok (.invokevirtual 48, 3) := by decide +kernel
theorem dL_law_504 : decode cL_law 504 = .ok (.aload_n 2, 1) := by decide +kernel
theorem dL_law_505 : decode cL_law 505 = .ok (.aload_n 0, 1) := by decide +kernel
theorem dL_law_506 : decode cL_law 506 = .ok (.iload_n 3, 1) := by decide +kernel
theorem dL_law_507 : decode cL_law 507 = .ok (.iconst 1, 1) := by decide +kernel
theorem dL_law_508 : decode cL_law 508 = .ok (.iadd, 1) := by decide +kernel
theorem dL_law_509 : decode cL_law 509 = .ok (.iaload, 1) := by decide +kernel
theorem dL_law_510 : decode cL_law 510 = .ok (.aload_n 0, 1) := by decide +kernel
theorem dL_law_511 : decode cL_law 511 = .ok (.iload_n 3, 1) := by decide +kernel
theorem dL_law_512 : decode cL_law 512 = .ok (.iconst 2, 1) := by decide +kernel
theorem dL_law_513 : decode cL_law 513 = .ok (.iadd, 1) := by decide +kernel
theorem dL_law_514 : decode cL_law 514 = .ok (.iaload, 1) := by decide +kernel
theorem dL_law_515 : decode cL_law 515 = .ok (.invokevirtual 51, 3) := by decide +kernel
theorem dL_law_518 : decode cL_law 518 = .ok (.if_icmp .eq 765, 3) := by decide +kernel
theorem dL_law_521 : decode cL_law 521 = .ok (.iconst 0, 1) := by decide +kernel
theorem dL_law_522 : decode cL_law 522 = .ok (.ireturn, 1) := by decide +kernel
theorem dL_law_523 : decode cL_law 523 = .ok (.aload_n 1, 1) := by decide +kernel
theorem dL_law_524 : decode cL_law 524 = .ok (.aload_n 0, 1) := by decide +kernel
theorem dL_law_525 : decode cL_law 525 = .ok (.iload_n 3, 1) := by decide +kernel
theorem dL_law_526 : decode cL_law 526 = .ok (.iconst 1, 1) := by decide +kernel
theorem dL_law_527 : decode cL_law 527 = .ok (.iadd, 1) := by decide +kernel
theorem dL_law_528 : decode cL_law 528 = .ok (.iaload, 1) := by decide +kernel
theorem dL_law_529 : decode cL_law 529 = .ok (.aload_n 0, 1) := by decide +kernel
theorem dL_law_530 : decode cL_law 530 = .ok (.iload_n 3, 1) := by decide +kernel
theorem dL_law_531 : decode cL_law 531 = .ok (.iconst 2, 1) := by decide +kernel
theorem dL_law_532 : decode cL_law 532 = .ok (.iadd, 1) := by decide +kernel
theorem dL_law_533 : decode cL_law 533 = .ok (.iaload, 1) := by decide +kernel
theorem dL_law_534 : decode cL_law 534 = .ok (.aload_n 0, 1) := by decide +kernel
theorem dL_law_535 : decode cL_law 535 = .ok (.iload_n 3, 1) := by decide +kernel
theorem dL_law_536 : decode cL_law 536 = .ok (.iconst 3, 1) := by decide +kernel
theorem dL_law_537 : decode cL_law 537 = .ok (.iadd, 1) := by decide +kernel
theorem dL_law_538 : decode cL_law 538 = .ok (.iaload, 1) := by decide +kernel
theorem dL_law_539 : decode cL_law 539 = .ok (.aload_n 0, 1) := by decide +kernel
theorem dL_law_540 : decode cL_law 540 = .ok (.iload_n 3, 1) := by decide +kernel
theorem dL_law_541 : decode cL_law 541 = .ok (.iconst 4, 1) := by decide +kernel
theorem dL_law_542 : decode cL_law 542 = .ok (.iadd, 1) := by decide +kernel
theorem dL_law_543 : decode cL_law 543 = .ok (.iaload, 1) := by decide +kernel
theorem dL_law_544 : decode cL_law 544 = .ok (.aload_n 0, 1) := by decide +kernel
theorem dL_law_545 : decode cL_law 545 = .ok (.iload_n 3, 1) := by decide +kernel
theorem dL_law_546 : decode cL_law 546 = .ok (.iconst 5, 1) := by decide +kernel
theorem dL_law_547 : decode cL_law 547 = .ok (.iadd, 1) := by decide +kernel
theorem dL_law_548 : decode cL_law 548 = .ok (.iaload, 1) := by decide +kernel
theorem dL_law_549 : decode cL_law 549 = .ok (.invokevirtual 52, 3) := by decide +kernel
theorem dL_law_552 : decode cL_law 552 = .ok (.aload_n 2, 1) := by decide +kernel
theorem dL_law_553 : decode cL_law 553 = .ok (.aload_n 0, 1) := by decide +kernel
theorem dL_law_554 : decode cL_law 554 = .ok (.iload_n 3, 1) := by decide +kernel
theorem dL_law_555 : decode cL_law 555 = .ok (.iconst 1, 1) := by decide +kernel
theorem dL_law_556 : decode cL_law 556 = .ok (.iadd, 1) := by decide +kernel
theorem dL_law_557 : decode cL_law 557 = .ok (.iaload, 1) := by decide +kernel
theorem dL_law_558 : decode cL_law 558 = .ok (.aload_n 0, 1) := by decide +kernel
theorem dL_law_559 : decode cL_law 559 = .ok (.iload_n 3, 1) := by decide +kernel
theorem dL_law_560 : decode cL_law 560 = .ok (.iconst 2, 1) := by decide +kernel
theorem dL_law_561 : decode cL_law 561 = .ok (.iadd, 1) := by decide +kernel
theorem dL_law_562 : decode cL_law 562 = .ok (.iaload, 1) := by decide +kernel
theorem dL_law_563 : decode cL_law 563 = .ok (.aload_n 0, 1) := by decide +kernel
theorem dL_law_564 : decode cL_law 564 = .ok (.iload_n 3, 1) := by decide +kernel
theorem dL_law_565 : decode cL_law 565 = .ok (.iconst 3, 1) := by decide +kernel
theorem dL_law_566 : decode cL_law 566 = .ok (.iadd, 1) := by decide +kernel
theorem dL_law_567 : decode cL_law 567 = .ok (.iaload, 1) := by decide +kernel
theorem dL_law_568 : decode cL_law 568 = .ok (.aload_n 0, 1) := by decide +kernel
theorem dL_law_569 : decode cL_law 569 = .ok (.iload_n 3, 1) := by decide +kernel
theorem dL_law_570 : decode cL_law 570 = .ok (.iconst 4, 1) := by decide +kernel
theorem dL_law_571 : decode cL_law 571 = .ok (.iadd, 1) := by decide +kernel
theorem dL_law_572 : decode cL_law 572 = .ok (.iaload, 1) := by decide +kernel
theorem dL_law_573 : decode cL_law 573 = .ok (.aload_n 0, 1) := by decide +kernel
theorem dL_law_574 : decode cL_law 574 = .ok (.iload_n 3, 1) := by decide +kernel
theorem dL_law_575 : decode cL_law 575 = .ok (.iconst 5, 1) := by decide +kernel
theorem dL_law_576 : decode cL_law 576 = .ok (.iadd, 1) := by decide +kernel
theorem dL_law_577 : decode cL_law 577 = .ok (.iaload, 1) := by decide +kernel
theorem dL_law_578 : decode cL_law 578 = .ok (.invokevirtual 56, 3) := by decide +kernel
theorem dL_law_581 : decode cL_law 581 = .ok (.if_icmp .eq 702, 3) := by decide +kernel
theorem dL_law_584 : decode cL_law 584 = .ok (.iconst 0, 1) := by decide +kernel
theorem dL_law_585 : decode cL_law 585 = .ok (.ireturn, 1) := by decide +kernel
theorem dL_law_586 : decode cL_law 586 = .ok (.aload_n 1, 1) := by decide +kernel
theorem dL_law_587 : decode cL_law 587 = .ok (.aload_n 0, 1) := by decide +kernel
theorem dL_law_588 : decode cL_law 588 = .ok (.iload_n 3, 1) := by decide +kernel
theorem dL_law_589 : decode cL_law 589 = .ok (.iconst 1, 1) := by decide +kernel
theorem dL_law_590 : decode cL_law 590 = .ok (.iadd, 1) := by decide +kernel
theorem dL_law_591 : decode cL_law 591 = .ok (.iaload, 1) := by decide +kernel
theorem dL_law_592 : decode cL_law 592 = .ok (.invokevirtual 57, 3) := by decide +kernel
theorem dL_law_595 : decode cL_law 595 = .ok (.aload_n 2, 1) := by decide +kernel
theorem dL_law_596 : decode cL_law 596 = .ok (.aload_n 0, 1) := by decide +kernel
theorem dL_law_597 : decode cL_law 597 = .ok (.iload_n 3, 1) := by decide +kernel
theorem dL_law_598 : decode cL_law 598 = .ok (.iconst 1, 1) := by decide +kernel
theorem dL_law_599 : decode cL_law 599 = .ok (.iadd, 1) := by decide +kernel
theorem dL_law_600 : decode cL_law 600 = .ok (.iaload, 1) := by decide +kernel
theorem dL_law_601 : decode cL_law 601 = .ok (.invokevirtual 60, 3) := by decide +kernel
theorem dL_law_604 : decode cL_law 604 = .ok (.if_icmp .eq 679, 3) := by decide +kernel
theorem dL_law_607 : decode cL_law 607 = .ok (.iconst 0, 1) := by decide +kernel
theorem dL_law_608 : decode cL_law 608 = .ok (.ireturn, 1) := by decide +kernel
theorem dL_law_609 : decode cL_law 609 = .ok (.aload_n 1, 1) := by decide +kernel
theorem dL_law_610 : decode cL_law 610 = .ok (.invokevirtual 61, 3) := by decide +kernel
theorem dL_law_613 : decode cL_law 613 = .ok (.aload_n 2, 1) := by decide +kernel
theorem dL_law_614 : decode cL_law 614 = .ok (.invokevirtual 65, 3) := by decide +kernel
theorem dL_law_617 : decode cL_law 617 = .ok (.if_icmp .eq 666, 3) := by decide +kernel
theorem dL_law_620 : decode cL_law 620 = .ok (.iconst 0, 1) := by decide +kernel
theorem dL_law_621 : decode cL_law 621 = .ok (.ireturn, 1) := by decide +kernel
theorem dL_law_622 : decode cL_law 622 = .ok (.aload_n 1, 1) := by decide +kernel
theorem dL_law_623 : decode cL_law 623 = .ok (.invokevirtual 66, 3) := by decide +kernel
theorem dL_law_626 : decode cL_law 626 = .ok (.aload_n 2, 1) := by decide +kernel
theorem dL_law_627 : decode cL_law 627 = .ok (.invokevirtual 69, 3) := by decide +kernel
theorem dL_law_630 : decode cL_law 630 = .ok (.if_icmp .eq 653, 3) := by decide +kernel
theorem dL_law_633 : decode cL_law 633 = .ok (.iconst 0, 1) := by decide +kernel
theorem dL_law_634 : decode cL_law 634 = .ok (.ireturn, 1) := by decide +kernel
theorem dL_law_635 : decode cL_law 635 = .ok (.aload_n 1, 1) := by decide +kernel
theorem dL_law_636 : decode cL_law 636 = .ok (.invokevirtual 70, 3) := by decide +kernel
theorem dL_law_639 : decode cL_law 639 = .ok (.aload_n 2, 1) := by decide +kernel
theorem dL_law_640 : decode cL_law 640 = .ok (.invokevirtual 73, 3) := by decide +kernel
theorem dL_law_643 : decode cL_law 643 = .ok (.if_icmp .eq 640, 3) := by decide +kernel
theorem dL_law_646 : decode cL_law 646 = .ok (.iconst 0, 1) := by decide +kernel
theorem dL_law_647 : decode cL_law 647 = .ok (.ireturn, 1) := by decide +kernel
theorem dL_law_648 : decode cL_law 648 = .ok (.aload_n 1, 1) := by decide +kernel
theorem dL_law_649 : decode cL_law 649 = .ok (.invokevirtual 74, 3) := by decide +kernel
theorem dL_law_652 : decode cL_law 652 = .ok (.aload_n 2, 1) := by decide +kernel
theorem dL_law_653 : decode cL_law 653 = .ok (.invokevirtual 77, 3) := by decide +kernel
theorem dL_law_656 : decode cL_law 656 = .ok (.if_icmp .eq 627, 3) := by decide +kernel
theorem dL_law_659 : decode cL_law 659 = .ok (.iconst 0, 1) := by decide +kernel
theorem dL_law_660 : decode cL_law 660 = .ok (.ireturn, 1) := by decide +kernel
theorem dL_law_661 : decode cL_law 661 = .ok (.aload_n 1, 1) := by decide +kernel
theorem dL_law_662 : decode cL_law 662 = .ok (.invokevirtual 78, 3) := by decide +kernel
theorem dL_law_665 : decode cL_law 665 = .ok (.aload_n 2, 1) := by decide +kernel
theorem dL_law_666 : decode cL_law 666 = .ok (.invokevirtual 81, 3) := by decide +kernel
theorem dL_law_669 : decode cL_law 669 = .ok (.if_icmp .eq 614, 3) := by decide +kernel
theorem dL_law_672 : decode cL_law 672 = .ok (.iconst 0, 1) := by decide +kernel
theorem dL_law_673 : decode cL_law 673 = .ok (.ireturn, 1) := by decide +kernel
theorem dL_law_674 : decode cL_law 674 = .ok (.aload_n 1, 1) := by decide +kernel
theorem dL_law_675 : decode cL_law 675 = .ok (.invokevirtual 82, 3) := by decide +kernel
theorem dL_law_678 : decode cL_law 678 = .ok (.aload_n 2, 1) := by decide +kernel
theorem dL_law_679 : decode cL_law 679 = .ok (.invokevirtual 85, 3) := by decide +kernel
theorem dL_law_682 : decode cL_law 682 = .ok (.if_icmp .eq 601, 3) := by decide +kernel
theorem dL_law_685 : decode cL_law 685 = .ok (.iconst 0, 1) := by decide +kernel
theorem dL_law_686 : decode cL_law 686 = .ok (.ireturn, 1) := by decide +kernel
theorem dL_law_687 : decode cL_law 687 = .ok (.aload_n 1, 1) := by decide +kernel
theorem dL_law_688 : decode cL_law 688 = .ok (.aload_n 0, 1) := by decide +kernel
theorem dL_law_689 : decode cL_law 689 = .ok (.iload_n 3, 1) := by decide +kernel
theorem dL_law_690 : decode cL_law 690 = .ok (.iconst 1, 1) := by decide +kernel
theorem dL_law_691 : decode cL_law 691 = .ok (.iadd, 1) := by decide +kernel
theorem dL_law_692 : decode cL_law 692 = .ok (.iaload, 1) := by decide +kernel
theorem dL_law_693 : decode cL_law 693 = .ok (.invokevirtual 86, 3) := by decide +kernel
theorem dL_law_696 : decode cL_law 696 = .ok (.aload_n 2, 1) := by decide +kernel
theorem dL_law_697 : decode cL_law 697 = .ok (.aload_n 0, 1) := by decide +kernel
theorem dL_law_698 : decode cL_law 698 = .ok (.iload_n 3, 1) := by decide +kernel
theorem dL_law_699 : decode cL_law 699 = .ok (.iconst 1, 1) := by decide +kernel
theorem dL_law_700 : decode cL_law 700 = .ok (.iadd, 1) := by decide +kernel
theorem dL_law_701 : decode cL_law 701 = .ok (.iaload, 1) := by decide +kernel
theorem dL_law_702 : decode cL_law 702 = .ok (.invokevirtual 89, 3) := by decide +kernel
theorem dL_law_705 : decode cL_law 705 = .ok (.if_icmp .eq 578, 3) := by decide +kernel
theorem dL_law_708 : decode cL_law 708 = .ok (.iconst 0, 1) := by decide +kernel
theorem dL_law_709 : decode cL_law 709 = .ok (.ireturn, 1) := by decide +kernel
theorem dL_law_710 : decode cL_law 710 = .ok (.aload_n 1, 1) := by decide +kernel
theorem dL_law_711 : decode cL_law 711 = .ok (.aload_n 0, 1) := by decide +kernel
theorem dL_law_712 : decode cL_law 712 = .ok (.iload_n 3, 1) := by decide +kernel
theorem dL_law_713 : decode cL_law 713 = .ok (.iconst 1, 1) := by decide +kernel
theorem dL_law_714 : decode cL_law 714 = .ok (.iadd, 1) := by decide +kernel
theorem dL_law_715 : decode cL_law 715 = .ok (.iaload, 1) := by decide +kernel
theorem dL_law_716 : decode cL_law 716 = .ok (.invokevirtual 90, 3) := by decide +kernel
theorem dL_law_719 : decode cL_law 719 = .ok (.aload_n 2, 1) := by decide +kernel
theorem dL_law_720 : decode cL_law 720 = .ok (.aload_n 0, 1) := by decide +kernel
theorem dL_law_721 : decode cL_law 721 = .ok (.iload_n 3, 1) := by decide +kernel
theorem dL_law_722 : decode cL_law 722 = .ok (.iconst 1, 1) := by decide +kernel
theorem dL_law_723 : decode cL_law 723 = .ok (.iadd, 1) := by decide +kernel
theorem dL_law_724 : decode cL_law 724 = .ok (.iaload, 1) := by decide +kernel
theorem dL_law_725 : decode cL_law 725 = .ok (.invokevirtual 93, 3) := by decide +kernel
theorem dL_law_728 : decode cL_law 728 = .ok (.if_icmp .eq 555, 3) := by decide +kernel
theorem dL_law_731 : decode cL_law 731 = .ok (.iconst 0, 1) := by decide +kernel
theorem dL_law_732 : decode cL_law 732 = .ok (.ireturn, 1) := by decide +kernel
theorem dL_law_733 : decode cL_law 733 = .ok (.aload_n 1, 1) := by decide +kernel
theorem dL_law_734 : decode cL_law 734 = .ok (.aload_n 0, 1) := by decide +kernel
theorem dL_law_735 : decode cL_law 735 = .ok (.iload_n 3, 1) := by decide +kernel
theorem dL_law_736 : decode cL_law 736 = .ok (.iconst 1, 1) := by decide +kernel
theorem dL_law_737 : decode cL_law 737 = .ok (.iadd, 1) := by decide +kernel
theorem dL_law_738 : decode cL_law 738 = .ok (.iaload, 1) := by decide +kernel
theorem dL_law_739 : decode cL_law 739 = .ok (.aload_n 0, 1) := by decide +kernel
theorem dL_law_740 : decode cL_law 740 = .ok (.iload_n 3, 1) := by decide +kernel
theorem dL_law_741 : decode cL_law 741 = .ok (.iconst 2, 1) := by decide +kernel
theorem dL_law_742 : decode cL_law 742 = .ok (.iadd, 1) := by decide +kernel
theorem dL_law_743 : decode cL_law 743 = .ok (.iaload, 1) := by decide +kernel
theorem dL_law_744 : decode cL_law 744 = .ok (.invokevirtual 94, 3) := by decide +kernel
theorem dL_law_747 : decode cL_law 747 = .ok (.aload_n 2, 1) := by decide +kernel
theorem dL_law_748 : decode cL_law 748 = .ok (.aload_n 0, 1) := by decide +kernel
theorem dL_law_749 : decode cL_law 749 = .ok (.iload_n 3, 1) := by decide +kernel
theorem dL_law_750 : decode cL_law 750 = .ok (.iconst 1, 1) := by decide +kernel
theorem dL_law_751 : decode cL_law 751 = .ok (.iadd, 1) := by decide +kernel
theorem dL_law_752 : decode cL_law 752 = .ok (.iaload, 1) := by decide +kernel
theorem dL_law_753 : decode cL_law 753 = .ok (.aload_n 0, 1) := by decide +kernel
theorem dL_law_754 : decode cL_law 754 = .ok (.iload_n 3, 1) := by decide +kernel
theorem dL_law_755 : decode cL_law 755 = .ok (.iconst 2, 1) := by decide +kernel
theorem dL_law_756 : decode cL_law 756 = .ok (.iadd, 1) := by decide +kernel
theorem dL_law_757 : decode cL_law 757 = .ok (.iaload, 1) := by decide +kernel
theorem dL_law_758 : decode cL_law 758 = .ok (.invokevirtual 97, 3) := by decide +kernel
theorem dL_law_761 : decode cL_law 761 = .ok (.if_icmp .eq 522, 3) := by decide +kernel
theorem dL_law_764 : decode cL_law 764 = .ok (.iconst 0, 1) := by decide +kernel
theorem dL_law_765 : decode cL_law 765 = .ok (.ireturn, 1) := by decide +kernel
theorem dL_law_766 : decode cL_law 766 = .ok (.aload_n 1, 1) := by decide +kernel
theorem dL_law_767 : decode cL_law 767 = .ok (.aload_n 0, 1) := by decide +kernel
theorem dL_law_768 : decode cL_law 768 = .ok (.iload_n 3, 1) := by decide +kernel
theorem dL_law_769 : decode cL_law 769 = .ok (.iconst 1, 1) := by decide +kernel
theorem dL_law_770 : decode cL_law 770 = .ok (.iadd, 1) := by decide +kernel
theorem dL_law_771 : decode cL_law 771 = .ok (.iaload, 1) := by decide +kernel
theorem dL_law_772 : decode cL_law 772 = .ok (.invokevirtual 98, 3) := by decide +kernel
theorem dL_law_775 : decode cL_law 775 = .ok (.aload_n 2, 1) := by decide +kernel
theorem dL_law_776 : decode cL_law 776 = .ok (.aload_n 0, 1) := by decide +kernel
theorem dL_law_777 : decode cL_law 777 = .ok (.iload_n 3, 1) := by decide +kernel
theorem dL_law_778 : decode cL_law 778 = .ok (.iconst 1, 1) := by decide +kernel
theorem dL_law_779 : decode cL_law 779 = .ok (.iadd, 1) := by decide +kernel
theorem dL_law_780 : decode cL_law 780 = .ok (.iaload, 1) := by decide +kernel
theorem dL_law_781 : decode cL_law 781 = .ok (.invokevirtual 101, 3) := by decide +kernel
theorem dL_law_784 : decode cL_law 784 = .ok (.if_icmp .eq 499, 3) := by decide +kernel
theorem dL_law_787 : decode cL_law 787 = .ok (.iconst 0, 1) := by decide +kernel
theorem dL_law_788 : decode cL_law 788 = .ok (.ireturn, 1) := by decide +kernel
theorem dL_law_789 : decode cL_law 789 = .ok (.aload_n 1, 1) := by decide +kernel
theorem dL_law_790 : decode cL_law 790 = .ok (.invokevirtual 102, 3) := by decide +kernel
theorem dL_law_793 : decode cL_law 793 = .ok (.aload_n 2, 1) := by decide +kernel
theorem dL_law_794 : decode cL_law 794 = .ok (.invokevirtual 105, 3) := by decide +kernel
theorem dL_law_797 : decode cL_law 797 = .ok (.if_icmp .eq 486, 3) := by decide +kernel
theorem dL_law_800 : decode cL_law 800 = .ok (.iconst 0, 1) := by decide +kernel
theorem dL_law_801 : decode cL_law 801 = .ok (.ireturn, 1) := by decide +kernel
theorem dL_law_802 : decode cL_law 802 = .ok (.aload_n 1, 1) := by decide +kernel
theorem dL_law_803 : decode cL_law 803 = .ok (.invokevirtual 106, 3) := by decide +kernel
theorem dL_law_806 : decode cL_law 806 = .ok (.aload_n 2, 1) := by decide +kernel
theorem dL_law_807 : decode cL_law 807 = .ok (.invokevirtual 109, 3) := by decide +kernel
theorem dL_law_810 : decode cL_law 810 = .ok (.if_icmp .eq 473, 3) := by decide +kernel
theorem dL_law_813 : decode cL_law 813 = .ok (.iconst 0, 1) := by decide +kernel
theorem dL_law_814 : decode cL_law 814 = .ok (.ireturn, 1) := by decide +kernel
theorem dL_law_815 : decode cL_law 815 = .ok (.aload_n 1, 1) := by decide +kernel
theorem dL_law_816 : decode cL_law 816 = .ok (.aload_n 0, 1) := by decide +kernel
theorem dL_law_817 : decode cL_law 817 = .ok (.iload_n 3, 1) := by decide +kernel
theorem dL_law_818 : decode cL_law 818 = .ok (.iconst 1, 1) := by decide +kernel
theorem dL_law_819 : decode cL_law 819 = .ok (.iadd, 1) := by decide +kernel
theorem dL_law_820 : decode cL_law 820 = .ok (.iaload, 1) := by decide +kernel
theorem dL_law_821 : decode cL_law 821 = .ok (.invokevirtual 110, 3) := by decide +kernel
theorem dL_law_824 : decode cL_law 824 = .ok (.aload_n 2, 1) := by decide +kernel
theorem dL_law_825 : decode cL_law 825 = .ok (.aload_n 0, 1) := by decide +kernel
theorem dL_law_826 : decode cL_law 826 = .ok (.iload_n 3, 1) := by decide +kernel
theorem dL_law_827 : decode cL_law 827 = .ok (.iconst 1, 1) := by decide +kernel
theorem dL_law_828 : decode cL_law 828 = .ok (.iadd, 1) := by decide +kernel
theorem dL_law_829 : decode cL_law 829 = .ok (.iaload, 1) := by decide +kernel
theorem dL_law_830 : decode cL_law 830 = .ok (.invokevirtual 113, 3) := by decide +kernel
theorem dL_law_833 : decode cL_law 833 = .ok (.if_icmp .eq 450, 3) := by decide +kernel
theorem dL_law_836 : decode cL_law 836 = .ok (.iconst 0, 1) := by decide +kernel
theorem dL_law_837 : decode cL_law 837 = .ok (.ireturn, 1) := by decide +kernel
theorem dL_law_838 : decode cL_law 838 = .ok (.aload_n 1, 1) := by decide +kernel
theorem dL_law_839 : decode cL_law 839 = .ok (.invokevirtual 114, 3) := by decide +kernel
theorem dL_law_842 : decode cL_law 842 = .ok (.aload_n 2, 1) := by decide +kernel
theorem dL_law_843 : decode cL_law 843 = .ok (.invokevirtual 117, 3) := by decide +kernel
theorem dL_law_846 : decode cL_law 846 = .ok (.if_icmp .eq 437, 3) := by decide +kernel
theorem dL_law_849 : decode cL_law 849 = .ok (.iconst 0, 1) := by decide +kernel
theorem dL_law_850 : decode cL_law 850 = .ok (.ireturn, 1) := by decide +kernel
theorem dL_law_851 : decode cL_law 851 = .ok (.aload_n 1, 1) := by decide +kernel
theorem dL_law_852 : decode cL_law 852 = .ok (.aload_n 0, 1) := by decide +kernel
theorem dL_law_853 : decode cL_law 853 = .ok (.iload_n 3, 1) := by decide +kernel
theorem dL_law_854 : decode cL_law 854 = .ok (.iconst 1, 1) := by decide +kernel
theorem dL_law_855 : decode cL_law 855 = .ok (.iadd, 1) := by decide +kernel
theorem dL_law_856 : decode cL_law 856 = .ok (.iaload, 1) := by decide +kernel
theorem dL_law_857 : decode cL_law 857 = .ok (.aload_n 0, 1) := by decide +kernel
theorem dL_law_858 : decode cL_law 858 = .ok (.iload_n 3, 1) := by decide +kernel
theorem dL_law_859 : decode cL_law 859 = .ok (.iconst 2, 1) := by decide +kernel
theorem dL_law_860 : decode cL_law 860 = .ok (.iadd, 1) := by decide +kernel
theorem dL_law_861 : decode cL_law 861 = .ok (.iaload, 1) := by decide +kernel
theorem dL_law_862 : decode cL_law 862 = .ok (.aload_n 0, 1) := by decide +kernel
theorem dL_law_863 : decode cL_law 863 = .ok (.iload_n 3, 1) := by decide +kernel
theorem dL_law_864 : decode cL_law 864 = .ok (.iconst 3, 1) := by decide +kernel
theorem dL_law_865 : decode cL_law 865 = .ok (.iadd, 1) := by decide +kernel
theorem dL_law_866 : decode cL_law 866 = .ok (.iaload, 1) := by decide +kernel
theorem dL_law_867 : decode cL_law 867 = .ok (.invokevirtual 118, 3) := by decide +kernel
theorem dL_law_870 : decode cL_law 870 = .ok (.aload_n 2, 1) := by decide +kernel
theorem dL_law_871 : decode cL_law 871 = .ok (.aload_n 0, 1) := by decide +kernel
theorem dL_law_872 : decode cL_law 872 = .ok (.iload_n 3, 1) := by decide +kernel
theorem dL_law_873 : decode cL_law 873 = .ok (.iconst 1, 1) := by decide +kernel
theorem dL_law_874 : decode cL_law 874 = .ok (.iadd, 1) := by decide +kernel
theorem dL_law_875 : decode cL_law 875 = .ok (.iaload, 1) := by decide +kernel
theorem dL_law_876 : decode cL_law 876 = .ok (.aload_n 0, 1) := by decide +kernel
theorem dL_law_877 : decode cL_law 877 = .ok (.iload_n 3, 1) := by decide +kernel
theorem dL_law_878 : decode cL_law 878 = .ok (.iconst 2, 1) := by decide +kernel
theorem dL_law_879 : decode cL_law 879 = .ok (.iadd, 1) := by decide +kernel
theorem dL_law_880 : decode cL_law 880 = .ok (.iaload, 1) := by decide +kernel
theorem dL_law_881 : decode cL_law 881 = .ok (.aload_n 0, 1) := by decide +kernel
theorem dL_law_882 : decode cL_law 882 = .ok (.iload_n 3, 1) := by decide +kernel
theorem dL_law_883 : decode cL_law 883 = .ok (.iconst 3, 1) := by decide +kernel
theorem dL_law_884 : decode cL_law 884 = .ok (.iadd, 1) := by decide +kernel
theorem dL_law_885 : decode cL_law 885 = .ok (.iaload, 1) := by decide +kernel
theorem dL_law_886 : decode cL_law 886 = .ok (.invokevirtual 121, 3) := by decide +kernel
theorem dL_law_889 : decode cL_law 889 = .ok (.if_icmp .eq 394, 3) := by decide +kernel
theorem dL_law_892 : decode cL_law 892 = .ok (.iconst 0, 1) := by decide +kernel
theorem dL_law_893 : decode cL_law 893 = .ok (.ireturn, 1) := by decide +kernel
theorem dL_law_894 : decode cL_law 894 = .ok (.aload_n 1, 1) := by decide +kernel
theorem dL_law_895 : decode cL_law 895 = .ok (.aload_n 0, 1) := by decide +kernel
theorem dL_law_896 : decode cL_law 896 = .ok (.iload_n 3, 1) := by decide +kernel
theorem dL_law_897 : decode cL_law 897 = .ok (.iconst 1, 1) := by decide +kernel
theorem dL_law_898 : decode cL_law 898 = .ok (.iadd, 1) := by decide +kernel
theorem dL_law_899 : decode cL_law 899 = .ok (.iaload, 1) := by decide +kernel
theorem dL_law_900 : decode cL_law 900 = .ok (.aload_n 0, 1) := by decide +kernel
theorem dL_law_901 : decode cL_law 901 = .ok (.iload_n 3, 1) := by decide +kernel
theorem dL_law_902 : decode cL_law 902 = .ok (.iconst 2, 1) := by decide +kernel
theorem dL_law_903 : decode cL_law 903 = .ok (.iadd, 1) := by decide +kernel
theorem dL_law_904 : decode cL_law 904 = .ok (.iaload, 1) := by decide +kernel
theorem dL_law_905 : decode cL_law 905 = .ok (.invokevirtual 122, 3) := by decide +kernel
theorem dL_law_908 : decode cL_law 908 = .ok (.aload_n 2, 1) := by decide +kernel
theorem dL_law_909 : decode cL_law 909 = .ok (.aload_n 0, 1) := by decide +kernel
theorem dL_law_910 : decode cL_law 910 = .ok (.iload_n 3, 1) := by decide +kernel
theorem dL_law_911 : decode cL_law 911 = .ok (.iconst 1, 1) := by decide +kernel
theorem dL_law_912 : decode cL_law 912 = .ok (.iadd, 1) := by decide +kernel
theorem dL_law_913 : decode cL_law 913 = .ok (.iaload, 1) := by decide +kernel
theorem dL_law_914 : decode cL_law 914 = .ok (.aload_n 0, 1) := by decide +kernel
theorem dL_law_915 : decode cL_law 915 = .ok (.iload_n 3, 1) := by decide +kernel
theorem dL_law_916 : decode cL_law 916 = .ok (.iconst 2, 1) := by decide +kernel
theorem dL_law_917 : decode cL_law 917 = .ok (.iadd, 1) := by decide +kernel
theorem dL_law_918 : decode cL_law 918 = .ok (.iaload, 1) := by decide +kernel
theorem dL_law_919 : decode cL_law 919 = .ok (.invokevirtual 125, 3) := by decide +kernel
theorem dL_law_922 : decode cL_law 922 = .ok (.if_icmp .eq 361, 3) := by decide +kernel
theorem dL_law_925 : decode cL_law 925 = .ok (.iconst 0, 1) := by decide +kernel
theorem dL_law_926 : decode cL_law 926 = .ok (.ireturn, 1) := by decide +kernel
theorem dL_law_927 : decode cL_law 927 = .ok (.aload_n 1, 1) := by decide +kernel
theorem dL_law_928 : decode cL_law 928 = .ok (.aload_n 0, 1) := by decide +kernel
theorem dL_law_929 : decode cL_law 929 = .ok (.iload_n 3, 1) := by decide +kernel
theorem dL_law_930 : decode cL_law 930 = .ok (.iconst 1, 1) := by decide +kernel
theorem dL_law_931 : decode cL_law 931 = .ok (.iadd, 1) := by decide +kernel
theorem dL_law_932 : decode cL_law 932 = .ok (.iaload, 1) := by decide +kernel
theorem dL_law_933 : decode cL_law 933 = .ok (.aload_n 0, 1) := by decide +kernel
theorem dL_law_934 : decode cL_law 934 = .ok (.iload_n 3, 1) := by decide +kernel
theorem dL_law_935 : decode cL_law 935 = .ok (.iconst 2, 1) := by decide +kernel
theorem dL_law_936 : decode cL_law 936 = .ok (.iadd, 1) := by decide +kernel
theorem dL_law_937 : decode cL_law 937 = .ok (.iaload, 1) := by decide +kernel
theorem dL_law_938 : decode cL_law 938 = .ok (.invokevirtual 126, 3) := by decide +kernel
theorem dL_law_941 : decode cL_law 941 = .ok (.aload_n 2, 1) := by decide +kernel
theorem dL_law_942 : decode cL_law 942 = .ok (.aload_n 0, 1) := by decide +kernel
theorem dL_law_943 : decode cL_law 943 = .ok (.iload_n 3, 1) := by decide +kernel
theorem dL_law_944 : decode cL_law 944 = .ok (.iconst 1, 1) := by decide +kernel
theorem dL_law_945 : decode cL_law 945 = .ok (.iadd, 1) := by decide +kernel
theorem dL_law_946 : decode cL_law 946 = .ok (.iaload, 1) := by decide +kernel
theorem dL_law_947 : decode cL_law 947 = .ok (.aload_n 0, 1) := by decide +kernel
theorem dL_law_948 : decode cL_law 948 = .ok (.iload_n 3, 1) := by decide +kernel
theorem dL_law_949 : decode cL_law 949 = .ok (.iconst 2, 1) := by decide +kernel
theorem dL_law_950 : decode cL_law 950 = .ok (.iadd, 1) := by decide +kernel
theorem dL_law_951 : decode cL_law 951 = .ok (.iaload, 1) := by decide +kernel
theorem dL_law_952 : decode cL_law 952 = .ok (.invokevirtual 129, 3) := by decide +kernel
theorem dL_law_955 : decode cL_law 955 = .ok (.if_icmp .eq 328, 3) := by decide +kernel
theorem dL_law_958 : decode cL_law 958 = .ok (.iconst 0, 1) := by decide +kernel
theorem dL_law_959 : decode cL_law 959 = .ok (.ireturn, 1) := by decide +kernel
theorem dL_law_960 : decode cL_law 960 = .ok (.aload_n 1, 1) := by decide +kernel
theorem dL_law_961 : decode cL_law 961 = .ok (.invokevirtual 130, 3) := by decide +kernel
theorem dL_law_964 : decode cL_law 964 = .ok (.aload_n 2, 1) := by decide +kernel
theorem dL_law_965 : decode cL_law 965 = .ok (.invokevirtual 133, 3) := by decide +kernel
theorem dL_law_968 : decode cL_law 968 = .ok (.if_icmp .eq 315, 3) := by decide +kernel
theorem dL_law_971 : decode cL_law 971 = .ok (.iconst 0, 1) := by decide +kernel
theorem dL_law_972 : decode cL_law 972 = .ok (.ireturn, 1) := by decide +kernel
theorem dL_law_973 : decode cL_law 973 = .ok (.aload_n 1, 1) := by decide +kernel
theorem dL_law_974 : decode cL_law 974 = .ok (.invokevirtual 134, 3) := by decide +kernel
theorem dL_law_977 : decode cL_law 977 = .ok (.aload_n 2, 1) := by decide +kernel
theorem dL_law_978 : decode cL_law 978 = .ok (.invokevirtual 137, 3) := by decide +kernel
theorem dL_law_981 : decode cL_law 981 = .ok (.if_icmp .eq 302, 3) := by decide +kernel
theorem dL_law_984 : decode cL_law 984 = .ok (.iconst 0, 1) := by decide +kernel
theorem dL_law_985 : decode cL_law 985 = .ok (.ireturn, 1) := by decide +kernel
theorem dL_law_986 : decode cL_law 986 = .ok (.aload_n 1, 1) := by decide +kernel
theorem dL_law_987 : decode cL_law 987 = .ok (.aload_n 0, 1) := by decide +kernel
theorem dL_law_988 : decode cL_law 988 = .ok (.iload_n 3, 1) := by decide +kernel
theorem dL_law_989 : decode cL_law 989 = .ok (.iconst 1, 1) := by decide +kernel
theorem dL_law_990 : decode cL_law 990 = .ok (.iadd, 1) := by decide +kernel
theorem dL_law_991 : decode cL_law 991 = .ok (.iaload, 1) := by decide +kernel
theorem dL_law_992 : decode cL_law 992 = .ok (.invokevirtual 138, 3) := by decide +kernel
theorem dL_law_995 : decode cL_law 995 = .ok (.aload_n 2, 1) := by decide +kernel
theorem dL_law_996 : decode cL_law 996 = .ok (.aload_n 0, 1) := by decide +kernel
theorem dL_law_997 : decode cL_law 997 = .ok (.iload_n 3, 1) := by decide +kernel
theorem dL_law_998 : decode cL_law 998 = .ok (.iconst 1, 1) := by decide +kernel
theorem dL_law_999 : decode cL_law 999 = .ok (.iadd, 1) := by decide +kernel
theorem dL_law_1000 : decode cL_law 1000 = .ok (.iaload, 1) := by decide +kernel
theorem dL_law_1001 : decode cL_law 1001 = .ok (.invokevirtual 141, 3) := by decide +kernel
theorem dL_law_1004 : decode cL_law 1004 = .ok (.if_icmp .eq 279, 3) := by decide +kernel
theorem dL_law_1007 : decode cL_law 1007 = .ok (.iconst 0, 1) := by decide +kernel
theorem dL_law_1008 : decode cL_law 1008 = .ok (.ireturn, 1) := by decide +kernel
theorem dL_law_1009 : decode cL_law 1009 = .ok (.aload_n 1, 1) := by decide +kernel
theorem dL_law_1010 : decode cL_law 1010 = .ok (.aload_n 0, 1) := by decide +kernel
theorem dL_law_1011 : decode cL_law 1011 = .ok (.iload_n 3, 1) := by decide +kernel
theorem dL_law_1012 : decode cL_law 1012 = .ok (.iconst 1, 1) := by decide +kernel
theorem dL_law_1013 : decode cL_law 1013 = .ok (.iadd, 1) := by decide +kernel
theorem dL_law_1014 : decode cL_law 1014 = .ok (.iaload, 1) := by decide +kernel
theorem dL_law_1015 : decode cL_law 1015 = .ok (.invokevirtual 142, 3) := by decide +kernel
theorem dL_law_1018 : decode cL_law 1018 = .ok (.aload_n 2, 1) := by decide +kernel
theorem dL_law_1019 : decode cL_law 1019 = .ok (.aload_n 0, 1) := by decide +kernel
theorem dL_law_1020 : decode cL_law 1020 = .ok (.iload_n 3, 1) := by decide +kernel
theorem dL_law_1021 : decode cL_law 1021 = .ok (.iconst 1, 1) := by decide +kernel
theorem dL_law_1022 : decode cL_law 1022 = .ok (.iadd, 1) := by decide +kernel
theorem dL_law_1023 : decode cL_law 1023 = .ok (.iaload, 1) := by decide +kernel
theorem dL_law_1024 : decode cL_law 1024 = .ok (.invokevirtual 145, 3) := by decide +kernel
theorem dL_law_1027 : decode cL_law 1027 = .ok (.if_icmp .eq 256, 3) := by decide +kernel
theorem dL_law_1030 : decode cL_law 1030 = .ok (.iconst 0, 1) := by decide +kernel
theorem dL_law_1031 : decode cL_law 1031 = .ok (.ireturn, 1) := by decide +kernel
theorem dL_law_1032 : decode cL_law 1032 = .ok (.aload_n 1, 1) := by decide +kernel
theorem dL_law_1033 : decode cL_law 1033 = .ok (.aload_n 0, 1) := by decide +kernel
theorem dL_law_1034 : decode cL_law 1034 = .ok (.iload_n 3, 1) := by decide +kernel
theorem dL_law_1035 : decode cL_law 1035 = .ok (.iconst 1, 1) := by decide +kernel
theorem dL_law_1036 : decode cL_law 1036 = .ok (.iadd, 1) := by decide +kernel
theorem dL_law_1037 : decode cL_law 1037 = .ok (.iaload, 1) := by decide +kernel
theorem dL_law_1038 : decode cL_law 1038 = .ok (.invokevirtual 146, 3) := by decide +kernel
theorem dL_law_1041 : decode cL_law 1041 = .ok (.aload_n 2, 1) := by decide +kernel
theorem dL_law_1042 : decode cL_law 1042 = .ok (.aload_n 0, 1) := by decide +kernel
theorem dL_law_1043 : decode cL_law 1043 = .ok (.iload_n 3, 1) := by decide +kernel
theorem dL_law_1044 : decode cL_law 1044 = .ok (.iconst 1, 1) := by decide +kernel
theorem dL_law_1045 : decode cL_law 1045 = .ok (.iadd, 1) := by decide +kernel
theorem dL_law_1046 : decode cL_law 1046 = .ok (.iaload, 1) := by decide +kernel
theorem dL_law_1047 : decode cL_law 1047 = .ok (.invokevirtual 149, 3) := by decide +kernel
theorem dL_law_1050 : decode cL_law 1050 = .ok (.if_icmp .eq 233, 3) := by decide +kernel
theorem dL_law_1053 : decode cL_law 1053 = .ok (.iconst 0, 1) := by decide +kernel
theorem dL_law_1054 : decode cL_law 1054 = .ok (.ireturn, 1) := by decide +kernel
theorem dL_law_1055 : decode cL_law 1055 = .ok (.aload_n 1, 1) := by decide +kernel
theorem dL_law_1056 : decode cL_law 1056 = .ok (.aload_n 0, 1) := by decide +kernel
theorem dL_law_1057 : decode cL_law 1057 = .ok (.iload_n 3, 1) := by decide +kernel
theorem dL_law_1058 : decode cL_law 1058 = .ok (.iconst 1, 1) := by decide +kernel
theorem dL_law_1059 : decode cL_law 1059 = .ok (.iadd, 1) := by decide +kernel
theorem dL_law_1060 : decode cL_law 1060 = .ok (.iaload, 1) := by decide +kernel
theorem dL_law_1061 : decode cL_law 1061 = .ok (.invokevirtual 150, 3) := by decide +kernel
theorem dL_law_1064 : decode cL_law 1064 = .ok (.aload_n 2, 1) := by decide +kernel
theorem dL_law_1065 : decode cL_law 1065 = .ok (.aload_n 0, 1) := by decide +kernel
theorem dL_law_1066 : decode cL_law 1066 = .ok (.iload_n 3, 1) := by decide +kernel
theorem dL_law_1067 : decode cL_law 1067 = .ok (.iconst 1, 1) := by decide +kernel
theorem dL_law_1068 : decode cL_law 1068 = .ok (.iadd, 1) := by decide +kernel
theorem dL_law_1069 : decode cL_law 1069 = .ok (.iaload, 1) := by decide +kernel
theorem dL_law_1070 : decode cL_law 1070 = .ok (.invokevirtual 153, 3) := by decide +kernel
theorem dL_law_1073 : decode cL_law 1073 = .ok (.if_icmp .eq 210, 3) := by decide +kernel
theorem dL_law_1076 : decode cL_law 1076 = .ok (.iconst 0, 1) := by decide +kernel
theorem dL_law_1077 : decode cL_law 1077 = .ok (.ireturn, 1) := by decide +kernel
theorem dL_law_1078 : decode cL_law 1078 = .ok (.aload_n 1, 1) := by decide +kernel
theorem dL_law_1079 : decode cL_law 1079 = .ok (.aload_n 0, 1) := by decide +kernel
theorem dL_law_1080 : decode cL_law 1080 = .ok (.iload_n 3, 1) := by decide +kernel
theorem dL_law_1081 : decode cL_law 1081 = .ok (.iconst 1, 1) := by decide +kernel
theorem dL_law_1082 : decode cL_law 1082 = .ok (.iadd, 1) := by decide +kernel
theorem dL_law_1083 : decode cL_law 1083 = .ok (.iaload, 1) := by decide +kernel
theorem dL_law_1084 : decode cL_law 1084 = .ok (.aload_n 0, 1) := by decide +kernel
theorem dL_law_1085 : decode cL_law 1085 = .ok (.iload_n 3, 1) := by decide +kernel
theorem dL_law_1086 : decode cL_law 1086 = .ok (.iconst 2, 1) := by decide +kernel
theorem dL_law_1087 : decode cL_law 1087 = .ok (.iadd, 1) := by decide +kernel
theorem dL_law_1088 : decode cL_law 1088 = .ok (.iaload, 1) := by decide +kernel
theorem dL_law_1089 : decode cL_law 1089 = .ok (.invokevirtual 154, 3) := by decide +kernel
theorem dL_law_1092 : decode cL_law 1092 = .ok (.aload_n 2, 1) := by decide +kernel
theorem dL_law_1093 : decode cL_law 1093 = .ok (.aload_n 0, 1) := by decide +kernel
theorem dL_law_1094 : decode cL_law 1094 = .ok (.iload_n 3, 1) := by decide +kernel
theorem dL_law_1095 : decode cL_law 1095 = .ok (.iconst 1, 1) := by decide +kernel
theorem dL_law_1096 : decode cL_law 1096 = .ok (.iadd, 1) := by decide +kernel
theorem dL_law_1097 : decode cL_law 1097 = .ok (.iaload, 1) := by decide +kernel
theorem dL_law_1098 : decode cL_law 1098 = .ok (.aload_n 0, 1) := by decide +kernel
theorem dL_law_1099 : decode cL_law 1099 = .ok (.iload_n 3, 1) := by decide +kernel
theorem dL_law_1100 : decode cL_law 1100 = .ok (.iconst 2, 1) := by decide +kernel
theorem dL_law_1101 : decode cL_law 1101 = .ok (.iadd, 1) := by decide +kernel
theorem dL_law_1102 : decode cL_law 1102 = .ok (.iaload, 1) := by decide +kernel
theorem dL_law_1103 : decode cL_law 1103 = .ok (.invokevirtual 158, 3) := by decide +kernel
theorem dL_law_1106 : decode cL_law 1106 = .ok (.lcmp, 1) := by decide +kernel
theorem dL_law_1107 : decode cL_law 1107 = .ok (.ifCond .eq 176, 3) := by decide +kernel
theorem dL_law_1110 : decode cL_law 1110 = .ok (.iconst 0, 1) := by decide +kernel
theorem dL_law_1111 : decode cL_law 1111 = .ok (.ireturn, 1) := by decide +kernel
theorem dL_law_1112 : decode cL_law 1112 = .ok (.aload_n 1, 1) := by decide +kernel
theorem dL_law_1113 : decode cL_law 1113 = .ok (.aload_n 0, 1) := by decide +kernel
theorem dL_law_1114 : decode cL_law 1114 = .ok (.iload_n 3, 1) := by decide +kernel
theorem dL_law_1115 : decode cL_law 1115 = .ok (.iconst 1, 1) := by decide +kernel
theorem dL_law_1116 : decode cL_law 1116 = .ok (.iadd, 1) := by decide +kernel
theorem dL_law_1117 : decode cL_law 1117 = .ok (.iaload, 1) := by decide +kernel
theorem dL_law_1118 : decode cL_law 1118 = .ok (.invokevirtual 159, 3) := by decide +kernel
theorem dL_law_1121 : decode cL_law 1121 = .ok (.aload_n 2, 1) := by decide +kernel
theorem dL_law_1122 : decode cL_law 1122 = .ok (.aload_n 0, 1) := by decide +kernel
theorem dL_law_1123 : decode cL_law 1123 = .ok (.iload_n 3, 1) := by decide +kernel
theorem dL_law_1124 : decode cL_law 1124 = .ok (.iconst 1, 1) := by decide +kernel
theorem dL_law_1125 : decode cL_law 1125 = .ok (.iadd, 1) := by decide +kernel
theorem dL_law_1126 : decode cL_law 1126 = .ok (.iaload, 1) := by decide +kernel
theorem dL_law_1127 : decode cL_law 1127 = .ok (.invokevirtual 162, 3) := by decide +kernel
theorem dL_law_1130 : decode cL_law 1130 = .ok (.if_icmp .eq 153, 3) := by decide +kernel
theorem dL_law_1133 : decode cL_law 1133 = .ok (.iconst 0, 1) := by decide +kernel
theorem dL_law_1134 : decode cL_law 1134 = .ok (.ireturn, 1) := by decide +kernel
theorem dL_law_1135 : decode cL_law 1135 = .ok (.aload_n 1, 1) := by decide +kernel
theorem dL_law_1136 : decode cL_law 1136 = .ok (.aload_n 0, 1) := by decide +kernel
theorem dL_law_1137 : decode cL_law 1137 = .ok (.iload_n 3, 1) := by decide +kernel
theorem dL_law_1138 : decode cL_law 1138 = .ok (.iconst 1, 1) := by decide +kernel
theorem dL_law_1139 : decode cL_law 1139 = .ok (.iadd, 1) := by decide +kernel
theorem dL_law_1140 : decode cL_law 1140 = .ok (.iaload, 1) := by decide +kernel
theorem dL_law_1141 : decode cL_law 1141 = .ok (.aload_n 0, 1) := by decide +kernel
theorem dL_law_1142 : decode cL_law 1142 = .ok (.iload_n 3, 1) := by decide +kernel
theorem dL_law_1143 : decode cL_law 1143 = .ok (.iconst 2, 1) := by decide +kernel
theorem dL_law_1144 : decode cL_law 1144 = .ok (.iadd, 1) := by decide +kernel
theorem dL_law_1145 : decode cL_law 1145 = .ok (.iaload, 1) := by decide +kernel
theorem dL_law_1146 : decode cL_law 1146 = .ok (.invokevirtual 163, 3) := by decide +kernel
theorem dL_law_1149 : decode cL_law 1149 = .ok (.aload_n 2, 1) := by decide +kernel
theorem dL_law_1150 : decode cL_law 1150 = .ok (.aload_n 0, 1) := by decide +kernel
theorem dL_law_1151 : decode cL_law 1151 = .ok (.iload_n 3, 1) := by decide +kernel
theorem dL_law_1152 : decode cL_law 1152 = .ok (.iconst 1, 1) := by decide +kernel
theorem dL_law_1153 : decode cL_law 1153 = .ok (.iadd, 1) := by decide +kernel
theorem dL_law_1154 : decode cL_law 1154 = .ok (.iaload, 1) := by decide +kernel
theorem dL_law_1155 : decode cL_law 1155 = .ok (.aload_n 0, 1) := by decide +kernel
theorem dL_law_1156 : decode cL_law 1156 = .ok (.iload_n 3, 1) := by decide +kernel
theorem dL_law_1157 : decode cL_law 1157 = .ok (.iconst 2, 1) := by decide +kernel
theorem dL_law_1158 : decode cL_law 1158 = .ok (.iadd, 1) := by decide +kernel
theorem dL_law_1159 : decode cL_law 1159 = .ok (.iaload, 1) := by decide +kernel
theorem dL_law_1160 : decode cL_law 1160 = .ok (.invokevirtual 166, 3) := by decide +kernel
theorem dL_law_1163 : decode cL_law 1163 = .ok (.if_icmp .eq 120, 3) := by decide +kernel
theorem dL_law_1166 : decode cL_law 1166 = .ok (.iconst 0, 1) := by decide +kernel
theorem dL_law_1167 : decode cL_law 1167 = .ok (.ireturn, 1) := by decide +kernel
theorem dL_law_1168 : decode cL_law 1168 = .ok (.aload_n 1, 1) := by decide +kernel
theorem dL_law_1169 : decode cL_law 1169 = .ok (.aload_n 0, 1) := by decide +kernel
theorem dL_law_1170 : decode cL_law 1170 = .ok (.iload_n 3, 1) := by decide +kernel
theorem dL_law_1171 : decode cL_law 1171 = .ok (.iconst 1, 1) := by decide +kernel
theorem dL_law_1172 : decode cL_law 1172 = .ok (.iadd, 1) := by decide +kernel
theorem dL_law_1173 : decode cL_law 1173 = .ok (.iaload, 1) := by decide +kernel
theorem dL_law_1174 : decode cL_law 1174 = .ok (.aload_n 0, 1) := by decide +kernel
theorem dL_law_1175 : decode cL_law 1175 = .ok (.iload_n 3, 1) := by decide +kernel
theorem dL_law_1176 : decode cL_law 1176 = .ok (.iconst 2, 1) := by decide +kernel
theorem dL_law_1177 : decode cL_law 1177 = .ok (.iadd, 1) := by decide +kernel
theorem dL_law_1178 : decode cL_law 1178 = .ok (.iaload, 1) := by decide +kernel
theorem dL_law_1179 : decode cL_law 1179 = .ok (.invokevirtual 167, 3) := by decide +kernel
theorem dL_law_1182 : decode cL_law 1182 = .ok (.aload_n 2, 1) := by decide +kernel
theorem dL_law_1183 : decode cL_law 1183 = .ok (.aload_n 0, 1) := by decide +kernel
theorem dL_law_1184 : decode cL_law 1184 = .ok (.iload_n 3, 1) := by decide +kernel
theorem dL_law_1185 : decode cL_law 1185 = .ok (.iconst 1, 1) := by decide +kernel
theorem dL_law_1186 : decode cL_law 1186 = .ok (.iadd, 1) := by decide +kernel
theorem dL_law_1187 : decode cL_law 1187 = .ok (.iaload, 1) := by decide +kernel
theorem dL_law_1188 : decode cL_law 1188 = .ok (.aload_n 0, 1) := by decide +kernel
theorem dL_law_1189 : decode cL_law 1189 = .ok (.iload_n 3, 1) := by decide +kernel
theorem dL_law_1190 : decode cL_law 1190 = .ok (.iconst 2, 1) := by decide +kernel
theorem dL_law_1191 : decode cL_law 1191 = .ok (.iadd, 1) := by decide +kernel
theorem dL_law_1192 : decode cL_law 1192 = .ok (.iaload, 1) := by decide +kernel
theorem dL_law_1193 : decode cL_law 1193 = .ok (.invokevirtual 170, 3) := by decide +kernel
theorem dL_law_1196 : decode cL_law 1196 = .ok (.if_icmp .eq 87, 3) := by decide +kernel
theorem dL_law_1199 : decode cL_law 1199 = .ok (.iconst 0, 1) := by decide +kernel
theorem dL_law_1200 : decode cL_law 1200 = .ok (.ireturn, 1) := by decide +kernel
theorem dL_law_1201 : decode cL_law 1201 = .ok (.aload_n 1, 1) := by decide +kernel
