theorem dX10_vault_35 : decode cX10_vault 35 = .ok (.getfield 89, 3) := by decide +kernel
theorem dX10_vault_38 : decode cX10_vault 38 = .ok (.getfield 112, 3) := by decide +kernel
theorem dX10_vault_41 : decode cX10_vault 41 = .ok (.aload_n 0, 1) := by decide +kernel
theorem dX10_vault_42 : decode cX10_vault 42 = .ok (.getfield 89, 3) := by decide +kernel
theorem dX10_vault_45 : decode cX10_vault 45 = .ok (.getfield 109, 3) := by decide +kernel
theorem dX10_vault_48 : decode cX10_vault 48 = .ok (.iload_n 1, 1) := by decide +kernel
theorem dX10_vault_49 : decode cX10_vault 49 = .ok (.iastore, 1) := by decide +kernel
theorem dX10_vault_50 : decode cX10_vault 50 = .ok (.aload_n 0, 1) := by decide +kernel
theorem dX10_vault_51 : decode cX10_vault 51 = .ok (.getfield 89, 3) := by decide +kernel
theorem dX10_vault_54 : decode cX10_vault 54 = .ok (.dup, 1) := by decide +kernel
theorem dX10_vault_55 : decode cX10_vault 55 = .ok (.getfield 109, 3) := by decide +kernel
theorem dX10_vault_58 : decode cX10_vault 58 = .ok (.iconst 1, 1) := by decide +kernel
theorem dX10_vault_59 : decode cX10_vault 59 = .ok (.iadd, 1) := by decide +kernel
theorem dX10_vault_60 : decode cX10_vault 60 = .ok (.putfield 109, 3) := by decide +kernel
theorem dX10_vault_63 : decode cX10_vault 63 = .ok (.aload_n 0, 1) := by decide +kernel
theorem dX10_vault_64 : decode cX10_vault 64 = .ok (.getfield 58, 3) := by decide +kernel
theorem dX10_vault_67 : decode cX10_vault 67 = .ok (.invokevirtual 115, 3) := by decide +kernel
theorem dX10_vault_70 : decode cX10_vault 70 = .ok (.aload_n 0, 1) := by decide +kernel
theorem dX10_vault_71 : decode cX10_vault 71 = .ok (.aload_n 0, 1) := by decide +kernel
theorem dX10_vault_72 : decode cX10_vault 72 = .ok (.getfield 89, 3) := by decide +kernel
theorem dX10_vault_75 : decode cX10_vault 75 = .ok (.getfield 109, 3) := by decide +kernel
theorem dX10_vault_78 : decode cX10_vault 78 = .ok (.iconst 1, 1) := by decide +kernel
theorem dX10_vault_79 : decode cX10_vault 79 = .ok (.isub, 1) := by decide +kernel
theorem dX10_vault_80 : decode cX10_vault 80 = .ok (.invokevirtual 118, 3) := by decide +kernel
theorem dX10_vault_83 : decode cX10_vault 83 = .ok (.ireturn, 1) := by decide +kernel
theorem dX10_at_0 : decode cX10_at 0 = .ok (.aload_n 0, 1) := by decide +kernel
theorem dX10_at_1 : decode cX10_at 1 = .ok (.getfield 89, 3) := by decide +kernel
theorem dX10_at_4 : decode cX10_at 4 = .ok (.iload_n 1, 1) := by decide +kernel
theorem dX10_at_5 : decode cX10_at 5 = .ok (.invokevirtual 121, 3) := by decide +kernel
theorem dX10_at_8 : decode cX10_at 8 = .ok (.ifCond .ne 5, 3) := by decide +kernel
theorem dX10_at_11 : decode cX10_at 11 = .ok (.iconst (-1), 1) := by decide +kernel
theorem dX10_at_12 : decode cX10_at 12 = .ok (.ireturn, 1) := by decide +kernel
theorem dX10_at_13 : decode cX10_at 13 = .ok (.iload_n 2, 1) := by decide +kernel
theorem dX10_at_14 : decode cX10_at 14 = .ok (.tableswitch 54 0 2 #[26, 36, 45], 26) := by decide +kernel
theorem dX10_at_40 : decode cX10_at 40 = .ok (.aload_n 0, 1) := by decide +kernel
theorem dX10_at_41 : decode cX10_at 41 = .ok (.getfield 89, 3) := by decide +kernel
theorem dX10_at_44 : decode cX10_at 44 = .ok (.getfield 112, 3) := by decide +kernel
theorem dX10_at_47 : decode cX10_at 47 = .ok (.iload_n 1, 1) := by decide +kernel
theorem dX10_at_48 : decode cX10_at 48 = .ok (.iaload, 1) := by decide +kernel
theorem dX10_at_49 : decode cX10_at 49 = .ok (.ireturn, 1) := by decide +kernel
theorem dX10_at_50 : decode cX10_at 50 = .ok (.aload_n 0, 1) := by decide +kernel
theorem dX10_at_51 : decode cX10_at 51 = .ok (.getfield 89, 3) := by decide +kernel
theorem dX10_at_54 : decode cX10_at 54 = .ok (.iload_n 1, 1) := by decide +kernel
theorem dX10_at_55 : decode cX10_at 55 = .ok (.invokevirtual 125, 3) := by decide +kernel
theorem dX10_at_58 : decode cX10_at 58 = .ok (.ireturn, 1) := by decide +kernel
theorem dX10_at_59 : decode cX10_at 59 = .ok (.aload_n 0, 1) := by decide +kernel
theorem dX10_at_60 : decode cX10_at 60 = .ok (.getfield 89, 3) := by decide +kernel
theorem dX10_at_63 : decode cX10_at 63 = .ok (.iload_n 1, 1) := by decide +kernel
theorem dX10_at_64 : decode cX10_at 64 = .ok (.invokevirtual 128, 3) := by decide +kernel
theorem dX10_at_67 : decode cX10_at 67 = .ok (.ireturn, 1) := by decide +kernel
theorem dX10_at_68 : decode cX10_at 68 = .ok (.iconst (-1), 1) := by decide +kernel
theorem dX10_at_69 : decode cX10_at 69 = .ok (.ireturn, 1) := by decide +kernel
theorem dX10_family_0 : decode cX10_family 0 = .ok (.iload_n 1, 1) := by decide +kernel
theorem dX10_family_1 : decode cX10_family 1 = .ok (.ifCond .lt 10, 3) := by decide +kernel
theorem dX10_family_4 : decode cX10_family 4 = .ok (.iload_n 1, 1) := by decide +kernel
theorem dX10_family_5 : decode cX10_family 5 = .ok (.sipush 999, 3) := by decide +kernel
theorem dX10_family_8 : decode cX10_family 8 = .ok (.if_icmp .le 9, 3) := by decide +kernel
theorem dX10_family_11 : decode cX10_family 11 = .ok (.aload_n 0, 1) := by decide +kernel
theorem dX10_family_12 : decode cX10_family 12 = .ok (.iconst (-1), 1) := by decide +kernel
theorem dX10_family_13 : decode cX10_family 13 = .ok (.invokevirtual 105, 3) := by decide +kernel
theorem dX10_family_16 : decode cX10_family 16 = .ok (.ireturn, 1) := by decide +kernel
theorem dX10_family_17 : decode cX10_family 17 = .ok (.aload_n 0, 1) := by decide +kernel
theorem dX10_family_18 : decode cX10_family 18 = .ok (.getfield 89, 3) := by decide +kernel
theorem dX10_family_21 : decode cX10_family 21 = .ok (.getfield 131, 3) := by decide +kernel
theorem dX10_family_24 : decode cX10_family 24 = .ok (.iconst 4, 1) := by decide +kernel
theorem dX10_family_25 : decode cX10_family 25 = .ok (.if_icmp .lt 10, 3) := by decide +kernel
theorem dX10_family_28 : decode cX10_family 28 = .ok (.aload_n 0, 1) := by decide +kernel
theorem dX10_family_29 : decode cX10_family 29 = .ok (.bipush (-5), 2) := by decide +kernel
theorem dX10_family_31 : decode cX10_family 31 = .ok (.invokevirtual 105, 3) := by decide +kernel
theorem dX10_family_34 : decode cX10_family 34 = .ok (.ireturn, 1) := by decide +kernel
theorem dX10_family_35 : decode cX10_family 35 = .ok (.aload_n 0, 1) := by decide +kernel
theorem dX10_family_36 : decode cX10_family 36 = .ok (.getfield 89, 3) := by decide +kernel
theorem dX10_family_39 : decode cX10_family 39 = .ok (.getfield 134, 3) := by decide +kernel
theorem dX10_family_42 : decode cX10_family 42 = .ok (.aload_n 0, 1) := by decide +kernel
theorem dX10_family_43 : decode cX10_family 43 = .ok (.getfield 89, 3) := by decide +kernel
theorem dX10_family_46 : decode cX10_family 46 = .ok (.getfield 131, 3) := by decide +kernel
theorem dX10_family_49 : decode cX10_family 49 = .ok (.iload_n 1, 1) := by decide +kernel
theorem dX10_family_50 : decode cX10_family 50 = .ok (.iastore, 1) := by decide +kernel
theorem dX10_family_51 : decode cX10_family 51 = .ok (.aload_n 0, 1) := by decide +kernel
theorem dX10_family_52 : decode cX10_family 52 = .ok (.getfield 89, 3) := by decide +kernel
theorem dX10_family_55 : decode cX10_family 55 = .ok (.dup, 1) := by decide +kernel
theorem dX10_family_56 : decode cX10_family 56 = .ok (.getfield 131, 3) := by decide +kernel
theorem dX10_family_59 : decode cX10_family 59 = .ok (.iconst 1, 1) := by decide +kernel
theorem dX10_family_60 : decode cX10_family 60 = .ok (.iadd, 1) := by decide +kernel
theorem dX10_family_61 : decode cX10_family 61 = .ok (.putfield 131, 3) := by decide +kernel
theorem dX10_family_64 : decode cX10_family 64 = .ok (.aload_n 0, 1) := by decide +kernel
theorem dX10_family_65 : decode cX10_family 65 = .ok (.getfield 58, 3) := by decide +kernel
theorem dX10_family_68 : decode cX10_family 68 = .ok (.invokevirtual 115, 3) := by decide +kernel
theorem dX10_family_71 : decode cX10_family 71 = .ok (.aload_n 0, 1) := by decide +kernel
theorem dX10_family_72 : decode cX10_family 72 = .ok (.aload_n 0, 1) := by decide +kernel
theorem dX10_family_73 : decode cX10_family 73 = .ok (.getfield 89, 3) := by decide +kernel
theorem dX10_family_76 : decode cX10_family 76 = .ok (.getfield 131, 3) := by decide +kernel
theorem dX10_family_79 : decode cX10_family 79 = .ok (.iconst 1, 1) := by decide +kernel
theorem dX10_family_80 : decode cX10_family 80 = .ok (.isub, 1) := by decide +kernel
theorem dX10_family_81 : decode cX10_family 81 = .ok (.invokevirtual 118, 3) := by decide +kernel
theorem dX10_family_84 : decode cX10_family 84 = .ok (.ireturn, 1) := by decide +kernel
theorem dX10_has_0 : decode cX10_has 0 = .ok (.aload_n 0, 1) := by decide +kernel
theorem dX10_has_1 : decode cX10_has 1 = .ok (.getfield 89, 3) := by decide +kernel
theorem dX10_has_4 : decode cX10_has 4 = .ok (.iload_n 1, 1) := by decide +kernel
theorem dX10_has_5 : decode cX10_has 5 = .ok (.invokevirtual 137, 3) := by decide +kernel
theorem dX10_has_8 : decode cX10_has 8 = .ok (.ifCond .ne 5, 3) := by decide +kernel
theorem dX10_has_11 : decode cX10_has 11 = .ok (.iconst (-1), 1) := by decide +kernel
theorem dX10_has_12 : decode cX10_has 12 = .ok (.ireturn, 1) := by decide +kernel
theorem dX10_has_13 : decode cX10_has 13 = .ok (.iload_n 2, 1) := by decide +kernel
theorem dX10_has_14 : decode cX10_has 14 = .ok (.tableswitch 67 0 3 #[30, 40, 49, 58], 30) := by decide +kernel
theorem dX10_has_44 : decode cX10_has 44 = .ok (.aload_n 0, 1) := by decide +kernel
theorem dX10_has_45 : decode cX10_has 45 = .ok (.getfield 89, 3) := by decide +kernel
theorem dX10_has_48 : decode cX10_has 48 = .ok (.getfield 134, 3) := by decide +kernel
theorem dX10_has_51 : decode cX10_has 51 = .ok (.iload_n 1, 1) := by decide +kernel
theorem dX10_has_52 : decode cX10_has 52 = .ok (.iaload, 1) := by decide +kernel
theorem dX10_has_53 : decode cX10_has 53 = .ok (.ireturn, 1) := by decide +kernel
theorem dX10_has_54 : decode cX10_has 54 = .ok (.aload_n 0, 1) := by decide +kernel
theorem dX10_has_55 : decode cX10_has 55 = .ok (.getfield 89, 3) := by decide +kernel
theorem dX10_has_58 : decode cX10_has 58 = .ok (.iload_n 1, 1) := by decide +kernel
theorem dX10_has_59 : decode cX10_has 59 = .ok (.invokevirtual 140, 3) := by decide +kernel
theorem dX10_has_62 : decode cX10_has 62 = .ok (.ireturn, 1) := by decide +kernel
theorem dX10_has_63 : decode cX10_has 63 = .ok (.aload_n 0, 1) := by decide +kernel
theorem dX10_has_64 : decode cX10_has 64 = .ok (.getfield 89, 3) := by decide +kernel
theorem dX10_has_67 : decode cX10_has 67 = .ok (.iload_n 1, 1) := by decide +kernel
theorem dX10_has_68 : decode cX10_has 68 = .ok (.invokevirtual 143, 3) := by decide +kernel
theorem dX10_has_71 : decode cX10_has 71 = .ok (.ireturn, 1) := by decide +kernel
theorem dX10_has_72 : decode cX10_has 72 = .ok (.aload_n 0, 1) := by decide +kernel
theorem dX10_has_73 : decode cX10_has 73 = .ok (.getfield 89, 3) := by decide +kernel
theorem dX10_has_76 : decode cX10_has 76 = .ok (.iload_n 1, 1) := by decide +kernel
theorem dX10_has_77 : decode cX10_has 77 = .ok (.invokevirtual 146, 3) := by decide +kernel
theorem dX10_has_80 : decode cX10_has 80 = .ok (.ireturn, 1) := by decide +kernel
theorem dX10_has_81 : decode cX10_has 81 = .ok (.iconst (-1), 1) := by decide +kernel
theorem dX10_has_82 : decode cX10_has 82 = .ok (.ireturn, 1) := by decide +kernel
theorem dX10_dead_0 : decode cX10_dead 0 = .ok (.aload_n 0, 1) := by decide +kernel
theorem dX10_dead_1 : decode cX10_dead 1 = .ok (.getfield 89, 3) := by decide +kernel
theorem dX10_dead_4 : decode cX10_dead 4 = .ok (.iload_n 1, 1) := by decide +kernel
theorem dX10_dead_5 : decode cX10_dead 5 = .ok (.iload_n 2, 1) := by decide +kernel
theorem dX10_dead_6 : decode cX10_dead 6 = .ok (.iload_n 3, 1) := by decide +kernel
theorem dX10_dead_7 : decode cX10_dead 7 = .ok (.invokevirtual 149, 3) := by decide +kernel
theorem dX10_dead_10 : decode cX10_dead 10 = .ok (.istore 4, 2) := by decide +kernel
theorem dX10_dead_12 : decode cX10_dead 12 = .ok (.iload 4, 2) := by decide +kernel
theorem dX10_dead_14 : decode cX10_dead 14 = .ok (.ifCond .eq 10, 3) := by decide +kernel
theorem dX10_dead_17 : decode cX10_dead 17 = .ok (.aload_n 0, 1) := by decide +kernel
theorem dX10_dead_18 : decode cX10_dead 18 = .ok (.iload 4, 2) := by decide +kernel
theorem dX10_dead_20 : decode cX10_dead 20 = .ok (.invokevirtual 105, 3) := by decide +kernel
theorem dX10_dead_23 : decode cX10_dead 23 = .ok (.ireturn, 1) := by decide +kernel
theorem dX10_dead_24 : decode cX10_dead 24 = .ok (.aload_n 0, 1) := by decide +kernel
theorem dX10_dead_25 : decode cX10_dead 25 = .ok (.getfield 89, 3) := by decide +kernel
theorem dX10_dead_28 : decode cX10_dead 28 = .ok (.iload_n 1, 1) := by decide +kernel
theorem dX10_dead_29 : decode cX10_dead 29 = .ok (.iload_n 2, 1) := by decide +kernel
theorem dX10_dead_30 : decode cX10_dead 30 = .ok (.iload_n 3, 1) := by decide +kernel
theorem dX10_dead_31 : decode cX10_dead 31 = .ok (.invokevirtual 153, 3) := by decide +kernel
theorem dX10_dead_34 : decode cX10_dead 34 = .ok (.aload_n 0, 1) := by decide +kernel
theorem dX10_dead_35 : decode cX10_dead 35 = .ok (.getfield 58, 3) := by decide +kernel
theorem dX10_dead_38 : decode cX10_dead 38 = .ok (.invokevirtual 115, 3) := by decide +kernel
theorem dX10_dead_41 : decode cX10_dead 41 = .ok (.aload_n 0, 1) := by decide +kernel
theorem dX10_dead_42 : decode cX10_dead 42 = .ok (.aload_n 0, 1) := by decide +kernel
theorem dX10_dead_43 : decode cX10_dead 43 = .ok (.getfield 89, 3) := by decide +kernel
theorem dX10_dead_46 : decode cX10_dead 46 = .ok (.getfield 157, 3) := by decide +kernel
theorem dX10_dead_49 : decode cX10_dead 49 = .ok (.iconst 1, 1) := by decide +kernel
theorem dX10_dead_50 : decode cX10_dead 50 = .ok (.isub, 1) := by decide +kernel
theorem dX10_dead_51 : decode cX10_dead 51 = .ok (.invokevirtual 118, 3) := by decide +kernel
theorem dX10_dead_54 : decode cX10_dead 54 = .ok (.ireturn, 1) := by decide +kernel
theorem dX10_of_0 : decode cX10_of 0 = .ok (.aload_n 0, 1) := by decide +kernel
theorem dX10_of_1 : decode cX10_of 1 = .ok (.getfield 89, 3) := by decide +kernel
theorem dX10_of_4 : decode cX10_of 4 = .ok (.iload_n 1, 1) := by decide +kernel
theorem dX10_of_5 : decode cX10_of 5 = .ok (.invokevirtual 160, 3) := by decide +kernel
theorem dX10_of_8 : decode cX10_of 8 = .ok (.ifCond .ne 6, 3) := by decide +kernel
theorem dX10_of_11 : decode cX10_of 11 = .ok (.bipush (-100), 2) := by decide +kernel
theorem dX10_of_13 : decode cX10_of 13 = .ok (.ireturn, 1) := by decide +kernel
theorem dX10_of_14 : decode cX10_of 14 = .ok (.iload_n 2, 1) := by decide +kernel
theorem dX10_of_15 : decode cX10_of 15 = .ok (.tableswitch 113 0 5 #[37, 47, 57, 67, 79, 96], 37) := by decide +kernel
theorem dX10_of_52 : decode cX10_of 52 = .ok (.aload_n 0, 1) := by decide +kernel
theorem dX10_of_53 : decode cX10_of 53 = .ok (.getfield 89, 3) := by decide +kernel
theorem dX10_of_56 : decode cX10_of 56 = .ok (.getfield 163, 3) := by decide +kernel
theorem dX10_of_59 : decode cX10_of 59 = .ok (.iload_n 1, 1) := by decide +kernel
theorem dX10_of_60 : decode cX10_of 60 = .ok (.iaload, 1) := by decide +kernel
theorem dX10_of_61 : decode cX10_of 61 = .ok (.ireturn, 1) := by decide +kernel
theorem dX10_of_62 : decode cX10_of 62 = .ok (.aload_n 0, 1) := by decide +kernel
theorem dX10_of_63 : decode cX10_of 63 = .ok (.getfield 89, 3) := by decide +kernel
theorem dX10_of_66 : decode cX10_of 66 = .ok (.getfield 166, 3) := by decide +kernel
theorem dX10_of_69 : decode cX10_of 69 = .ok (.iload_n 1, 1) := by decide +kernel
theorem dX10_of_70 : decode cX10_of 70 = .ok (.iaload, 1) := by decide +kernel
theorem dX10_of_71 : decode cX10_of 71 = .ok (.ireturn, 1) := by decide +kernel
theorem dX10_of_72 : decode cX10_of 72 = .ok (.aload_n 0, 1) := by decide +kernel
theorem dX10_of_73 : decode cX10_of 73 = .ok (.getfield 89, 3) := by decide +kernel
theorem dX10_of_76 : decode cX10_of 76 = .ok (.getfield 169, 3) := by decide +kernel
theorem dX10_of_79 : decode cX10_of 79 = .ok (.iload_n 1, 1) := by decide +kernel
theorem dX10_of_80 : decode cX10_of 80 = .ok (.iaload, 1) := by decide +kernel
theorem dX10_of_81 : decode cX10_of 81 = .ok (.ireturn, 1) := by decide +kernel
theorem dX10_of_82 : decode cX10_of 82 = .ok (.aload_n 0, 1) := by decide +kernel
theorem dX10_of_83 : decode cX10_of 83 = .ok (.getfield 89, 3) := by decide +kernel
theorem dX10_of_86 : decode cX10_of 86 = .ok (.getfield 172, 3) := by decide +kernel
theorem dX10_of_89 : decode cX10_of 89 = .ok (.iload_n 1, 1) := by decide +kernel
theorem dX10_of_90 : decode cX10_of 90 = .ok (.ishr, 1) := by decide +kernel
theorem dX10_of_91 : decode cX10_of 91 = .ok (.iconst 1, 1) := by decide +kernel
theorem dX10_of_92 : decode cX10_of 92 = .ok (.iand, 1) := by decide +kernel
theorem dX10_of_93 : decode cX10_of 93 = .ok (.ireturn, 1) := by decide +kernel
theorem dX10_of_94 : decode cX10_of 94 = .ok (.aload_n 0, 1) := by decide +kernel
theorem dX10_of_95 : decode cX10_of 95 = .ok (.getfield 89, 3) := by decide +kernel
theorem dX10_of_98 : decode cX10_of 98 = .ok (.aload_n 0, 1) := by decide +kernel
theorem dX10_of_99 : decode cX10_of 99 = .ok (.getfield 89, 3) := by decide +kernel
theorem dX10_of_102 : decode cX10_of 102 = .ok (.invokevirtual 175, 3) := by decide +kernel
theorem dX10_of_105 : decode cX10_of 105 = .ok (.iconst 0, 1) := by decide +kernel
theorem dX10_of_106 : decode cX10_of 106 = .ok (.iload_n 1, 1) := by decide +kernel
theorem dX10_of_107 : decode cX10_of 107 = .ok (.invokevirtual 179, 3) := by decide +kernel
theorem dX10_of_110 : decode cX10_of 110 = .ok (.ireturn, 1) := by decide +kernel
theorem dX10_of_111 : decode cX10_of 111 = .ok (.aload_n 0, 1) := by decide +kernel
theorem dX10_of_112 : decode cX10_of 112 = .ok (.getfield 89, 3) := by decide +kernel
theorem dX10_of_115 : decode cX10_of 115 = .ok (.aload_n 0, 1) := by decide +kernel
theorem dX10_of_116 : decode cX10_of 116 = .ok (.getfield 89, 3) := by decide +kernel
theorem dX10_of_119 : decode cX10_of 119 = .ok (.invokevirtual 175, 3) := by decide +kernel
theorem dX10_of_122 : decode cX10_of 122 = .ok (.iconst 1, 1) := by decide +kernel
theorem dX10_of_123 : decode cX10_of 123 = .ok (.iload_n 1, 1) := by decide +kernel
theorem dX10_of_124 : decode cX10_of 124 = .ok (.invokevirtual 179, 3) := by decide +kernel
theorem dX10_of_127 : decode cX10_of 127 = .ok (.ireturn, 1) := by decide +kernel
theorem dX10_of_128 : decode cX10_of 128 = .ok (.bipush (-100), 2) := by decide +kernel
theorem dX10_of_130 : decode cX10_of 130 = .ok (.ireturn, 1) := by decide +kernel
theorem dX10_asks_0 : decode cX10_asks 0 = .ok (.aload_n 0, 1) := by decide +kernel
theorem dX10_asks_1 : decode cX10_asks 1 = .ok (.getfield 89, 3) := by decide +kernel
theorem dX10_asks_4 : decode cX10_asks 4 = .ok (.iload_n 1, 1) := by decide +kernel
theorem dX10_asks_5 : decode cX10_asks 5 = .ok (.invokevirtual 160, 3) := by decide +kernel
theorem dX10_asks_8 : decode cX10_asks 8 = .ok (.ifCond .eq 14, 3) := by decide +kernel
theorem dX10_asks_11 : decode cX10_asks 11 = .ok (.aload_n 0, 1) := by decide +kernel
theorem dX10_asks_12 : decode cX10_asks 12 = .ok (.getfield 89, 3) := by decide +kernel
theorem dX10_asks_15 : decode cX10_asks 15 = .ok (.iload_n 2, 1) := by decide +kernel
theorem dX10_asks_16 : decode cX10_asks 16 = .ok (.invokevirtual 121, 3) := by decide +kernel
theorem dX10_asks_19 : decode cX10_asks 19 = .ok (.ifCond .ne 5, 3) := by decide +kernel
theorem dX10_asks_22 : decode cX10_asks 22 = .ok (.iconst (-1), 1) := by decide +kernel
theorem dX10_asks_23 : decode cX10_asks 23 = .ok (.ireturn, 1) := by decide +kernel
theorem dX10_asks_24 : decode cX10_asks 24 = .ok (.iload_n 3, 1) := by decide +kernel
theorem dX10_asks_25 : decode cX10_asks 25 = .ok (.ifCond .ne 13, 3) := by decide +kernel
theorem dX10_asks_28 : decode cX10_asks 28 = .ok (.aload_n 0, 1) := by decide +kernel
theorem dX10_asks_29 : decode cX10_asks 29 = .ok (.getfield 89, 3) := by decide +kernel
theorem dX10_asks_32 : decode cX10_asks 32 = .ok (.iload_n 1, 1) := by decide +kernel
theorem dX10_asks_33 : decode cX10_asks 33 = .ok (.iload_n 2, 1) := by decide +kernel
theorem dX10_asks_34 : decode cX10_asks 34 = .ok (.invokevirtual 183, 3) := by decide +kernel
theorem dX10_asks_37 : decode cX10_asks 37 = .ok (.ireturn, 1) := by decide +kernel
theorem dX10_asks_38 : decode cX10_asks 38 = .ok (.iload_n 3, 1) := by decide +kernel
theorem dX10_asks_39 : decode cX10_asks 39 = .ok (.iconst 1, 1) := by decide +kernel
theorem dX10_asks_40 : decode cX10_asks 40 = .ok (.if_icmp .ne 21, 3) := by decide +kernel
theorem dX10_asks_43 : decode cX10_asks 43 = .ok (.aload_n 0, 1) := by decide +kernel
theorem dX10_asks_44 : decode cX10_asks 44 = .ok (.getfield 89, 3) := by decide +kernel
theorem dX10_asks_47 : decode cX10_asks 47 = .ok (.iload_n 1, 1) := by decide +kernel
theorem dX10_asks_48 : decode cX10_asks 48 = .ok (.iload_n 2, 1) := by decide +kernel
theorem dX10_asks_49 : decode cX10_asks 49 = .ok (.invokevirtual 187, 3) := by decide +kernel
theorem dX10_asks_52 : decode cX10_asks 52 = .ok (.ifCond .eq 7, 3) := by decide +kernel
theorem dX10_asks_55 : decode cX10_asks 55 = .ok (.iconst 1, 1) := by decide +kernel
theorem dX10_asks_56 : decode cX10_asks 56 = .ok (.goto 4, 3) := by decide +kernel
theorem dX10_asks_59 : decode cX10_asks 59 = .ok (.iconst 0, 1) := by decide +kernel
theorem dX10_asks_60 : decode cX10_asks 60 = .ok (.ireturn, 1) := by decide +kernel
theorem dX10_asks_61 : decode cX10_asks 61 = .ok (.iconst (-1), 1) := by decide +kernel
theorem dX10_asks_62 : decode cX10_asks 62 = .ok (.ireturn, 1) := by decide +kernel
theorem dX10_wish_0 : decode cX10_wish 0 = .ok (.iload_n 3, 1) := by decide +kernel
theorem dX10_wish_1 : decode cX10_wish 1 = .ok (.ifCond .lt 9, 3) := by decide +kernel
theorem dX10_wish_4 : decode cX10_wish 4 = .ok (.iload_n 3, 1) := by decide +kernel
theorem dX10_wish_5 : decode cX10_wish 5 = .ok (.bipush 9, 2) := by decide +kernel
theorem dX10_wish_7 : decode cX10_wish 7 = .ok (.if_icmp .le 9, 3) := by decide +kernel
theorem dX10_wish_10 : decode cX10_wish 10 = .ok (.aload_n 0, 1) := by decide +kernel
theorem dX10_wish_11 : decode cX10_wish 11 = .ok (.iconst (-1), 1) := by decide +kernel
theorem dX10_wish_12 : decode cX10_wish 12 = .ok (.invokevirtual 105, 3) := by decide +kernel
theorem dX10_wish_15 : decode cX10_wish 15 = .ok (.ireturn, 1) := by decide +kernel
theorem dX10_wish_16 : decode cX10_wish 16 = .ok (.aload_n 0, 1) := by decide +kernel
theorem dX10_wish_17 : decode cX10_wish 17 = .ok (.getfield 89, 3) := by decide +kernel
theorem dX10_wish_20 : decode cX10_wish 20 = .ok (.iload_n 1, 1) := by decide +kernel
theorem dX10_wish_21 : decode cX10_wish 21 = .ok (.invokevirtual 160, 3) := by decide +kernel
theorem dX10_wish_24 : decode cX10_wish 24 = .ok (.ifCond .eq 14, 3) := by decide +kernel
theorem dX10_wish_27 : decode cX10_wish 27 = .ok (.aload_n 0, 1) := by decide +kernel
theorem dX10_wish_28 : decode cX10_wish 28 = .ok (.getfield 89, 3) := by decide +kernel
theorem dX10_wish_31 : decode cX10_wish 31 = .ok (.iload_n 2, 1) := by decide +kernel
theorem dX10_wish_32 : decode cX10_wish 32 = .ok (.invokevirtual 121, 3) := by decide +kernel
theorem dX10_wish_35 : decode cX10_wish 35 = .ok (.ifCond .ne 10, 3) := by decide +kernel
theorem dX10_wish_38 : decode cX10_wish 38 = .ok (.aload_n 0, 1) := by decide +kernel
theorem dX10_wish_39 : decode cX10_wish 39 = .ok (.bipush (-2), 2) := by decide +kernel
theorem dX10_wish_41 : decode cX10_wish 41 = .ok (.invokevirtual 105, 3) := by decide +kernel
theorem dX10_wish_44 : decode cX10_wish 44 = .ok (.ireturn, 1) := by decide +kernel
theorem dX10_wish_45 : decode cX10_wish 45 = .ok (.aload_n 0, 1) := by decide +kernel
theorem dX10_wish_46 : decode cX10_wish 46 = .ok (.getfield 89, 3) := by decide +kernel
theorem dX10_wish_49 : decode cX10_wish 49 = .ok (.iload_n 1, 1) := by decide +kernel
theorem dX10_wish_50 : decode cX10_wish 50 = .ok (.iload_n 2, 1) := by decide +kernel
theorem dX10_wish_51 : decode cX10_wish 51 = .ok (.invokevirtual 183, 3) := by decide +kernel
theorem dX10_wish_54 : decode cX10_wish 54 = .ok (.istore 4, 2) := by decide +kernel
theorem dX10_wish_56 : decode cX10_wish 56 = .ok (.aload_n 0, 1) := by decide +kernel
theorem dX10_wish_57 : decode cX10_wish 57 = .ok (.getfield 89, 3) := by decide +kernel
theorem dX10_wish_60 : decode cX10_wish 60 = .ok (.getfield 191, 3) := by decide +kernel
theorem dX10_wish_63 : decode cX10_wish 63 = .ok (.iload_n 1, 1) := by decide +kernel
theorem dX10_wish_64 : decode cX10_wish 64 = .ok (.iconst 5, 1) := by decide +kernel
theorem dX10_wish_65 : decode cX10_wish 65 = .ok (.imul, 1) := by decide +kernel
theorem dX10_wish_66 : decode cX10_wish 66 = .ok (.iload_n 2, 1) := by decide +kernel
theorem dX10_wish_67 : decode cX10_wish 67 = .ok (.iadd, 1) := by decide +kernel
theorem dX10_wish_68 : decode cX10_wish 68 = .ok (.iload_n 3, 1) := by decide +kernel
theorem dX10_wish_69 : decode cX10_wish 69 = .ok (.iastore, 1) := by decide +kernel
theorem dX10_wish_70 : decode cX10_wish 70 = .ok (.aload_n 0, 1) := by decide +kernel
theorem dX10_wish_71 : decode cX10_wish 71 = .ok (.iload 4, 2) := by decide +kernel
theorem dX10_wish_73 : decode cX10_wish 73 = .ok (.invokevirtual 118, 3) := by decide +kernel
theorem dX10_wish_76 : decode cX10_wish 76 = .ok (.ireturn, 1) := by decide +kernel
theorem dX10_terms_0 : decode cX10_terms 0 = .ok (.iload_n 1, 1) := by decide +kernel
theorem dX10_terms_1 : decode cX10_terms 1 = .ok (.ifCond .lt 24, 3) := by decide +kernel
theorem dX10_terms_4 : decode cX10_terms 4 = .ok (.iload_n 1, 1) := by decide +kernel
theorem dX10_terms_5 : decode cX10_terms 5 = .ok (.getstatic 194, 3) := by decide +kernel
theorem dX10_terms_8 : decode cX10_terms 8 = .ok (.arraylength, 1) := by decide +kernel
theorem dX10_terms_9 : decode cX10_terms 9 = .ok (.if_icmp .ge 16, 3) := by decide +kernel
theorem dX10_terms_12 : decode cX10_terms 12 = .ok (.iload_n 2, 1) := by decide +kernel
theorem dX10_terms_13 : decode cX10_terms 13 = .ok (.ifCond .lt 12, 3) := by decide +kernel
theorem dX10_terms_16 : decode cX10_terms 16 = .ok (.iload_n 2, 1) := by decide +kernel
theorem dX10_terms_17 : decode cX10_terms 17 = .ok (.getstatic 194, 3) := by decide +kernel
theorem dX10_terms_20 : decode cX10_terms 20 = .ok (.iload_n 1, 1) := by decide +kernel
theorem dX10_terms_21 : decode cX10_terms 21 = .ok (.iaload, 1) := by decide +kernel
theorem dX10_terms_22 : decode cX10_terms 22 = .ok (.if_icmp .le 9, 3) := by decide +kernel
theorem dX10_terms_25 : decode cX10_terms 25 = .ok (.aload_n 0, 1) := by decide +kernel
theorem dX10_terms_26 : decode cX10_terms 26 = .ok (.iconst (-1), 1) := by decide +kernel
theorem dX10_terms_27 : decode cX10_terms 27 = .ok (.invokevirtual 105, 3) := by decide +kernel
theorem dX10_terms_30 : decode cX10_terms 30 = .ok (.ireturn, 1) := by decide +kernel
theorem dX10_terms_31 : decode cX10_terms 31 = .ok (.aload_n 0, 1) := by decide +kernel
theorem dX10_terms_32 : decode cX10_terms 32 = .ok (.getfield 89, 3) := by decide +kernel
theorem dX10_terms_35 : decode cX10_terms 35 = .ok (.getfield 197, 3) := by decide +kernel
theorem dX10_terms_38 : decode cX10_terms 38 = .ok (.iload_n 1, 1) := by decide +kernel
theorem dX10_terms_39 : decode cX10_terms 39 = .ok (.iaload, 1) := by decide +kernel
theorem dX10_terms_40 : decode cX10_terms 40 = .ok (.istore_n 3, 1) := by decide +kernel
theorem dX10_terms_41 : decode cX10_terms 41 = .ok (.aload_n 0, 1) := by decide +kernel
theorem dX10_terms_42 : decode cX10_terms 42 = .ok (.getfield 89, 3) := by decide +kernel
theorem dX10_terms_45 : decode cX10_terms 45 = .ok (.getfield 197, 3) := by decide +kernel
theorem dX10_terms_48 : decode cX10_terms 48 = .ok (.iload_n 1, 1) := by decide +kernel
theorem dX10_terms_49 : decode cX10_terms 49 = .ok (.iload_n 2, 1) := by decide +kernel
theorem dX10_terms_50 : decode cX10_terms 50 = .ok (.iastore, 1) := by decide +kernel
theorem dX10_terms_51 : decode cX10_terms 51 = .ok (.aload_n 0, 1) := by decide +kernel
theorem dX10_terms_52 : decode cX10_terms 52 = .ok (.getfield 58, 3) := by decide +kernel
theorem dX10_terms_55 : decode cX10_terms 55 = .ok (.invokevirtual 115, 3) := by decide +kernel
theorem dX10_terms_58 : decode cX10_terms 58 = .ok (.aload_n 0, 1) := by decide +kernel
theorem dX10_terms_59 : decode cX10_terms 59 = .ok (.iload_n 3, 1) := by decide +kernel
theorem dX10_terms_60 : decode cX10_terms 60 = .ok (.invokevirtual 118, 3) := by decide +kernel
theorem dX10_terms_63 : decode cX10_terms 63 = .ok (.ireturn, 1) := by decide +kernel
theorem dX10_feed_0 : decode cX10_feed 0 = .ok (.aload_n 0, 1) := by decide +kernel
theorem dX10_feed_1 : decode cX10_feed 1 = .ok (.getfield 62, 3) := by decide +kernel
theorem dX10_feed_4 : decode cX10_feed 4 = .ok (.sipush 380, 3) := by decide +kernel
theorem dX10_feed_7 : decode cX10_feed 7 = .ok (.if_icmp .le 5, 3) := by decide +kernel
theorem dX10_feed_10 : decode cX10_feed 10 = .ok (.iconst (-1), 1) := by decide +kernel
theorem dX10_feed_11 : decode cX10_feed 11 = .ok (.ireturn, 1) := by decide +kernel
theorem dX10_feed_12 : decode cX10_feed 12 = .ok (.aload_n 0, 1) := by decide +kernel
theorem dX10_feed_13 : decode cX10_feed 13 = .ok (.iload_n 1, 1) := by decide +kernel
theorem dX10_feed_14 : decode cX10_feed 14 = .ok (.invokevirtual 200, 3) := by decide +kernel
theorem dX10_feed_17 : decode cX10_feed 17 = .ok (.aload_n 0, 1) := by decide +kernel
theorem dX10_feed_18 : decode cX10_feed 18 = .ok (.iload_n 2, 1) := by decide +kernel
theorem dX10_feed_19 : decode cX10_feed 19 = .ok (.invokevirtual 200, 3) := by decide +kernel
theorem dX10_feed_22 : decode cX10_feed 22 = .ok (.aload_n 0, 1) := by decide +kernel
theorem dX10_feed_23 : decode cX10_feed 23 = .ok (.iload_n 3, 1) := by decide +kernel
theorem dX10_feed_24 : decode cX10_feed 24 = .ok (.invokevirtual 200, 3) := by decide +kernel
theorem dX10_feed_27 : decode cX10_feed 27 = .ok (.aload_n 0, 1) := by decide +kernel
theorem dX10_feed_28 : decode cX10_feed 28 = .ok (.iload 4, 2) := by decide +kernel
theorem dX10_feed_30 : decode cX10_feed 30 = .ok (.invokevirtual 200, 3) := by decide +kernel
theorem dX10_feed_33 : decode cX10_feed 33 = .ok (.aload_n 0, 1) := by decide +kernel
theorem dX10_feed_34 : decode cX10_feed 34 = .ok (.iload 5, 2) := by decide +kernel
theorem dX10_feed_36 : decode cX10_feed 36 = .ok (.invokevirtual 200, 3) := by decide +kernel
theorem dX10_feed_39 : decode cX10_feed 39 = .ok (.aload_n 0, 1) := by decide +kernel
theorem dX10_feed_40 : decode cX10_feed 40 = .ok (.getfield 62, 3) := by decide +kernel
theorem dX10_feed_43 : decode cX10_feed 43 = .ok (.ireturn, 1) := by decide +kernel
theorem dX10_end_0 : decode cX10_end 0 = .ok (.iload_n 1, 1) := by decide +kernel
theorem dX10_end_1 : decode cX10_end 1 = .ok (.ifCond .lt 11, 3) := by decide +kernel
theorem dX10_end_4 : decode cX10_end 4 = .ok (.iload_n 1, 1) := by decide +kernel
theorem dX10_end_5 : decode cX10_end 5 = .ok (.aload_n 0, 1) := by decide +kernel
theorem dX10_end_6 : decode cX10_end 6 = .ok (.getfield 62, 3) := by decide +kernel
theorem dX10_end_9 : decode cX10_end 9 = .ok (.if_icmp .le 5, 3) := by decide +kernel
theorem dX10_end_12 : decode cX10_end 12 = .ok (.iconst (-1), 1) := by decide +kernel
theorem dX10_end_13 : decode cX10_end 13 = .ok (.ireturn, 1) := by decide +kernel
theorem dX10_end_14 : decode cX10_end 14 = .ok (.aload_n 0, 1) := by decide +kernel
theorem dX10_end_15 : decode cX10_end 15 = .ok (.iload_n 1, 1) := by decide +kernel
theorem dX10_end_16 : decode cX10_end 16 = .ok (.putfield 62, 3) := by decide +kernel
theorem dX10_end_19 : decode cX10_end 19 = .ok (.iload_n 1, 1) := by decide +kernel
theorem dX10_end_20 : decode cX10_end 20 = .ok (.ireturn, 1) := by decide +kernel
theorem dX10_row_0 : decode cX10_row 0 = .ok (.aload_n 0, 1) := by decide +kernel
theorem dX10_row_1 : decode cX10_row 1 = .ok (.getfield 62, 3) := by decide +kernel
theorem dX10_row_4 : decode cX10_row 4 = .ok (.ifCond .ne 10, 3) := by decide +kernel
theorem dX10_row_7 : decode cX10_row 7 = .ok (.aload_n 0, 1) := by decide +kernel
theorem dX10_row_8 : decode cX10_row 8 = .ok (.bipush (-6), 2) := by decide +kernel
theorem dX10_row_10 : decode cX10_row 10 = .ok (.invokevirtual 105, 3) := by decide +kernel
theorem dX10_row_13 : decode cX10_row 13 = .ok (.ireturn, 1) := by decide +kernel
theorem dX10_row_14 : decode cX10_row 14 = .ok (.aload_n 0, 1) := by decide +kernel
theorem dX10_row_15 : decode cX10_row 15 = .ok (.invokevirtual 204, 3) := by decide +kernel
theorem dX10_row_18 : decode cX10_row 18 = .ok (.istore_n 1, 1) := by decide +kernel
theorem dX10_row_19 : decode cX10_row 19 = .ok (.iconst 0, 1) := by decide +kernel
theorem dX10_row_20 : decode cX10_row 20 = .ok (.istore_n 2, 1) := by decide +kernel
theorem dX10_row_21 : decode cX10_row 21 = .ok (.iconst 0, 1) := by decide +kernel
theorem dX10_row_22 : decode cX10_row 22 = .ok (.istore_n 3, 1) := by decide +kernel
theorem dX10_row_23 : decode cX10_row 23 = .ok (.iconst 0, 1) := by decide +kernel
theorem dX10_row_24 : decode cX10_row 24 = .ok (.istore 4, 2) := by decide +kernel
theorem dX10_row_26 : decode cX10_row 26 = .ok (.iload 4, 2) := by decide +kernel
theorem dX10_row_28 : decode cX10_row 28 = .ok (.iload_n 1, 1) := by decide +kernel
theorem dX10_row_29 : decode cX10_row 29 = .ok (.if_icmp .ge 70, 3) := by decide +kernel
theorem dX10_row_32 : decode cX10_row 32 = .ok (.iload 4, 2) := by decide +kernel
theorem dX10_row_34 : decode cX10_row 34 = .ok (.iconst 2, 1) := by decide +kernel
theorem dX10_row_35 : decode cX10_row 35 = .ok (.iadd, 1) := by decide +kernel
theorem dX10_row_36 : decode cX10_row 36 = .ok (.iload_n 1, 1) := by decide +kernel
theorem dX10_row_37 : decode cX10_row 37 = .ok (.if_icmp .ge 53, 3) := by decide +kernel
theorem dX10_row_40 : decode cX10_row 40 = .ok (.aload_n 0, 1) := by decide +kernel
theorem dX10_row_41 : decode cX10_row 41 = .ok (.aload_n 0, 1) := by decide +kernel
theorem dX10_row_42 : decode cX10_row 42 = .ok (.getfield 41, 3) := by decide +kernel
theorem dX10_row_45 : decode cX10_row 45 = .ok (.iload 4, 2) := by decide +kernel
theorem dX10_row_47 : decode cX10_row 47 = .ok (.baload, 1) := by decide +kernel
theorem dX10_row_48 : decode cX10_row 48 = .ok (.sipush 255, 3) := by decide +kernel
theorem dX10_row_51 : decode cX10_row 51 = .ok (.iand, 1) := by decide +kernel
theorem dX10_row_52 : decode cX10_row 52 = .ok (.aload_n 0, 1) := by decide +kernel
theorem dX10_row_53 : decode cX10_row 53 = .ok (.getfield 41, 3) := by decide +kernel
theorem dX10_row_56 : decode cX10_row 56 = .ok (.iload 4, 2) := by decide +kernel
theorem dX10_row_58 : decode cX10_row 58 = .ok (.iconst 1, 1) := by decide +kernel
theorem dX10_row_59 : decode cX10_row 59 = .ok (.iadd, 1) := by decide +kernel
theorem dX10_row_60 : decode cX10_row 60 = .ok (.baload, 1) := by decide +kernel
theorem dX10_row_61 : decode cX10_row 61 = .ok (.sipush 255, 3) := by decide +kernel
theorem dX10_row_64 : decode cX10_row 64 = .ok (.iand, 1) := by decide +kernel
theorem dX10_row_65 : decode cX10_row 65 = .ok (.aload_n 0, 1) := by decide +kernel
theorem dX10_row_66 : decode cX10_row 66 = .ok (.getfield 41, 3) := by decide +kernel
theorem dX10_row_69 : decode cX10_row 69 = .ok (.iload 4, 2) := by decide +kernel
theorem dX10_row_71 : decode cX10_row 71 = .ok (.iconst 2, 1) := by decide +kernel
theorem dX10_row_72 : decode cX10_row 72 = .ok (.iadd, 1) := by decide +kernel
theorem dX10_row_73 : decode cX10_row 73 = .ok (.baload, 1) := by decide +kernel
theorem dX10_row_74 : decode cX10_row 74 = .ok (.sipush 255, 3) := by decide +kernel
theorem dX10_row_77 : decode cX10_row 77 = .ok (.iand, 1) := by decide +kernel
theorem dX10_row_78 : decode cX10_row 78 = .ok (.invokevirtual 208, 3) := by decide +kernel
theorem dX10_row_81 : decode cX10_row 81 = .ok (.ifCond .eq 9, 3) := by decide +kernel
theorem dX10_row_84 : decode cX10_row 84 = .ok (.iinc 2 1, 3) := by decide +kernel
theorem dX10_row_87 : decode cX10_row 87 = .ok (.goto 6, 3) := by decide +kernel
theorem dX10_row_90 : decode cX10_row 90 = .ok (.iinc 3 1, 3) := by decide +kernel
theorem dX10_row_93 : decode cX10_row 93 = .ok (.iinc 4 3, 3) := by decide +kernel
theorem dX10_row_96 : decode cX10_row 96 = .ok (.goto (-70), 3) := by decide +kernel
theorem dX10_row_99 : decode cX10_row 99 = .ok (.aload_n 0, 1) := by decide +kernel
theorem dX10_row_100 : decode cX10_row 100 = .ok (.iload_n 3, 1) := by decide +kernel
theorem dX10_row_101 : decode cX10_row 101 = .ok (.putfield 72, 3) := by decide +kernel
theorem dX10_row_104 : decode cX10_row 104 = .ok (.aload_n 0, 1) := by decide +kernel
theorem dX10_row_105 : decode cX10_row 105 = .ok (.getfield 58, 3) := by decide +kernel
theorem dX10_row_108 : decode cX10_row 108 = .ok (.invokevirtual 115, 3) := by decide +kernel
theorem dX10_row_111 : decode cX10_row 111 = .ok (.aload_n 0, 1) := by decide +kernel
theorem dX10_row_112 : decode cX10_row 112 = .ok (.iload_n 2, 1) := by decide +kernel
theorem dX10_row_113 : decode cX10_row 113 = .ok (.invokevirtual 118, 3) := by decide +kernel
theorem dX10_row_116 : decode cX10_row 116 = .ok (.ireturn, 1) := by decide +kernel
theorem dX10_draughts_0 : decode cX10_draughts 0 = .ok (.aload_n 0, 1) := by decide +kernel
theorem dX10_draughts_1 : decode cX10_draughts 1 = .ok (.getfield 72, 3) := by decide +kernel
theorem dX10_draughts_4 : decode cX10_draughts 4 = .ok (.ireturn, 1) := by decide +kernel
theorem dX10_law_0 : decode cX10_law 0 = .ok (.aload_n 0, 1) := by decide +kernel
theorem dX10_law_1 : decode cX10_law 1 = .ok (.invokevirtual 204, 3) := by decide +kernel
theorem dX10_law_4 : decode cX10_law 4 = .ok (.istore_n 1, 1) := by decide +kernel
theorem dX10_law_5 : decode cX10_law 5 = .ok (.aload_n 0, 1) := by decide +kernel
theorem dX10_law_6 : decode cX10_law 6 = .ok (.getfield 89, 3) := by decide +kernel
theorem dX10_law_9 : decode cX10_law 9 = .ok (.getfield 212, 3) := by decide +kernel
theorem dX10_law_12 : decode cX10_law 12 = .ok (.bipush 6, 2) := by decide +kernel
theorem dX10_law_14 : decode cX10_law 14 = .ok (.if_icmp .lt 10, 3) := by decide +kernel
theorem dX10_law_17 : decode cX10_law 17 = .ok (.aload_n 0, 1) := by decide +kernel
theorem dX10_law_18 : decode cX10_law 18 = .ok (.bipush (-5), 2) := by decide +kernel
theorem dX10_law_20 : decode cX10_law 20 = .ok (.invokevirtual 105, 3) := by decide +kernel
theorem dX10_law_23 : decode cX10_law 23 = .ok (.ireturn, 1) := by decide +kernel
theorem dX10_law_24 : decode cX10_law 24 = .ok (.aload_n 0, 1) := by decide +kernel
theorem dX10_law_25 : decode cX10_law 25 = .ok (.getfield 10, 3) := by decide +kernel
theorem dX10_law_28 : decode cX10_law 28 = .ok (.aload_n 0, 1) := by decide +kernel
theorem dX10_law_29 : decode cX10_law 29 = .ok (.getfield 41, 3) := by decide +kernel
theorem dX10_law_32 : decode cX10_law 32 = .ok (.iload_n 1, 1) := by decide +kernel
theorem dX10_law_33 : decode cX10_law 33 = .ok (.iconst 0, 1) := by decide +kernel
theorem dX10_law_34 : decode cX10_law 34 = .ok (.invokevirtual 215, 3) := by decide +kernel
theorem dX10_law_37 : decode cX10_law 37 = .ok (.istore_n 2, 1) := by decide +kernel
theorem dX10_law_38 : decode cX10_law 38 = .ok (.aload_n 0, 1) := by decide +kernel
theorem dX10_law_39 : decode cX10_law 39 = .ok (.aload_n 0, 1) := by decide +kernel
theorem dX10_law_40 : decode cX10_law 40 = .ok (.getfield 10, 3) := by decide +kernel
theorem dX10_law_43 : decode cX10_law 43 = .ok (.getfield 219, 3) := by decide +kernel
theorem dX10_law_46 : decode cX10_law 46 = .ok (.putfield 66, 3) := by decide +kernel
theorem dX10_law_49 : decode cX10_law 49 = .ok (.iload_n 2, 1) := by decide +kernel
theorem dX10_law_50 : decode cX10_law 50 = .ok (.ifCond .ne 10, 3) := by decide +kernel
theorem dX10_law_53 : decode cX10_law 53 = .ok (.aload_n 0, 1) := by decide +kernel
theorem dX10_law_54 : decode cX10_law 54 = .ok (.bipush (-6), 2) := by decide +kernel
theorem dX10_law_56 : decode cX10_law 56 = .ok (.invokevirtual 105, 3) := by decide +kernel
theorem dX10_law_59 : decode cX10_law 59 = .ok (.ireturn, 1) := by decide +kernel
theorem dX10_law_60 : decode cX10_law 60 = .ok (.aload_n 0, 1) := by decide +kernel
theorem dX10_law_61 : decode cX10_law 61 = .ok (.getfield 89, 3) := by decide +kernel
theorem dX10_law_64 : decode cX10_law 64 = .ok (.getfield 222, 3) := by decide +kernel
theorem dX10_law_67 : decode cX10_law 67 = .ok (.aload_n 0, 1) := by decide +kernel
theorem dX10_law_68 : decode cX10_law 68 = .ok (.getfield 89, 3) := by decide +kernel
theorem dX10_law_71 : decode cX10_law 71 = .ok (.getfield 212, 3) := by decide +kernel
theorem dX10_law_74 : decode cX10_law 74 = .ok (.aload_n 0, 1) := by decide +kernel
theorem dX10_law_75 : decode cX10_law 75 = .ok (.getfield 10, 3) := by decide +kernel
theorem dX10_law_78 : decode cX10_law 78 = .ok (.getfield 226, 3) := by decide +kernel
theorem dX10_law_81 : decode cX10_law 81 = .ok (.invokevirtual 230, 3) := by decide +kernel
theorem dX10_law_84 : decode cX10_law 84 = .ok (.aastore, 1) := by decide +kernel
theorem dX10_law_85 : decode cX10_law 85 = .ok (.aload_n 0, 1) := by decide +kernel
theorem dX10_law_86 : decode cX10_law 86 = .ok (.getfield 89, 3) := by decide +kernel
theorem dX10_law_89 : decode cX10_law 89 = .ok (.dup, 1) := by decide +kernel
theorem dX10_law_90 : decode cX10_law 90 = .ok (.getfield 212, 3) := by decide +kernel
theorem dX10_law_93 : decode cX10_law 93 = .ok (.iconst 1, 1) := by decide +kernel
theorem dX10_law_94 : decode cX10_law 94 = .ok (.iadd, 1) := by decide +kernel
theorem dX10_law_95 : decode cX10_law 95 = .ok (.putfield 212, 3) := by decide +kernel
theorem dX10_law_98 : decode cX10_law 98 = .ok (.aload_n 0, 1) := by decide +kernel
theorem dX10_law_99 : decode cX10_law 99 = .ok (.aload_n 0, 1) := by decide +kernel
theorem dX10_law_100 : decode cX10_law 100 = .ok (.getfield 89, 3) := by decide +kernel
theorem dX10_law_103 : decode cX10_law 103 = .ok (.getfield 212, 3) := by decide +kernel
theorem dX10_law_106 : decode cX10_law 106 = .ok (.iconst 1, 1) := by decide +kernel
theorem dX10_law_107 : decode cX10_law 107 = .ok (.isub, 1) := by decide +kernel
theorem dX10_law_108 : decode cX10_law 108 = .ok (.invokevirtual 118, 3) := by decide +kernel
theorem dX10_law_111 : decode cX10_law 111 = .ok (.ireturn, 1) := by decide +kernel
theorem dX10_orders_0 : decode cX10_orders 0 = .ok (.aload_n 0, 1) := by decide +kernel
theorem dX10_orders_1 : decode cX10_orders 1 = .ok (.invokevirtual 204, 3) := by decide +kernel
theorem dX10_orders_4 : decode cX10_orders 4 = .ok (.istore_n 1, 1) := by decide +kernel
theorem dX10_orders_5 : decode cX10_orders 5 = .ok (.aload_n 0, 1) := by decide +kernel
theorem dX10_orders_6 : decode cX10_orders 6 = .ok (.iconst (-1), 1) := by decide +kernel
theorem dX10_orders_7 : decode cX10_orders 7 = .ok (.putfield 69, 3) := by decide +kernel
theorem dX10_orders_10 : decode cX10_orders 10 = .ok (.aload_n 0, 1) := by decide +kernel
theorem dX10_orders_11 : decode cX10_orders 11 = .ok (.getfield 10, 3) := by decide +kernel
theorem dX10_orders_14 : decode cX10_orders 14 = .ok (.aload_n 0, 1) := by decide +kernel
theorem dX10_orders_15 : decode cX10_orders 15 = .ok (.getfield 41, 3) := by decide +kernel
theorem dX10_orders_18 : decode cX10_orders 18 = .ok (.iload_n 1, 1) := by decide +kernel
theorem dX10_orders_19 : decode cX10_orders 19 = .ok (.iconst 1, 1) := by decide +kernel
theorem dX10_orders_20 : decode cX10_orders 20 = .ok (.invokevirtual 215, 3) := by decide +kernel
theorem dX10_orders_23 : decode cX10_orders 23 = .ok (.istore_n 2, 1) := by decide +kernel
theorem dX10_orders_24 : decode cX10_orders 24 = .ok (.aload_n 0, 1) := by decide +kernel
theorem dX10_orders_25 : decode cX10_orders 25 = .ok (.aload_n 0, 1) := by decide +kernel
theorem dX10_orders_26 : decode cX10_orders 26 = .ok (.getfield 10, 3) := by decide +kernel
theorem dX10_orders_29 : decode cX10_orders 29 = .ok (.getfield 219, 3) := by decide +kernel
theorem dX10_orders_32 : decode cX10_orders 32 = .ok (.putfield 66, 3) := by decide +kernel
theorem dX10_orders_35 : decode cX10_orders 35 = .ok (.iload_n 2, 1) := by decide +kernel
theorem dX10_orders_36 : decode cX10_orders 36 = .ok (.ifCond .ne 10, 3) := by decide +kernel
theorem dX10_orders_39 : decode cX10_orders 39 = .ok (.aload_n 0, 1) := by decide +kernel
theorem dX10_orders_40 : decode cX10_orders 40 = .ok (.bipush (-6), 2) := by decide +kernel
theorem dX10_orders_42 : decode cX10_orders 42 = .ok (.invokevirtual 105, 3) := by decide +kernel
theorem dX10_orders_45 : decode cX10_orders 45 = .ok (.ireturn, 1) := by decide +kernel
theorem dX10_orders_46 : decode cX10_orders 46 = .ok (.aload_n 0, 1) := by decide +kernel
theorem dX10_orders_47 : decode cX10_orders 47 = .ok (.getfield 101, 3) := by decide +kernel
theorem dX10_orders_50 : decode cX10_orders 50 = .ok (.aload_n 0, 1) := by decide +kernel
theorem dX10_orders_51 : decode cX10_orders 51 = .ok (.getfield 89, 3) := by decide +kernel
theorem dX10_orders_54 : decode cX10_orders 54 = .ok (.aload_n 0, 1) := by decide +kernel
theorem dX10_orders_55 : decode cX10_orders 55 = .ok (.getfield 58, 3) := by decide +kernel
theorem dX10_orders_58 : decode cX10_orders 58 = .ok (.invokevirtual 235, 3) := by decide +kernel
theorem dX10_orders_61 : decode cX10_orders 61 = .ok (.aload_n 0, 1) := by decide +kernel
theorem dX10_orders_62 : decode cX10_orders 62 = .ok (.aload_n 0, 1) := by decide +kernel
theorem dX10_orders_63 : decode cX10_orders 63 = .ok (.getfield 101, 3) := by decide +kernel
theorem dX10_orders_66 : decode cX10_orders 66 = .ok (.aload_n 0, 1) := by decide +kernel
theorem dX10_orders_67 : decode cX10_orders 67 = .ok (.getfield 10, 3) := by decide +kernel
theorem dX10_orders_70 : decode cX10_orders 70 = .ok (.getfield 226, 3) := by decide +kernel
theorem dX10_orders_73 : decode cX10_orders 73 = .ok (.invokevirtual 239, 3) := by decide +kernel
theorem dX10_orders_76 : decode cX10_orders 76 = .ok (.putfield 69, 3) := by decide +kernel
theorem dX10_orders_79 : decode cX10_orders 79 = .ok (.aload_n 0, 1) := by decide +kernel
theorem dX10_orders_80 : decode cX10_orders 80 = .ok (.getfield 69, 3) := by decide +kernel
theorem dX10_orders_83 : decode cX10_orders 83 = .ok (.iconst (-1), 1) := by decide +kernel
theorem dX10_orders_84 : decode cX10_orders 84 = .ok (.if_icmp .eq 10, 3) := by decide +kernel
theorem dX10_orders_87 : decode cX10_orders 87 = .ok (.aload_n 0, 1) := by decide +kernel
theorem dX10_orders_88 : decode cX10_orders 88 = .ok (.bipush (-3), 2) := by decide +kernel
theorem dX10_orders_90 : decode cX10_orders 90 = .ok (.invokevirtual 105, 3) := by decide +kernel
theorem dX10_orders_93 : decode cX10_orders 93 = .ok (.ireturn, 1) := by decide +kernel
theorem dX10_orders_94 : decode cX10_orders 94 = .ok (.aload_n 0, 1) := by decide +kernel
theorem dX10_orders_95 : decode cX10_orders 95 = .ok (.getfield 89, 3) := by decide +kernel
theorem dX10_orders_98 : decode cX10_orders 98 = .ok (.astore_n 3, 1) := by decide +kernel
theorem dX10_orders_99 : decode cX10_orders 99 = .ok (.aload_n 0, 1) := by decide +kernel
theorem dX10_orders_100 : decode cX10_orders 100 = .ok (.getfield 58, 3) := by decide +kernel
theorem dX10_orders_103 : decode cX10_orders 103 = .ok (.astore 4, 2) := by decide +kernel
theorem dX10_orders_105 : decode cX10_orders 105 = .ok (.aload_n 0, 1) := by decide +kernel
theorem dX10_orders_106 : decode cX10_orders 106 = .ok (.aload_n 0, 1) := by decide +kernel
theorem dX10_orders_107 : decode cX10_orders 107 = .ok (.getfield 101, 3) := by decide +kernel
theorem dX10_orders_110 : decode cX10_orders 110 = .ok (.getfield 243, 3) := by decide +kernel
theorem dX10_orders_113 : decode cX10_orders 113 = .ok (.putfield 89, 3) := by decide +kernel
theorem dX10_orders_116 : decode cX10_orders 116 = .ok (.aload_n 0, 1) := by decide +kernel
theorem dX10_orders_117 : decode cX10_orders 117 = .ok (.aload_n 0, 1) := by decide +kernel
theorem dX10_orders_118 : decode cX10_orders 118 = .ok (.getfield 101, 3) := by decide +kernel
theorem dX10_orders_121 : decode cX10_orders 121 = .ok (.getfield 244, 3) := by decide +kernel
theorem dX10_orders_124 : decode cX10_orders 124 = .ok (.putfield 58, 3) := by decide +kernel
theorem dX10_orders_127 : decode cX10_orders 127 = .ok (.aload_n 0, 1) := by decide +kernel
theorem dX10_orders_128 : decode cX10_orders 128 = .ok (.getfield 101, 3) := by decide +kernel
theorem dX10_orders_131 : decode cX10_orders 131 = .ok (.aload_n 3, 1) := by decide +kernel
theorem dX10_orders_132 : decode cX10_orders 132 = .ok (.putfield 243, 3) := by decide +kernel
theorem dX10_orders_135 : decode cX10_orders 135 = .ok (.aload_n 0, 1) := by decide +kernel
theorem dX10_orders_136 : decode cX10_orders 136 = .ok (.getfield 101, 3) := by decide +kernel
theorem dX10_orders_139 : decode cX10_orders 139 = .ok (.aload 4, 2) := by decide +kernel
theorem dX10_orders_141 : decode cX10_orders 141 = .ok (.putfield 244, 3) := by decide +kernel
theorem dX10_orders_144 : decode cX10_orders 144 = .ok (.aload_n 0, 1) := by decide +kernel
theorem dX10_orders_145 : decode cX10_orders 145 = .ok (.aload_n 0, 1) := by decide +kernel
theorem dX10_orders_146 : decode cX10_orders 146 = .ok (.getfield 101, 3) := by decide +kernel
theorem dX10_orders_149 : decode cX10_orders 149 = .ok (.getfield 245, 3) := by decide +kernel
theorem dX10_orders_152 : decode cX10_orders 152 = .ok (.invokevirtual 118, 3) := by decide +kernel
theorem dX10_orders_155 : decode cX10_orders 155 = .ok (.ireturn, 1) := by decide +kernel
theorem dX10_fault_0 : decode cX10_fault 0 = .ok (.aload_n 0, 1) := by decide +kernel
theorem dX10_fault_1 : decode cX10_fault 1 = .ok (.getfield 66, 3) := by decide +kernel
theorem dX10_fault_4 : decode cX10_fault 4 = .ok (.ireturn, 1) := by decide +kernel
theorem dX10_stopped_0 : decode cX10_stopped 0 = .ok (.aload_n 0, 1) := by decide +kernel
theorem dX10_stopped_1 : decode cX10_stopped 1 = .ok (.getfield 69, 3) := by decide +kernel
theorem dX10_stopped_4 : decode cX10_stopped 4 = .ok (.ireturn, 1) := by decide +kernel
theorem dX10_force_0 : decode cX10_force 0 = .ok (.iload_n 1, 1) := by decide +kernel
theorem dX10_force_1 : decode cX10_force 1 = .ok (.iconst (-1), 1) := by decide +kernel
theorem dX10_force_2 : decode cX10_force 2 = .ok (.if_icmp .eq 21, 3) := by decide +kernel
theorem dX10_force_5 : decode cX10_force 5 = .ok (.aload_n 0, 1) := by decide +kernel
theorem dX10_force_6 : decode cX10_force 6 = .ok (.getfield 89, 3) := by decide +kernel
theorem dX10_force_9 : decode cX10_force 9 = .ok (.iload_n 1, 1) := by decide +kernel
theorem dX10_force_10 : decode cX10_force 10 = .ok (.invokevirtual 248, 3) := by decide +kernel
theorem dX10_force_13 : decode cX10_force 13 = .ok (.ifCond .ne 10, 3) := by decide +kernel
theorem dX10_force_16 : decode cX10_force 16 = .ok (.aload_n 0, 1) := by decide +kernel
theorem dX10_force_17 : decode cX10_force 17 = .ok (.bipush (-2), 2) := by decide +kernel
theorem dX10_force_19 : decode cX10_force 19 = .ok (.invokevirtual 105, 3) := by decide +kernel
theorem dX10_force_22 : decode cX10_force 22 = .ok (.ireturn, 1) := by decide +kernel
theorem dX10_force_23 : decode cX10_force 23 = .ok (.aload_n 0, 1) := by decide +kernel
theorem dX10_force_24 : decode cX10_force 24 = .ok (.getfield 89, 3) := by decide +kernel
theorem dX10_force_27 : decode cX10_force 27 = .ok (.getfield 251, 3) := by decide +kernel
theorem dX10_force_30 : decode cX10_force 30 = .ok (.istore_n 2, 1) := by decide +kernel
theorem dX10_force_31 : decode cX10_force 31 = .ok (.aload_n 0, 1) := by decide +kernel
theorem dX10_force_32 : decode cX10_force 32 = .ok (.getfield 89, 3) := by decide +kernel
theorem dX10_force_35 : decode cX10_force 35 = .ok (.iload_n 1, 1) := by decide +kernel
theorem dX10_force_36 : decode cX10_force 36 = .ok (.putfield 251, 3) := by decide +kernel
theorem dX10_force_39 : decode cX10_force 39 = .ok (.aload_n 0, 1) := by decide +kernel
theorem dX10_force_40 : decode cX10_force 40 = .ok (.iload_n 2, 1) := by decide +kernel
theorem dX10_force_41 : decode cX10_force 41 = .ok (.invokevirtual 118, 3) := by decide +kernel
theorem dX10_force_44 : decode cX10_force 44 = .ok (.ireturn, 1) := by decide +kernel
theorem dX10_renew_0 : decode cX10_renew 0 = .ok (.aload_n 0, 1) := by decide +kernel
theorem dX10_renew_1 : decode cX10_renew 1 = .ok (.aload_n 0, 1) := by decide +kernel
theorem dX10_renew_2 : decode cX10_renew 2 = .ok (.getfield 89, 3) := by decide +kernel
theorem dX10_renew_5 : decode cX10_renew 5 = .ok (.aload_n 0, 1) := by decide +kernel
theorem dX10_renew_6 : decode cX10_renew 6 = .ok (.getfield 58, 3) := by decide +kernel
theorem dX10_renew_9 : decode cX10_renew 9 = .ok (.iconst 0, 1) := by decide +kernel
theorem dX10_renew_10 : decode cX10_renew 10 = .ok (.iload_n 1, 1) := by decide +kernel
theorem dX10_renew_11 : decode cX10_renew 11 = .ok (.iconst (-1), 1) := by decide +kernel
theorem dX10_renew_12 : decode cX10_renew 12 = .ok (.invokestatic 254, 3) := by decide +kernel
theorem dX10_renew_15 : decode cX10_renew 15 = .ok (.invokevirtual 258, 3) := by decide +kernel
theorem dX10_renew_18 : decode cX10_renew 18 = .ok (.ireturn, 1) := by decide +kernel
theorem dX10_lodge_0 : decode cX10_lodge 0 = .ok (.aload_n 0, 1) := by decide +kernel
theorem dX10_lodge_1 : decode cX10_lodge 1 = .ok (.aload_n 0, 1) := by decide +kernel
theorem dX10_lodge_2 : decode cX10_lodge 2 = .ok (.getfield 89, 3) := by decide +kernel
theorem dX10_lodge_5 : decode cX10_lodge 5 = .ok (.aload_n 0, 1) := by decide +kernel
theorem dX10_lodge_6 : decode cX10_lodge 6 = .ok (.getfield 58, 3) := by decide +kernel
theorem dX10_lodge_9 : decode cX10_lodge 9 = .ok (.iconst 1, 1) := by decide +kernel
theorem dX10_lodge_10 : decode cX10_lodge 10 = .ok (.iload_n 1, 1) := by decide +kernel
theorem dX10_lodge_11 : decode cX10_lodge 11 = .ok (.iload_n 2, 1) := by decide +kernel
theorem dX10_lodge_12 : decode cX10_lodge 12 = .ok (.invokestatic 254, 3) := by decide +kernel
theorem dX10_lodge_15 : decode cX10_lodge 15 = .ok (.invokevirtual 258, 3) := by decide +kernel
theorem dX10_lodge_18 : decode cX10_lodge 18 = .ok (.ireturn, 1) := by decide +kernel
theorem dX10_knock_0 : decode cX10_knock 0 = .ok (.aload_n 0, 1) := by decide +kernel
theorem dX10_knock_1 : decode cX10_knock 1 = .ok (.aload_n 0, 1) := by decide +kernel
theorem dX10_knock_2 : decode cX10_knock 2 = .ok (.getfield 89, 3) := by decide +kernel
theorem dX10_knock_5 : decode cX10_knock 5 = .ok (.aload_n 0, 1) := by decide +kernel
theorem dX10_knock_6 : decode cX10_knock 6 = .ok (.getfield 58, 3) := by decide +kernel
theorem dX10_knock_9 : decode cX10_knock 9 = .ok (.iconst 2, 1) := by decide +kernel
theorem dX10_knock_10 : decode cX10_knock 10 = .ok (.iload_n 1, 1) := by decide +kernel
theorem dX10_knock_11 : decode cX10_knock 11 = .ok (.iconst (-1), 1) := by decide +kernel
theorem dX10_knock_12 : decode cX10_knock 12 = .ok (.invokestatic 254, 3) := by decide +kernel
theorem dX10_knock_15 : decode cX10_knock 15 = .ok (.invokevirtual 258, 3) := by decide +kernel
theorem dX10_knock_18 : decode cX10_knock 18 = .ok (.ireturn, 1) := by decide +kernel
theorem dX10_pass_0 : decode cX10_pass 0 = .ok (.aload_n 0, 1) := by decide +kernel
theorem dX10_pass_1 : decode cX10_pass 1 = .ok (.aload_n 0, 1) := by decide +kernel
theorem dX10_pass_2 : decode cX10_pass 2 = .ok (.getfield 89, 3) := by decide +kernel
theorem dX10_pass_5 : decode cX10_pass 5 = .ok (.aload_n 0, 1) := by decide +kernel
theorem dX10_pass_6 : decode cX10_pass 6 = .ok (.getfield 58, 3) := by decide +kernel
theorem dX10_pass_9 : decode cX10_pass 9 = .ok (.iconst 3, 1) := by decide +kernel
theorem dX10_pass_10 : decode cX10_pass 10 = .ok (.iconst (-1), 1) := by decide +kernel
theorem dX10_pass_11 : decode cX10_pass 11 = .ok (.iconst (-1), 1) := by decide +kernel
theorem dX10_pass_12 : decode cX10_pass 12 = .ok (.invokestatic 254, 3) := by decide +kernel
theorem dX10_pass_15 : decode cX10_pass 15 = .ok (.invokevirtual 258, 3) := by decide +kernel
theorem dX10_pass_18 : decode cX10_pass 18 = .ok (.ireturn, 1) := by decide +kernel
theorem dX10_undo_0 : decode cX10_undo 0 = .ok (.aload_n 0, 1) := by decide +kernel
theorem dX10_undo_1 : decode cX10_undo 1 = .ok (.getfield 58, 3) := by decide +kernel
theorem dX10_undo_4 : decode cX10_undo 4 = .ok (.getfield 261, 3) := by decide +kernel
theorem dX10_undo_7 : decode cX10_undo 7 = .ok (.ifCond .ne 10, 3) := by decide +kernel
theorem dX10_undo_10 : decode cX10_undo 10 = .ok (.aload_n 0, 1) := by decide +kernel
theorem dX10_undo_11 : decode cX10_undo 11 = .ok (.bipush (-3), 2) := by decide +kernel
theorem dX10_undo_13 : decode cX10_undo 13 = .ok (.invokevirtual 105, 3) := by decide +kernel
theorem dX10_undo_16 : decode cX10_undo 16 = .ok (.ireturn, 1) := by decide +kernel
theorem dX10_undo_17 : decode cX10_undo 17 = .ok (.aload_n 0, 1) := by decide +kernel
theorem dX10_undo_18 : decode cX10_undo 18 = .ok (.aload_n 0, 1) := by decide +kernel
theorem dX10_undo_19 : decode cX10_undo 19 = .ok (.getfield 58, 3) := by decide +kernel
theorem dX10_undo_22 : decode cX10_undo 22 = .ok (.aload_n 0, 1) := by decide +kernel
theorem dX10_undo_23 : decode cX10_undo 23 = .ok (.getfield 89, 3) := by decide +kernel
theorem dX10_undo_26 : decode cX10_undo 26 = .ok (.invokevirtual 264, 3) := by decide +kernel
theorem dX10_undo_29 : decode cX10_undo 29 = .ok (.invokevirtual 118, 3) := by decide +kernel
theorem dX10_undo_32 : decode cX10_undo 32 = .ok (.ireturn, 1) := by decide +kernel
theorem dX10_inside_0 : decode cX10_inside 0 = .ok (.iload_n 1, 1) := by decide +kernel
theorem dX10_inside_1 : decode cX10_inside 1 = .ok (.ifCond .lt 9, 3) := by decide +kernel
theorem dX10_inside_4 : decode cX10_inside 4 = .ok (.iload_n 1, 1) := by decide +kernel
theorem dX10_inside_5 : decode cX10_inside 5 = .ok (.bipush 99, 2) := by decide +kernel
theorem dX10_inside_7 : decode cX10_inside 7 = .ok (.if_icmp .le 5, 3) := by decide +kernel
theorem dX10_inside_10 : decode cX10_inside 10 = .ok (.iconst (-1), 1) := by decide +kernel
theorem dX10_inside_11 : decode cX10_inside 11 = .ok (.ireturn, 1) := by decide +kernel
theorem dX10_inside_12 : decode cX10_inside 12 = .ok (.aload_n 0, 1) := by decide +kernel
theorem dX10_inside_13 : decode cX10_inside 13 = .ok (.getfield 89, 3) := by decide +kernel
theorem dX10_inside_16 : decode cX10_inside 16 = .ok (.iload_n 1, 1) := by decide +kernel
theorem dX10_inside_17 : decode cX10_inside 17 = .ok (.invokevirtual 268, 3) := by decide +kernel
theorem dX10_inside_20 : decode cX10_inside 20 = .ok (.ireturn, 1) := by decide +kernel
theorem dX10_empty_0 : decode cX10_empty 0 = .ok (.iconst 0, 1) := by decide +kernel
theorem dX10_empty_1 : decode cX10_empty 1 = .ok (.istore_n 1, 1) := by decide +kernel
theorem dX10_empty_2 : decode cX10_empty 2 = .ok (.iconst 0, 1) := by decide +kernel
theorem dX10_empty_3 : decode cX10_empty 3 = .ok (.istore_n 2, 1) := by decide +kernel
theorem dX10_empty_4 : decode cX10_empty 4 = .ok (.iload_n 2, 1) := by decide +kernel
theorem dX10_empty_5 : decode cX10_empty 5 = .ok (.aload_n 0, 1) := by decide +kernel
theorem dX10_empty_6 : decode cX10_empty 6 = .ok (.getfield 89, 3) := by decide +kernel
theorem dX10_empty_9 : decode cX10_empty 9 = .ok (.getfield 157, 3) := by decide +kernel
theorem dX10_empty_12 : decode cX10_empty 12 = .ok (.if_icmp .ge 23, 3) := by decide +kernel
theorem dX10_empty_15 : decode cX10_empty 15 = .ok (.iload_n 1, 1) := by decide +kernel
theorem dX10_empty_16 : decode cX10_empty 16 = .ok (.aload_n 0, 1) := by decide +kernel
theorem dX10_empty_17 : decode cX10_empty 17 = .ok (.getfield 89, 3) := by decide +kernel
theorem dX10_empty_20 : decode cX10_empty 20 = .ok (.getfield 169, 3) := by decide +kernel
theorem dX10_empty_23 : decode cX10_empty 23 = .ok (.iload_n 2, 1) := by decide +kernel
theorem dX10_empty_24 : decode cX10_empty 24 = .ok (.iaload, 1) := by decide +kernel
theorem dX10_empty_25 : decode cX10_empty 25 = .ok (.invokestatic 271, 3) := by decide +kernel
theorem dX10_empty_28 : decode cX10_empty 28 = .ok (.istore_n 1, 1) := by decide +kernel
theorem dX10_empty_29 : decode cX10_empty 29 = .ok (.iinc 2 1, 3) := by decide +kernel
theorem dX10_empty_32 : decode cX10_empty 32 = .ok (.goto (-28), 3) := by decide +kernel
theorem dX10_empty_35 : decode cX10_empty 35 = .ok (.iload_n 1, 1) := by decide +kernel
theorem dX10_empty_36 : decode cX10_empty 36 = .ok (.ireturn, 1) := by decide +kernel
theorem dX10_keep_0 : decode cX10_keep 0 = .ok (.aload_n 0, 1) := by decide +kernel
theorem dX10_keep_1 : decode cX10_keep 1 = .ok (.getfield 89, 3) := by decide +kernel
theorem dX10_keep_4 : decode cX10_keep 4 = .ok (.iload_n 1, 1) := by decide +kernel
theorem dX10_keep_5 : decode cX10_keep 5 = .ok (.invokevirtual 137, 3) := by decide +kernel
theorem dX10_keep_8 : decode cX10_keep 8 = .ok (.ifCond .eq 23, 3) := by decide +kernel
theorem dX10_keep_11 : decode cX10_keep 11 = .ok (.iload_n 2, 1) := by decide +kernel
theorem dX10_keep_12 : decode cX10_keep 12 = .ok (.iconst 1, 1) := by decide +kernel
theorem dX10_keep_13 : decode cX10_keep 13 = .ok (.if_icmp .lt 18, 3) := by decide +kernel
theorem dX10_keep_16 : decode cX10_keep 16 = .ok (.iload_n 2, 1) := by decide +kernel
theorem dX10_keep_17 : decode cX10_keep 17 = .ok (.bipush 99, 2) := by decide +kernel
theorem dX10_keep_19 : decode cX10_keep 19 = .ok (.if_icmp .gt 12, 3) := by decide +kernel
theorem dX10_keep_22 : decode cX10_keep 22 = .ok (.iload_n 3, 1) := by decide +kernel
theorem dX10_keep_23 : decode cX10_keep 23 = .ok (.ifCond .lt 8, 3) := by decide +kernel
theorem dX10_keep_26 : decode cX10_keep 26 = .ok (.iload_n 3, 1) := by decide +kernel
theorem dX10_keep_27 : decode cX10_keep 27 = .ok (.iconst 2, 1) := by decide +kernel
theorem dX10_keep_28 : decode cX10_keep 28 = .ok (.if_icmp .le 5, 3) := by decide +kernel
theorem dX10_keep_31 : decode cX10_keep 31 = .ok (.iconst (-1), 1) := by decide +kernel
theorem dX10_keep_32 : decode cX10_keep 32 = .ok (.ireturn, 1) := by decide +kernel
theorem dX10_keep_33 : decode cX10_keep 33 = .ok (.aload_n 0, 1) := by decide +kernel
theorem dX10_keep_34 : decode cX10_keep 34 = .ok (.getfield 19, 3) := by decide +kernel
theorem dX10_keep_37 : decode cX10_keep 37 = .ok (.aload_n 0, 1) := by decide +kernel
theorem dX10_keep_38 : decode cX10_keep 38 = .ok (.getfield 89, 3) := by decide +kernel
theorem dX10_keep_41 : decode cX10_keep 41 = .ok (.iload_n 1, 1) := by decide +kernel
theorem dX10_keep_42 : decode cX10_keep 42 = .ok (.iload_n 2, 1) := by decide +kernel
theorem dX10_keep_43 : decode cX10_keep 43 = .ok (.iload_n 3, 1) := by decide +kernel
theorem dX10_keep_44 : decode cX10_keep 44 = .ok (.invokevirtual 276, 3) := by decide +kernel
theorem dX10_keep_47 : decode cX10_keep 47 = .ok (.ireturn, 1) := by decide +kernel
theorem dX10_when_0 : decode cX10_when 0 = .ok (.aload_n 0, 1) := by decide +kernel
theorem dX10_when_1 : decode cX10_when 1 = .ok (.getfield 89, 3) := by decide +kernel
theorem dX10_when_4 : decode cX10_when 4 = .ok (.iload_n 1, 1) := by decide +kernel
theorem dX10_when_5 : decode cX10_when 5 = .ok (.invokevirtual 280, 3) := by decide +kernel
theorem dX10_when_8 : decode cX10_when 8 = .ok (.ifCond .eq 12, 3) := by decide +kernel
theorem dX10_when_11 : decode cX10_when 11 = .ok (.iload_n 2, 1) := by decide +kernel
theorem dX10_when_12 : decode cX10_when 12 = .ok (.ifCond .lt 8, 3) := by decide +kernel
theorem dX10_when_15 : decode cX10_when 15 = .ok (.iload_n 2, 1) := by decide +kernel
theorem dX10_when_16 : decode cX10_when 16 = .ok (.iconst 1, 1) := by decide +kernel
theorem dX10_when_17 : decode cX10_when 17 = .ok (.if_icmp .le 5, 3) := by decide +kernel
theorem dX10_when_20 : decode cX10_when 20 = .ok (.iconst (-1), 1) := by decide +kernel
theorem dX10_when_21 : decode cX10_when 21 = .ok (.ireturn, 1) := by decide +kernel
theorem dX10_when_22 : decode cX10_when 22 = .ok (.aload_n 0, 1) := by decide +kernel
theorem dX10_when_23 : decode cX10_when 23 = .ok (.getfield 19, 3) := by decide +kernel
theorem dX10_when_26 : decode cX10_when 26 = .ok (.aload_n 0, 1) := by decide +kernel
theorem dX10_when_27 : decode cX10_when 27 = .ok (.getfield 89, 3) := by decide +kernel
theorem dX10_when_30 : decode cX10_when 30 = .ok (.iload_n 1, 1) := by decide +kernel
theorem dX10_when_31 : decode cX10_when 31 = .ok (.iload_n 2, 1) := by decide +kernel
theorem dX10_when_32 : decode cX10_when 32 = .ok (.invokevirtual 283, 3) := by decide +kernel
theorem dX10_when_35 : decode cX10_when 35 = .ok (.ireturn, 1) := by decide +kernel
theorem dX10_seen_0 : decode cX10_seen 0 = .ok (.iload_n 1, 1) := by decide +kernel
theorem dX10_seen_1 : decode cX10_seen 1 = .ok (.ifCond .lt 18, 3) := by decide +kernel
theorem dX10_seen_4 : decode cX10_seen 4 = .ok (.iload_n 1, 1) := by decide +kernel
theorem dX10_seen_5 : decode cX10_seen 5 = .ok (.bipush 99, 2) := by decide +kernel
theorem dX10_seen_7 : decode cX10_seen 7 = .ok (.if_icmp .gt 12, 3) := by decide +kernel
theorem dX10_seen_10 : decode cX10_seen 10 = .ok (.iload_n 2, 1) := by decide +kernel
theorem dX10_seen_11 : decode cX10_seen 11 = .ok (.ifCond .lt 8, 3) := by decide +kernel
theorem dX10_seen_14 : decode cX10_seen 14 = .ok (.iload_n 2, 1) := by decide +kernel
theorem dX10_seen_15 : decode cX10_seen 15 = .ok (.iconst 1, 1) := by decide +kernel
theorem dX10_seen_16 : decode cX10_seen 16 = .ok (.if_icmp .le 9, 3) := by decide +kernel
theorem dX10_seen_19 : decode cX10_seen 19 = .ok (.aload_n 0, 1) := by decide +kernel
theorem dX10_seen_20 : decode cX10_seen 20 = .ok (.iconst (-1), 1) := by decide +kernel
theorem dX10_seen_21 : decode cX10_seen 21 = .ok (.invokevirtual 105, 3) := by decide +kernel
theorem dX10_seen_24 : decode cX10_seen 24 = .ok (.ireturn, 1) := by decide +kernel
theorem dX10_seen_25 : decode cX10_seen 25 = .ok (.aload_n 0, 1) := by decide +kernel
theorem dX10_seen_26 : decode cX10_seen 26 = .ok (.getfield 89, 3) := by decide +kernel
theorem dX10_seen_29 : decode cX10_seen 29 = .ok (.getfield 287, 3) := by decide +kernel
theorem dX10_seen_32 : decode cX10_seen 32 = .ok (.bipush 8, 2) := by decide +kernel
theorem dX10_seen_34 : decode cX10_seen 34 = .ok (.if_icmp .lt 10, 3) := by decide +kernel
theorem dX10_seen_37 : decode cX10_seen 37 = .ok (.aload_n 0, 1) := by decide +kernel
theorem dX10_seen_38 : decode cX10_seen 38 = .ok (.bipush (-5), 2) := by decide +kernel
theorem dX10_seen_40 : decode cX10_seen 40 = .ok (.invokevirtual 105, 3) := by decide +kernel
theorem dX10_seen_43 : decode cX10_seen 43 = .ok (.ireturn, 1) := by decide +kernel
theorem dX10_seen_44 : decode cX10_seen 44 = .ok (.aload_n 0, 1) := by decide +kernel
theorem dX10_seen_45 : decode cX10_seen 45 = .ok (.getfield 89, 3) := by decide +kernel
theorem dX10_seen_48 : decode cX10_seen 48 = .ok (.getfield 290, 3) := by decide +kernel
theorem dX10_seen_51 : decode cX10_seen 51 = .ok (.aload_n 0, 1) := by decide +kernel
theorem dX10_seen_52 : decode cX10_seen 52 = .ok (.getfield 89, 3) := by decide +kernel
theorem dX10_seen_55 : decode cX10_seen 55 = .ok (.getfield 287, 3) := by decide +kernel
theorem dX10_seen_58 : decode cX10_seen 58 = .ok (.iload_n 1, 1) := by decide +kernel
theorem dX10_seen_59 : decode cX10_seen 59 = .ok (.iastore, 1) := by decide +kernel
theorem dX10_seen_60 : decode cX10_seen 60 = .ok (.aload_n 0, 1) := by decide +kernel
theorem dX10_seen_61 : decode cX10_seen 61 = .ok (.getfield 89, 3) := by decide +kernel
theorem dX10_seen_64 : decode cX10_seen 64 = .ok (.getfield 293, 3) := by decide +kernel
theorem dX10_seen_67 : decode cX10_seen 67 = .ok (.aload_n 0, 1) := by decide +kernel
theorem dX10_seen_68 : decode cX10_seen 68 = .ok (.getfield 89, 3) := by decide +kernel
theorem dX10_seen_71 : decode cX10_seen 71 = .ok (.getfield 287, 3) := by decide +kernel
theorem dX10_seen_74 : decode cX10_seen 74 = .ok (.iload_n 2, 1) := by decide +kernel
theorem dX10_seen_75 : decode cX10_seen 75 = .ok (.iastore, 1) := by decide +kernel
theorem dX10_seen_76 : decode cX10_seen 76 = .ok (.aload_n 0, 1) := by decide +kernel
theorem dX10_seen_77 : decode cX10_seen 77 = .ok (.getfield 89, 3) := by decide +kernel
theorem dX10_seen_80 : decode cX10_seen 80 = .ok (.dup, 1) := by decide +kernel
theorem dX10_seen_81 : decode cX10_seen 81 = .ok (.getfield 287, 3) := by decide +kernel
theorem dX10_seen_84 : decode cX10_seen 84 = .ok (.iconst 1, 1) := by decide +kernel
theorem dX10_seen_85 : decode cX10_seen 85 = .ok (.iadd, 1) := by decide +kernel
theorem dX10_seen_86 : decode cX10_seen 86 = .ok (.putfield 287, 3) := by decide +kernel
theorem dX10_seen_89 : decode cX10_seen 89 = .ok (.aload_n 0, 1) := by decide +kernel
theorem dX10_seen_90 : decode cX10_seen 90 = .ok (.aload_n 0, 1) := by decide +kernel
theorem dX10_seen_91 : decode cX10_seen 91 = .ok (.getfield 89, 3) := by decide +kernel
theorem dX10_seen_94 : decode cX10_seen 94 = .ok (.getfield 287, 3) := by decide +kernel
theorem dX10_seen_97 : decode cX10_seen 97 = .ok (.invokevirtual 118, 3) := by decide +kernel
theorem dX10_seen_100 : decode cX10_seen 100 = .ok (.ireturn, 1) := by decide +kernel
theorem dX10_forget_0 : decode cX10_forget 0 = .ok (.aload_n 0, 1) := by decide +kernel
theorem dX10_forget_1 : decode cX10_forget 1 = .ok (.getfield 89, 3) := by decide +kernel
theorem dX10_forget_4 : decode cX10_forget 4 = .ok (.getfield 287, 3) := by decide +kernel
theorem dX10_forget_7 : decode cX10_forget 7 = .ok (.istore_n 1, 1) := by decide +kernel
theorem dX10_forget_8 : decode cX10_forget 8 = .ok (.aload_n 0, 1) := by decide +kernel
theorem dX10_forget_9 : decode cX10_forget 9 = .ok (.getfield 89, 3) := by decide +kernel
theorem dX10_forget_12 : decode cX10_forget 12 = .ok (.iconst 0, 1) := by decide +kernel
theorem dX10_forget_13 : decode cX10_forget 13 = .ok (.putfield 287, 3) := by decide +kernel
theorem dX10_forget_16 : decode cX10_forget 16 = .ok (.iload_n 1, 1) := by decide +kernel
theorem dX10_forget_17 : decode cX10_forget 17 = .ok (.ireturn, 1) := by decide +kernel
theorem dX10_stranger_0 : decode cX10_stranger 0 = .ok (.aload_n 0, 1) := by decide +kernel
theorem dX10_stranger_1 : decode cX10_stranger 1 = .ok (.getfield 89, 3) := by decide +kernel
theorem dX10_stranger_4 : decode cX10_stranger 4 = .ok (.invokevirtual 296, 3) := by decide +kernel
theorem dX10_stranger_7 : decode cX10_stranger 7 = .ok (.ireturn, 1) := by decide +kernel
theorem dX10_look_0 : decode cX10_look 0 = .ok (.iload_n 1, 1) := by decide +kernel
theorem dX10_look_1 : decode cX10_look 1 = .ok (.ifCond .lt 8, 3) := by decide +kernel
theorem dX10_look_4 : decode cX10_look 4 = .ok (.iload_n 1, 1) := by decide +kernel
theorem dX10_look_5 : decode cX10_look 5 = .ok (.iconst 1, 1) := by decide +kernel
theorem dX10_look_6 : decode cX10_look 6 = .ok (.if_icmp .le 5, 3) := by decide +kernel
theorem dX10_look_9 : decode cX10_look 9 = .ok (.iconst (-1), 1) := by decide +kernel
theorem dX10_look_10 : decode cX10_look 10 = .ok (.ireturn, 1) := by decide +kernel
theorem dX10_look_11 : decode cX10_look 11 = .ok (.aload_n 0, 1) := by decide +kernel
theorem dX10_look_12 : decode cX10_look 12 = .ok (.getfield 19, 3) := by decide +kernel
theorem dX10_look_15 : decode cX10_look 15 = .ok (.aload_n 0, 1) := by decide +kernel
theorem dX10_look_16 : decode cX10_look 16 = .ok (.getfield 89, 3) := by decide +kernel
theorem dX10_look_19 : decode cX10_look 19 = .ok (.iload_n 1, 1) := by decide +kernel
theorem dX10_look_20 : decode cX10_look 20 = .ok (.invokevirtual 299, 3) := by decide +kernel
theorem dX10_look_23 : decode cX10_look 23 = .ok (.ireturn, 1) := by decide +kernel
theorem dX10_rooms_0 : decode cX10_rooms 0 = .ok (.iload_n 1, 1) := by decide +kernel
theorem dX10_rooms_1 : decode cX10_rooms 1 = .ok (.ifCond .lt 16, 3) := by decide +kernel
theorem dX10_rooms_4 : decode cX10_rooms 4 = .ok (.iload_n 1, 1) := by decide +kernel
theorem dX10_rooms_5 : decode cX10_rooms 5 = .ok (.iconst 2, 1) := by decide +kernel
theorem dX10_rooms_6 : decode cX10_rooms 6 = .ok (.aload_n 0, 1) := by decide +kernel
theorem dX10_rooms_7 : decode cX10_rooms 7 = .ok (.getfield 89, 3) := by decide +kernel
theorem dX10_rooms_10 : decode cX10_rooms 10 = .ok (.getfield 157, 3) := by decide +kernel
theorem dX10_rooms_13 : decode cX10_rooms 13 = .ok (.iadd, 1) := by decide +kernel
theorem dX10_rooms_14 : decode cX10_rooms 14 = .ok (.if_icmp .lt 5, 3) := by decide +kernel
theorem dX10_rooms_17 : decode cX10_rooms 17 = .ok (.iconst (-1), 1) := by decide +kernel
theorem dX10_rooms_18 : decode cX10_rooms 18 = .ok (.ireturn, 1) := by decide +kernel
theorem dX10_rooms_19 : decode cX10_rooms 19 = .ok (.aload_n 0, 1) := by decide +kernel
theorem dX10_rooms_20 : decode cX10_rooms 20 = .ok (.getfield 26, 3) := by decide +kernel
theorem dX10_rooms_23 : decode cX10_rooms 23 = .ok (.aload_n 0, 1) := by decide +kernel
theorem dX10_rooms_24 : decode cX10_rooms 24 = .ok (.getfield 89, 3) := by decide +kernel
theorem dX10_rooms_27 : decode cX10_rooms 27 = .ok (.invokevirtual 303, 3) := by decide +kernel
theorem dX10_rooms_30 : decode cX10_rooms 30 = .ok (.iload_n 1, 1) := by decide +kernel
theorem dX10_rooms_31 : decode cX10_rooms 31 = .ok (.ifCond .ne 11, 3) := by decide +kernel
theorem dX10_rooms_34 : decode cX10_rooms 34 = .ok (.aload_n 0, 1) := by decide +kernel
theorem dX10_rooms_35 : decode cX10_rooms 35 = .ok (.getfield 26, 3) := by decide +kernel
theorem dX10_rooms_38 : decode cX10_rooms 38 = .ok (.getfield 307, 3) := by decide +kernel
theorem dX10_rooms_41 : decode cX10_rooms 41 = .ok (.ireturn, 1) := by decide +kernel
theorem dX10_rooms_42 : decode cX10_rooms 42 = .ok (.iload_n 1, 1) := by decide +kernel
theorem dX10_rooms_43 : decode cX10_rooms 43 = .ok (.iconst 1, 1) := by decide +kernel
theorem dX10_rooms_44 : decode cX10_rooms 44 = .ok (.if_icmp .ne 13, 3) := by decide +kernel
theorem dX10_rooms_47 : decode cX10_rooms 47 = .ok (.aload_n 0, 1) := by decide +kernel
theorem dX10_rooms_48 : decode cX10_rooms 48 = .ok (.getfield 26, 3) := by decide +kernel
theorem dX10_rooms_51 : decode cX10_rooms 51 = .ok (.getfield 310, 3) := by decide +kernel
theorem dX10_rooms_54 : decode cX10_rooms 54 = .ok (.goto 14, 3) := by decide +kernel
theorem dX10_rooms_57 : decode cX10_rooms 57 = .ok (.aload_n 0, 1) := by decide +kernel
theorem dX10_rooms_58 : decode cX10_rooms 58 = .ok (.getfield 26, 3) := by decide +kernel
theorem dX10_rooms_61 : decode cX10_rooms 61 = .ok (.getfield 312, 3) := by decide +kernel
theorem dX10_rooms_64 : decode cX10_rooms 64 = .ok (.iload_n 1, 1) := by decide +kernel
theorem dX10_rooms_65 : decode cX10_rooms 65 = .ok (.iconst 2, 1) := by decide +kernel
theorem dX10_rooms_66 : decode cX10_rooms 66 = .ok (.isub, 1) := by decide +kernel
theorem dX10_rooms_67 : decode cX10_rooms 67 = .ok (.iaload, 1) := by decide +kernel
theorem dX10_rooms_68 : decode cX10_rooms 68 = .ok (.ireturn, 1) := by decide +kernel
theorem dX10_packed_0 : decode cX10_packed 0 = .ok (.iload_n 1, 1) := by decide +kernel
theorem dX10_packed_1 : decode cX10_packed 1 = .ok (.ifCond .lt 8, 3) := by decide +kernel
theorem dX10_packed_4 : decode cX10_packed 4 = .ok (.iload_n 1, 1) := by decide +kernel
theorem dX10_packed_5 : decode cX10_packed 5 = .ok (.iconst 1, 1) := by decide +kernel
theorem dX10_packed_6 : decode cX10_packed 6 = .ok (.if_icmp .le 5, 3) := by decide +kernel
theorem dX10_packed_9 : decode cX10_packed 9 = .ok (.iconst (-1), 1) := by decide +kernel
theorem dX10_packed_10 : decode cX10_packed 10 = .ok (.ireturn, 1) := by decide +kernel
theorem dX10_packed_11 : decode cX10_packed 11 = .ok (.aload_n 0, 1) := by decide +kernel
theorem dX10_packed_12 : decode cX10_packed 12 = .ok (.getfield 19, 3) := by decide +kernel
theorem dX10_packed_15 : decode cX10_packed 15 = .ok (.aload_n 0, 1) := by decide +kernel
theorem dX10_packed_16 : decode cX10_packed 16 = .ok (.getfield 89, 3) := by decide +kernel
theorem dX10_packed_19 : decode cX10_packed 19 = .ok (.iload_n 1, 1) := by decide +kernel
theorem dX10_packed_20 : decode cX10_packed 20 = .ok (.invokevirtual 315, 3) := by decide +kernel
theorem dX10_packed_23 : decode cX10_packed 23 = .ok (.ireturn, 1) := by decide +kernel
theorem dX10_changes_0 : decode cX10_changes 0 = .ok (.iload_n 1, 1) := by decide +kernel
theorem dX10_changes_1 : decode cX10_changes 1 = .ok (.iconst (-1), 1) := by decide +kernel
theorem dX10_changes_2 : decode cX10_changes 2 = .ok (.if_icmp .ge 5, 3) := by decide +kernel
theorem dX10_changes_5 : decode cX10_changes 5 = .ok (.iconst (-1), 1) := by decide +kernel
theorem dX10_changes_6 : decode cX10_changes 6 = .ok (.ireturn, 1) := by decide +kernel
theorem dX10_changes_7 : decode cX10_changes 7 = .ok (.aload_n 0, 1) := by decide +kernel
theorem dX10_changes_8 : decode cX10_changes 8 = .ok (.getfield 19, 3) := by decide +kernel
theorem dX10_changes_11 : decode cX10_changes 11 = .ok (.aload_n 0, 1) := by decide +kernel
theorem dX10_changes_12 : decode cX10_changes 12 = .ok (.getfield 89, 3) := by decide +kernel
theorem dX10_changes_15 : decode cX10_changes 15 = .ok (.iload_n 1, 1) := by decide +kernel
theorem dX10_changes_16 : decode cX10_changes 16 = .ok (.invokevirtual 318, 3) := by decide +kernel
theorem dX10_changes_19 : decode cX10_changes 19 = .ok (.ireturn, 1) := by decide +kernel
theorem dX10_few_0 : decode cX10_few 0 = .ok (.iload_n 1, 1) := by decide +kernel
theorem dX10_few_1 : decode cX10_few 1 = .ok (.iconst 1, 1) := by decide +kernel
theorem dX10_few_2 : decode cX10_few 2 = .ok (.if_icmp .lt 19, 3) := by decide +kernel
theorem dX10_few_5 : decode cX10_few 5 = .ok (.iload_n 1, 1) := by decide +kernel
theorem dX10_few_6 : decode cX10_few 6 = .ok (.bipush 20, 2) := by decide +kernel
theorem dX10_few_8 : decode cX10_few 8 = .ok (.if_icmp .gt 13, 3) := by decide +kernel
theorem dX10_few_11 : decode cX10_few 11 = .ok (.iload_n 2, 1) := by decide +kernel
theorem dX10_few_12 : decode cX10_few 12 = .ok (.ifCond .lt 9, 3) := by decide +kernel
theorem dX10_few_15 : decode cX10_few 15 = .ok (.iload_n 2, 1) := by decide +kernel
theorem dX10_few_16 : decode cX10_few 16 = .ok (.bipush 99, 2) := by decide +kernel
theorem dX10_few_18 : decode cX10_few 18 = .ok (.if_icmp .le 7, 3) := by decide +kernel
theorem dX10_few_21 : decode cX10_few 21 = .ok (.ldc2_w 321, 3) := by decide +kernel
theorem dX10_few_24 : decode cX10_few 24 = .ok (.lreturn, 1) := by decide +kernel
theorem dX10_few_25 : decode cX10_few 25 = .ok (.aload_n 0, 1) := by decide +kernel
theorem dX10_few_26 : decode cX10_few 26 = .ok (.getfield 89, 3) := by decide +kernel
theorem dX10_few_29 : decode cX10_few 29 = .ok (.getfield 197, 3) := by decide +kernel
theorem dX10_few_32 : decode cX10_few 32 = .ok (.iconst 1, 1) := by decide +kernel
theorem dX10_few_33 : decode cX10_few 33 = .ok (.iaload, 1) := by decide +kernel
theorem dX10_few_34 : decode cX10_few 34 = .ok (.istore_n 3, 1) := by decide +kernel
theorem dX10_few_35 : decode cX10_few 35 = .ok (.iconst 0, 1) := by decide +kernel
theorem dX10_few_36 : decode cX10_few 36 = .ok (.istore 4, 2) := by decide +kernel
theorem dX10_few_38 : decode cX10_few 38 = .ok (.iload 4, 2) := by decide +kernel
theorem dX10_few_40 : decode cX10_few 40 = .ok (.iload_n 1, 1) := by decide +kernel
theorem dX10_few_41 : decode cX10_few 41 = .ok (.if_icmp .ge 28, 3) := by decide +kernel
theorem dX10_few_44 : decode cX10_few 44 = .ok (.aload_n 0, 1) := by decide +kernel
theorem dX10_few_45 : decode cX10_few 45 = .ok (.getfield 37, 3) := by decide +kernel
theorem dX10_few_48 : decode cX10_few 48 = .ok (.iload 4, 2) := by decide +kernel
theorem dX10_few_50 : decode cX10_few 50 = .ok (.iload 4, 2) := by decide +kernel
theorem dX10_few_52 : decode cX10_few 52 = .ok (.ifCond .ne 9, 3) := by decide +kernel
theorem dX10_few_55 : decode cX10_few 55 = .ok (.ldc2_w 323, 3) := by decide +kernel
theorem dX10_few_58 : decode cX10_few 58 = .ok (.goto 4, 3) := by decide +kernel
theorem dX10_few_61 : decode cX10_few 61 = .ok (.lconst 0, 1) := by decide +kernel
theorem dX10_few_62 : decode cX10_few 62 = .ok (.lastore, 1) := by decide +kernel
theorem dX10_few_63 : decode cX10_few 63 = .ok (.iinc 4 1, 3) := by decide +kernel
theorem dX10_few_66 : decode cX10_few 66 = .ok (.goto (-28), 3) := by decide +kernel
theorem dX10_few_69 : decode cX10_few 69 = .ok (.iconst 0, 1) := by decide +kernel
theorem dX10_few_70 : decode cX10_few 70 = .ok (.istore 4, 2) := by decide +kernel
theorem dX10_few_72 : decode cX10_few 72 = .ok (.iload 4, 2) := by decide +kernel
theorem dX10_few_74 : decode cX10_few 74 = .ok (.iload_n 2, 1) := by decide +kernel
theorem dX10_few_75 : decode cX10_few 75 = .ok (.if_icmp .ge 79, 3) := by decide +kernel
theorem dX10_few_78 : decode cX10_few 78 = .ok (.iload_n 1, 1) := by decide +kernel
theorem dX10_few_79 : decode cX10_few 79 = .ok (.iconst 1, 1) := by decide +kernel
theorem dX10_few_80 : decode cX10_few 80 = .ok (.isub, 1) := by decide +kernel
theorem dX10_few_81 : decode cX10_few 81 = .ok (.istore 5, 2) := by decide +kernel
theorem dX10_few_83 : decode cX10_few 83 = .ok (.iload 5, 2) := by decide +kernel
theorem dX10_few_85 : decode cX10_few 85 = .ok (.ifCond .lt 63, 3) := by decide +kernel
theorem dX10_few_88 : decode cX10_few 88 = .ok (.iload 5, 2) := by decide +kernel
theorem dX10_few_90 : decode cX10_few 90 = .ok (.ifCond .ne 7, 3) := by decide +kernel
theorem dX10_few_93 : decode cX10_few 93 = .ok (.lconst 0, 1) := by decide +kernel
theorem dX10_few_94 : decode cX10_few 94 = .ok (.goto 19, 3) := by decide +kernel
theorem dX10_few_97 : decode cX10_few 97 = .ok (.aload_n 0, 1) := by decide +kernel
theorem dX10_few_98 : decode cX10_few 98 = .ok (.getfield 37, 3) := by decide +kernel
theorem dX10_few_101 : decode cX10_few 101 = .ok (.iload 5, 2) := by decide +kernel
theorem dX10_few_103 : decode cX10_few 103 = .ok (.iconst 1, 1) := by decide +kernel
theorem dX10_few_104 : decode cX10_few 104 = .ok (.isub, 1) := by decide +kernel
theorem dX10_few_105 : decode cX10_few 105 = .ok (.laload, 1) := by decide +kernel
theorem dX10_few_106 : decode cX10_few 106 = .ok (.iload_n 3, 1) := by decide +kernel
theorem dX10_few_107 : decode cX10_few 107 = .ok (.i2l, 1) := by decide +kernel
theorem dX10_few_108 : decode cX10_few 108 = .ok (.lmul, 1) := by decide +kernel
theorem dX10_few_109 : decode cX10_few 109 = .ok (.ldc2_w 325, 3) := by decide +kernel
theorem dX10_few_112 : decode cX10_few 112 = .ok (.ldiv, 1) := by decide +kernel
theorem dX10_few_113 : decode cX10_few 113 = .ok (.lstore 6, 2) := by decide +kernel
theorem dX10_few_115 : decode cX10_few 115 = .ok (.aload_n 0, 1) := by decide +kernel
theorem dX10_few_116 : decode cX10_few 116 = .ok (.getfield 37, 3) := by decide +kernel
theorem dX10_few_119 : decode cX10_few 119 = .ok (.iload 5, 2) := by decide +kernel
theorem dX10_few_121 : decode cX10_few 121 = .ok (.aload_n 0, 1) := by decide +kernel
theorem dX10_few_122 : decode cX10_few 122 = .ok (.getfield 37, 3) := by decide +kernel
theorem dX10_few_125 : decode cX10_few 125 = .ok (.iload 5, 2) := by decide +kernel
theorem dX10_few_127 : decode cX10_few 127 = .ok (.laload, 1) := by decide +kernel
theorem dX10_few_128 : decode cX10_few 128 = .ok (.bipush 10, 2) := by decide +kernel
theorem dX10_few_130 : decode cX10_few 130 = .ok (.iload_n 3, 1) := by decide +kernel
theorem dX10_few_131 : decode cX10_few 131 = .ok (.isub, 1) := by decide +kernel
theorem dX10_few_132 : decode cX10_few 132 = .ok (.i2l, 1) := by decide +kernel
theorem dX10_few_133 : decode cX10_few 133 = .ok (.lmul, 1) := by decide +kernel
theorem dX10_few_134 : decode cX10_few 134 = .ok (.ldc2_w 325, 3) := by decide +kernel
theorem dX10_few_137 : decode cX10_few 137 = .ok (.ldiv, 1) := by decide +kernel
theorem dX10_few_138 : decode cX10_few 138 = .ok (.lload 6, 2) := by decide +kernel
theorem dX10_few_140 : decode cX10_few 140 = .ok (.ladd, 1) := by decide +kernel
theorem dX10_few_141 : decode cX10_few 141 = .ok (.lastore, 1) := by decide +kernel
theorem dX10_few_142 : decode cX10_few 142 = .ok (.iinc 5 (-1), 3) := by decide +kernel
theorem dX10_few_145 : decode cX10_few 145 = .ok (.goto (-62), 3) := by decide +kernel
theorem dX10_few_148 : decode cX10_few 148 = .ok (.iinc 4 1, 3) := by decide +kernel
theorem dX10_few_151 : decode cX10_few 151 = .ok (.goto (-79), 3) := by decide +kernel
theorem dX10_few_154 : decode cX10_few 154 = .ok (.lconst 0, 1) := by decide +kernel
theorem dX10_few_155 : decode cX10_few 155 = .ok (.lstore 4, 2) := by decide +kernel
theorem dX10_few_157 : decode cX10_few 157 = .ok (.iconst 0, 1) := by decide +kernel
theorem dX10_few_158 : decode cX10_few 158 = .ok (.istore 6, 2) := by decide +kernel
theorem dX10_few_160 : decode cX10_few 160 = .ok (.iload 6, 2) := by decide +kernel
theorem dX10_few_162 : decode cX10_few 162 = .ok (.iload_n 1, 1) := by decide +kernel
theorem dX10_few_163 : decode cX10_few 163 = .ok (.if_icmp .ge 21, 3) := by decide +kernel
theorem dX10_few_166 : decode cX10_few 166 = .ok (.lload 4, 2) := by decide +kernel
theorem dX10_few_168 : decode cX10_few 168 = .ok (.aload_n 0, 1) := by decide +kernel
theorem dX10_few_169 : decode cX10_few 169 = .ok (.getfield 37, 3) := by decide +kernel
theorem dX10_few_172 : decode cX10_few 172 = .ok (.iload 6, 2) := by decide +kernel
theorem dX10_few_174 : decode cX10_few 174 = .ok (.laload, 1) := by decide +kernel
theorem dX10_few_175 : decode cX10_few 175 = .ok (.ladd, 1) := by decide +kernel
theorem dX10_few_176 : decode cX10_few 176 = .ok (.lstore 4, 2) := by decide +kernel
theorem dX10_few_178 : decode cX10_few 178 = .ok (.iinc 6 1, 3) := by decide +kernel
theorem dX10_few_181 : decode cX10_few 181 = .ok (.goto (-21), 3) := by decide +kernel
theorem dX10_few_184 : decode cX10_few 184 = .ok (.lload 4, 2) := by decide +kernel
theorem dX10_few_186 : decode cX10_few 186 = .ok (.lreturn, 1) := by decide +kernel
theorem dX10_compare_0 : decode cX10_compare 0 = .ok (.iload_n 1, 1) := by decide +kernel
theorem dX10_compare_1 : decode cX10_compare 1 = .ok (.iconst (-1), 1) := by decide +kernel
theorem dX10_compare_2 : decode cX10_compare 2 = .ok (.if_icmp .eq 16, 3) := by decide +kernel
theorem dX10_compare_5 : decode cX10_compare 5 = .ok (.aload_n 0, 1) := by decide +kernel
theorem dX10_compare_6 : decode cX10_compare 6 = .ok (.getfield 89, 3) := by decide +kernel
theorem dX10_compare_9 : decode cX10_compare 9 = .ok (.iload_n 1, 1) := by decide +kernel
theorem dX10_compare_10 : decode cX10_compare 10 = .ok (.invokevirtual 248, 3) := by decide +kernel
theorem dX10_compare_13 : decode cX10_compare 13 = .ok (.ifCond .ne 5, 3) := by decide +kernel
theorem dX10_compare_16 : decode cX10_compare 16 = .ok (.iconst (-1), 1) := by decide +kernel
theorem dX10_compare_17 : decode cX10_compare 17 = .ok (.ireturn, 1) := by decide +kernel
theorem dX10_compare_18 : decode cX10_compare 18 = .ok (.aload_n 0, 1) := by decide +kernel
theorem dX10_compare_19 : decode cX10_compare 19 = .ok (.getfield 89, 3) := by decide +kernel
theorem dX10_compare_22 : decode cX10_compare 22 = .ok (.iload_n 1, 1) := by decide +kernel
theorem dX10_compare_23 : decode cX10_compare 23 = .ok (.invokevirtual 327, 3) := by decide +kernel
theorem dX10_compare_26 : decode cX10_compare 26 = .ok (.astore_n 2, 1) := by decide +kernel
theorem dX10_compare_27 : decode cX10_compare 27 = .ok (.iconst 0, 1) := by decide +kernel
theorem dX10_compare_28 : decode cX10_compare 28 = .ok (.istore_n 3, 1) := by decide +kernel
theorem dX10_compare_29 : decode cX10_compare 29 = .ok (.iconst 0, 1) := by decide +kernel
theorem dX10_compare_30 : decode cX10_compare 30 = .ok (.istore 4, 2) := by decide +kernel
theorem dX10_compare_32 : decode cX10_compare 32 = .ok (.iload 4, 2) := by decide +kernel
theorem dX10_compare_34 : decode cX10_compare 34 = .ok (.aload_n 0, 1) := by decide +kernel
theorem dX10_compare_35 : decode cX10_compare 35 = .ok (.getfield 89, 3) := by decide +kernel
theorem dX10_compare_38 : decode cX10_compare 38 = .ok (.getfield 157, 3) := by decide +kernel
theorem dX10_compare_41 : decode cX10_compare 41 = .ok (.if_icmp .ge 35, 3) := by decide +kernel
theorem dX10_compare_44 : decode cX10_compare 44 = .ok (.aload_n 0, 1) := by decide +kernel
theorem dX10_compare_45 : decode cX10_compare 45 = .ok (.getfield 89, 3) := by decide +kernel
theorem dX10_compare_48 : decode cX10_compare 48 = .ok (.iload 4, 2) := by decide +kernel
theorem dX10_compare_50 : decode cX10_compare 50 = .ok (.invokevirtual 280, 3) := by decide +kernel
theorem dX10_compare_53 : decode cX10_compare 53 = .ok (.ifCond .eq 17, 3) := by decide +kernel
theorem dX10_compare_56 : decode cX10_compare 56 = .ok (.iload_n 3, 1) := by decide +kernel
theorem dX10_compare_57 : decode cX10_compare 57 = .ok (.aload_n 0, 1) := by decide +kernel
theorem dX10_compare_58 : decode cX10_compare 58 = .ok (.getfield 89, 3) := by decide +kernel
theorem dX10_compare_61 : decode cX10_compare 61 = .ok (.aload_n 2, 1) := by decide +kernel
theorem dX10_compare_62 : decode cX10_compare 62 = .ok (.iconst 0, 1) := by decide +kernel
theorem dX10_compare_63 : decode cX10_compare 63 = .ok (.iload 4, 2) := by decide +kernel
theorem dX10_compare_65 : decode cX10_compare 65 = .ok (.invokevirtual 179, 3) := by decide +kernel
theorem dX10_compare_68 : decode cX10_compare 68 = .ok (.iadd, 1) := by decide +kernel
theorem dX10_compare_69 : decode cX10_compare 69 = .ok (.istore_n 3, 1) := by decide +kernel
theorem dX10_compare_70 : decode cX10_compare 70 = .ok (.iinc 4 1, 3) := by decide +kernel
theorem dX10_compare_73 : decode cX10_compare 73 = .ok (.goto (-41), 3) := by decide +kernel
theorem dX10_compare_76 : decode cX10_compare 76 = .ok (.iload_n 3, 1) := by decide +kernel
theorem dX10_compare_77 : decode cX10_compare 77 = .ok (.ireturn, 1) := by decide +kernel
theorem dX10_centuries_0 : decode cX10_centuries 0 = .ok (.iload_n 1, 1) := by decide +kernel
theorem dX10_centuries_1 : decode cX10_centuries 1 = .ok (.ifCond .lt 21, 3) := by decide +kernel
theorem dX10_centuries_4 : decode cX10_centuries 4 = .ok (.iload_n 1, 1) := by decide +kernel
theorem dX10_centuries_5 : decode cX10_centuries 5 = .ok (.ldc_w 331, 3) := by decide +kernel
theorem dX10_centuries_8 : decode cX10_centuries 8 = .ok (.if_icmp .gt 14, 3) := by decide +kernel
theorem dX10_centuries_11 : decode cX10_centuries 11 = .ok (.iload_n 2, 1) := by decide +kernel
theorem dX10_centuries_12 : decode cX10_centuries 12 = .ok (.iconst 1, 1) := by decide +kernel
theorem dX10_centuries_13 : decode cX10_centuries 13 = .ok (.if_icmp .lt 9, 3) := by decide +kernel
theorem dX10_centuries_16 : decode cX10_centuries 16 = .ok (.iload_n 2, 1) := by decide +kernel
theorem dX10_centuries_17 : decode cX10_centuries 17 = .ok (.bipush 60, 2) := by decide +kernel
theorem dX10_centuries_19 : decode cX10_centuries 19 = .ok (.if_icmp .le 9, 3) := by decide +kernel
theorem dX10_centuries_22 : decode cX10_centuries 22 = .ok (.aload_n 0, 1) := by decide +kernel
theorem dX10_centuries_23 : decode cX10_centuries 23 = .ok (.iconst (-1), 1) := by decide +kernel
theorem dX10_centuries_24 : decode cX10_centuries 24 = .ok (.invokevirtual 105, 3) := by decide +kernel
theorem dX10_centuries_27 : decode cX10_centuries 27 = .ok (.ireturn, 1) := by decide +kernel
theorem dX10_centuries_28 : decode cX10_centuries 28 = .ok (.aload_n 0, 1) := by decide +kernel
theorem dX10_centuries_29 : decode cX10_centuries 29 = .ok (.getfield 89, 3) := by decide +kernel
theorem dX10_centuries_32 : decode cX10_centuries 32 = .ok (.getfield 157, 3) := by decide +kernel
theorem dX10_centuries_35 : decode cX10_centuries 35 = .ok (.ifCond .ne 10, 3) := by decide +kernel
theorem dX10_centuries_38 : decode cX10_centuries 38 = .ok (.aload_n 0, 1) := by decide +kernel
theorem dX10_centuries_39 : decode cX10_centuries 39 = .ok (.bipush (-3), 2) := by decide +kernel
theorem dX10_centuries_41 : decode cX10_centuries 41 = .ok (.invokevirtual 105, 3) := by decide +kernel
theorem dX10_centuries_44 : decode cX10_centuries 44 = .ok (.ireturn, 1) := by decide +kernel
theorem dX10_centuries_45 : decode cX10_centuries 45 = .ok (.aload_n 0, 1) := by decide +kernel
theorem dX10_centuries_46 : decode cX10_centuries 46 = .ok (.getfield 93, 3) := by decide +kernel
theorem dX10_centuries_49 : decode cX10_centuries 49 = .ok (.aload_n 0, 1) := by decide +kernel
theorem dX10_centuries_50 : decode cX10_centuries 50 = .ok (.getfield 89, 3) := by decide +kernel
theorem dX10_centuries_53 : decode cX10_centuries 53 = .ok (.invokevirtual 332, 3) := by decide +kernel
theorem dX10_centuries_56 : decode cX10_centuries 56 = .ok (.aload_n 0, 1) := by decide +kernel
theorem dX10_centuries_57 : decode cX10_centuries 57 = .ok (.getfield 33, 3) := by decide +kernel
theorem dX10_centuries_60 : decode cX10_centuries 60 = .ok (.iload_n 1, 1) := by decide +kernel
theorem dX10_centuries_61 : decode cX10_centuries 61 = .ok (.putfield 335, 3) := by decide +kernel
theorem dX10_centuries_64 : decode cX10_centuries 64 = .ok (.iconst 0, 1) := by decide +kernel
theorem dX10_centuries_65 : decode cX10_centuries 65 = .ok (.istore_n 3, 1) := by decide +kernel
theorem dX10_centuries_66 : decode cX10_centuries 66 = .ok (.iconst 0, 1) := by decide +kernel
theorem dX10_centuries_67 : decode cX10_centuries 67 = .ok (.istore 4, 2) := by decide +kernel
theorem dX10_centuries_69 : decode cX10_centuries 69 = .ok (.iload 4, 2) := by decide +kernel
theorem dX10_centuries_71 : decode cX10_centuries 71 = .ok (.iload_n 2, 1) := by decide +kernel
theorem dX10_centuries_72 : decode cX10_centuries 72 = .ok (.if_icmp .ge 58, 3) := by decide +kernel
theorem dX10_centuries_75 : decode cX10_centuries 75 = .ok (.aload_n 0, 1) := by decide +kernel
theorem dX10_centuries_76 : decode cX10_centuries 76 = .ok (.getfield 93, 3) := by decide +kernel
theorem dX10_centuries_79 : decode cX10_centuries 79 = .ok (.getfield 197, 3) := by decide +kernel
theorem dX10_centuries_82 : decode cX10_centuries 82 = .ok (.iconst 0, 1) := by decide +kernel
theorem dX10_centuries_83 : decode cX10_centuries 83 = .ok (.iaload, 1) := by decide +kernel
theorem dX10_centuries_84 : decode cX10_centuries 84 = .ok (.sipush 999, 3) := by decide +kernel
theorem dX10_centuries_87 : decode cX10_centuries 87 = .ok (.if_icmp .ge 43, 3) := by decide +kernel
theorem dX10_centuries_90 : decode cX10_centuries 90 = .ok (.aload_n 0, 1) := by decide +kernel
theorem dX10_centuries_91 : decode cX10_centuries 91 = .ok (.invokevirtual 338, 3) := by decide +kernel
theorem dX10_centuries_94 : decode cX10_centuries 94 = .ok (.aload_n 0, 1) := by decide +kernel
theorem dX10_centuries_95 : decode cX10_centuries 95 = .ok (.getfield 93, 3) := by decide +kernel
theorem dX10_centuries_98 : decode cX10_centuries 98 = .ok (.invokevirtual 341, 3) := by decide +kernel
theorem dX10_centuries_101 : decode cX10_centuries 101 = .ok (.istore 5, 2) := by decide +kernel
theorem dX10_centuries_103 : decode cX10_centuries 103 = .ok (.aload_n 0, 1) := by decide +kernel
theorem dX10_centuries_104 : decode cX10_centuries 104 = .ok (.getfield 93, 3) := by decide +kernel
theorem dX10_centuries_107 : decode cX10_centuries 107 = .ok (.invokevirtual 344, 3) := by decide +kernel
theorem dX10_centuries_110 : decode cX10_centuries 110 = .ok (.pop, 1) := by decide +kernel
theorem dX10_centuries_111 : decode cX10_centuries 111 = .ok (.iload_n 3, 1) := by decide +kernel
theorem dX10_centuries_112 : decode cX10_centuries 112 = .ok (.iload 5, 2) := by decide +kernel
theorem dX10_centuries_114 : decode cX10_centuries 114 = .ok (.aload_n 0, 1) := by decide +kernel
theorem dX10_centuries_115 : decode cX10_centuries 115 = .ok (.getfield 93, 3) := by decide +kernel
theorem dX10_centuries_118 : decode cX10_centuries 118 = .ok (.invokevirtual 341, 3) := by decide +kernel
theorem dX10_centuries_121 : decode cX10_centuries 121 = .ok (.isub, 1) := by decide +kernel
theorem dX10_centuries_122 : decode cX10_centuries 122 = .ok (.iadd, 1) := by decide +kernel
theorem dX10_centuries_123 : decode cX10_centuries 123 = .ok (.istore_n 3, 1) := by decide +kernel
theorem dX10_centuries_124 : decode cX10_centuries 124 = .ok (.iinc 4 1, 3) := by decide +kernel
theorem dX10_centuries_127 : decode cX10_centuries 127 = .ok (.goto (-58), 3) := by decide +kernel
theorem dX10_centuries_130 : decode cX10_centuries 130 = .ok (.aload_n 0, 1) := by decide +kernel
theorem dX10_centuries_131 : decode cX10_centuries 131 = .ok (.iload_n 3, 1) := by decide +kernel
theorem dX10_centuries_132 : decode cX10_centuries 132 = .ok (.invokevirtual 118, 3) := by decide +kernel
theorem dX10_centuries_135 : decode cX10_centuries 135 = .ok (.ireturn, 1) := by decide +kernel
theorem dX10_drawn_0 : decode cX10_drawn 0 = .ok (.iload_n 2, 1) := by decide +kernel
theorem dX10_drawn_1 : decode cX10_drawn 1 = .ok (.ifCond .ne 29, 3) := by decide +kernel
theorem dX10_drawn_4 : decode cX10_drawn 4 = .ok (.aload_n 0, 1) := by decide +kernel
theorem dX10_drawn_5 : decode cX10_drawn 5 = .ok (.getfield 93, 3) := by decide +kernel
theorem dX10_drawn_8 : decode cX10_drawn 8 = .ok (.iload_n 1, 1) := by decide +kernel
theorem dX10_drawn_9 : decode cX10_drawn 9 = .ok (.invokevirtual 160, 3) := by decide +kernel
theorem dX10_drawn_12 : decode cX10_drawn 12 = .ok (.ifCond .eq 15, 3) := by decide +kernel
theorem dX10_drawn_15 : decode cX10_drawn 15 = .ok (.aload_n 0, 1) := by decide +kernel
theorem dX10_drawn_16 : decode cX10_drawn 16 = .ok (.getfield 93, 3) := by decide +kernel
theorem dX10_drawn_19 : decode cX10_drawn 19 = .ok (.getfield 166, 3) := by decide +kernel
theorem dX10_drawn_22 : decode cX10_drawn 22 = .ok (.iload_n 1, 1) := by decide +kernel
theorem dX10_drawn_23 : decode cX10_drawn 23 = .ok (.iaload, 1) := by decide +kernel
theorem dX10_drawn_24 : decode cX10_drawn 24 = .ok (.goto 5, 3) := by decide +kernel
theorem dX10_drawn_27 : decode cX10_drawn 27 = .ok (.bipush (-100), 2) := by decide +kernel
theorem dX10_drawn_29 : decode cX10_drawn 29 = .ok (.ireturn, 1) := by decide +kernel
theorem dX10_drawn_30 : decode cX10_drawn 30 = .ok (.iload_n 2, 1) := by decide +kernel
theorem dX10_drawn_31 : decode cX10_drawn 31 = .ok (.iconst 1, 1) := by decide +kernel
theorem dX10_drawn_32 : decode cX10_drawn 32 = .ok (.if_icmp .ne 29, 3) := by decide +kernel
theorem dX10_drawn_35 : decode cX10_drawn 35 = .ok (.aload_n 0, 1) := by decide +kernel
theorem dX10_drawn_36 : decode cX10_drawn 36 = .ok (.getfield 93, 3) := by decide +kernel
theorem dX10_drawn_39 : decode cX10_drawn 39 = .ok (.iload_n 1, 1) := by decide +kernel
theorem dX10_drawn_40 : decode cX10_drawn 40 = .ok (.invokevirtual 160, 3) := by decide +kernel
theorem dX10_drawn_43 : decode cX10_drawn 43 = .ok (.ifCond .eq 15, 3) := by decide +kernel
theorem dX10_drawn_46 : decode cX10_drawn 46 = .ok (.aload_n 0, 1) := by decide +kernel
theorem dX10_drawn_47 : decode cX10_drawn 47 = .ok (.getfield 93, 3) := by decide +kernel
theorem dX10_drawn_50 : decode cX10_drawn 50 = .ok (.getfield 169, 3) := by decide +kernel
theorem dX10_drawn_53 : decode cX10_drawn 53 = .ok (.iload_n 1, 1) := by decide +kernel
theorem dX10_drawn_54 : decode cX10_drawn 54 = .ok (.iaload, 1) := by decide +kernel
theorem dX10_drawn_55 : decode cX10_drawn 55 = .ok (.goto 5, 3) := by decide +kernel
theorem dX10_drawn_58 : decode cX10_drawn 58 = .ok (.bipush (-100), 2) := by decide +kernel
theorem dX10_drawn_60 : decode cX10_drawn 60 = .ok (.ireturn, 1) := by decide +kernel
theorem dX10_drawn_61 : decode cX10_drawn 61 = .ok (.iload_n 2, 1) := by decide +kernel
theorem dX10_drawn_62 : decode cX10_drawn 62 = .ok (.iconst 2, 1) := by decide +kernel
theorem dX10_drawn_63 : decode cX10_drawn 63 = .ok (.if_icmp .ne 29, 3) := by decide +kernel
theorem dX10_drawn_66 : decode cX10_drawn 66 = .ok (.aload_n 0, 1) := by decide +kernel
theorem dX10_drawn_67 : decode cX10_drawn 67 = .ok (.getfield 93, 3) := by decide +kernel
theorem dX10_drawn_70 : decode cX10_drawn 70 = .ok (.iload_n 1, 1) := by decide +kernel
theorem dX10_drawn_71 : decode cX10_drawn 71 = .ok (.invokevirtual 137, 3) := by decide +kernel
theorem dX10_drawn_74 : decode cX10_drawn 74 = .ok (.ifCond .eq 15, 3) := by decide +kernel
theorem dX10_drawn_77 : decode cX10_drawn 77 = .ok (.aload_n 0, 1) := by decide +kernel
theorem dX10_drawn_78 : decode cX10_drawn 78 = .ok (.getfield 93, 3) := by decide +kernel
theorem dX10_drawn_81 : decode cX10_drawn 81 = .ok (.getfield 134, 3) := by decide +kernel
theorem dX10_drawn_84 : decode cX10_drawn 84 = .ok (.iload_n 1, 1) := by decide +kernel
theorem dX10_drawn_85 : decode cX10_drawn 85 = .ok (.iaload, 1) := by decide +kernel
theorem dX10_drawn_86 : decode cX10_drawn 86 = .ok (.goto 5, 3) := by decide +kernel
theorem dX10_drawn_89 : decode cX10_drawn 89 = .ok (.bipush (-100), 2) := by decide +kernel
theorem dX10_drawn_91 : decode cX10_drawn 91 = .ok (.ireturn, 1) := by decide +kernel
theorem dX10_drawn_92 : decode cX10_drawn 92 = .ok (.bipush (-100), 2) := by decide +kernel
theorem dX10_drawn_94 : decode cX10_drawn 94 = .ok (.ireturn, 1) := by decide +kernel
theorem dX10_image_0 : decode cX10_image 0 = .ok (.iload_n 1, 1) := by decide +kernel
theorem dX10_image_1 : decode cX10_image 1 = .ok (.ifCond .lt 8, 3) := by decide +kernel
theorem dX10_image_4 : decode cX10_image 4 = .ok (.iload_n 1, 1) := by decide +kernel
theorem dX10_image_5 : decode cX10_image 5 = .ok (.iconst 2, 1) := by decide +kernel
theorem dX10_image_6 : decode cX10_image 6 = .ok (.if_icmp .lt 9, 3) := by decide +kernel
theorem dX10_image_9 : decode cX10_image 9 = .ok (.aload_n 0, 1) := by decide +kernel
theorem dX10_image_10 : decode cX10_image 10 = .ok (.iconst (-1), 1) := by decide +kernel
theorem dX10_image_11 : decode cX10_image 11 = .ok (.invokevirtual 105, 3) := by decide +kernel
theorem dX10_image_14 : decode cX10_image 14 = .ok (.ireturn, 1) := by decide +kernel
theorem dX10_image_15 : decode cX10_image 15 = .ok (.aload_n 0, 1) := by decide +kernel
theorem dX10_image_16 : decode cX10_image 16 = .ok (.getfield 51, 3) := by decide +kernel
theorem dX10_image_19 : decode cX10_image 19 = .ok (.iload_n 1, 1) := by decide +kernel
theorem dX10_image_20 : decode cX10_image 20 = .ok (.aaload, 1) := by decide +kernel
theorem dX10_image_21 : decode cX10_image 21 = .ok (.astore_n 2, 1) := by decide +kernel
theorem dX10_image_22 : decode cX10_image 22 = .ok (.aload_n 2, 1) := by decide +kernel
theorem dX10_image_23 : decode cX10_image 23 = .ok (.ifnonnull 25, 3) := by decide +kernel
theorem dX10_image_26 : decode cX10_image 26 = .ok (.new 49, 3) := by decide +kernel
theorem dX10_image_29 : decode cX10_image 29 = .ok (.dup, 1) := by decide +kernel
theorem dX10_image_30 : decode cX10_image 30 = .ok (.aload_n 0, 1) := by decide +kernel
theorem dX10_image_31 : decode cX10_image 31 = .ok (.getfield 89, 3) := by decide +kernel
theorem dX10_image_34 : decode cX10_image 34 = .ok (.getfield 347, 3) := by decide +kernel
theorem dX10_image_37 : decode cX10_image 37 = .ok (.invokespecial 86, 3) := by decide +kernel
theorem dX10_image_40 : decode cX10_image 40 = .ok (.astore_n 2, 1) := by decide +kernel
theorem dX10_image_41 : decode cX10_image 41 = .ok (.aload_n 0, 1) := by decide +kernel
theorem dX10_image_42 : decode cX10_image 42 = .ok (.getfield 51, 3) := by decide +kernel
theorem dX10_image_45 : decode cX10_image 45 = .ok (.iload_n 1, 1) := by decide +kernel
theorem dX10_image_46 : decode cX10_image 46 = .ok (.aload_n 2, 1) := by decide +kernel
theorem dX10_image_47 : decode cX10_image 47 = .ok (.aastore, 1) := by decide +kernel
theorem dX10_image_48 : decode cX10_image 48 = .ok (.aload_n 2, 1) := by decide +kernel
theorem dX10_image_49 : decode cX10_image 49 = .ok (.aload_n 0, 1) := by decide +kernel
theorem dX10_image_50 : decode cX10_image 50 = .ok (.getfield 89, 3) := by decide +kernel
theorem dX10_image_53 : decode cX10_image 53 = .ok (.invokevirtual 332, 3) := by decide +kernel
theorem dX10_image_56 : decode cX10_image 56 = .ok (.aload_n 0, 1) := by decide +kernel
theorem dX10_image_57 : decode cX10_image 57 = .ok (.iconst 0, 1) := by decide +kernel
theorem dX10_image_58 : decode cX10_image 58 = .ok (.invokevirtual 118, 3) := by decide +kernel
theorem dX10_image_61 : decode cX10_image 61 = .ok (.ireturn, 1) := by decide +kernel
theorem dX10_back_0 : decode cX10_back 0 = .ok (.iload_n 1, 1) := by decide +kernel
theorem dX10_back_1 : decode cX10_back 1 = .ok (.ifCond .lt 8, 3) := by decide +kernel
theorem dX10_back_4 : decode cX10_back 4 = .ok (.iload_n 1, 1) := by decide +kernel
theorem dX10_back_5 : decode cX10_back 5 = .ok (.iconst 2, 1) := by decide +kernel
theorem dX10_back_6 : decode cX10_back 6 = .ok (.if_icmp .lt 9, 3) := by decide +kernel
theorem dX10_back_9 : decode cX10_back 9 = .ok (.aload_n 0, 1) := by decide +kernel
theorem dX10_back_10 : decode cX10_back 10 = .ok (.iconst (-1), 1) := by decide +kernel
theorem dX10_back_11 : decode cX10_back 11 = .ok (.invokevirtual 105, 3) := by decide +kernel
theorem dX10_back_14 : decode cX10_back 14 = .ok (.ireturn, 1) := by decide +kernel
theorem dX10_back_15 : decode cX10_back 15 = .ok (.aload_n 0, 1) := by decide +kernel
theorem dX10_back_16 : decode cX10_back 16 = .ok (.getfield 51, 3) := by decide +kernel
theorem dX10_back_19 : decode cX10_back 19 = .ok (.iload_n 1, 1) := by decide +kernel
theorem dX10_back_20 : decode cX10_back 20 = .ok (.aaload, 1) := by decide +kernel
theorem dX10_back_21 : decode cX10_back 21 = .ok (.astore_n 2, 1) := by decide +kernel
theorem dX10_back_22 : decode cX10_back 22 = .ok (.aload_n 2, 1) := by decide +kernel
theorem dX10_back_23 : decode cX10_back 23 = .ok (.ifnonnull 10, 3) := by decide +kernel
theorem dX10_back_26 : decode cX10_back 26 = .ok (.aload_n 0, 1) := by decide +kernel
theorem dX10_back_27 : decode cX10_back 27 = .ok (.bipush (-2), 2) := by decide +kernel
theorem dX10_back_29 : decode cX10_back 29 = .ok (.invokevirtual 105, 3) := by decide +kernel
theorem dX10_back_32 : decode cX10_back 32 = .ok (.ireturn, 1) := by decide +kernel
theorem dX10_back_33 : decode cX10_back 33 = .ok (.aload_n 0, 1) := by decide +kernel
theorem dX10_back_34 : decode cX10_back 34 = .ok (.getfield 89, 3) := by decide +kernel
theorem dX10_back_37 : decode cX10_back 37 = .ok (.aload_n 2, 1) := by decide +kernel
theorem dX10_back_38 : decode cX10_back 38 = .ok (.invokevirtual 332, 3) := by decide +kernel
theorem dX10_back_41 : decode cX10_back 41 = .ok (.aload_n 0, 1) := by decide +kernel
theorem dX10_back_42 : decode cX10_back 42 = .ok (.getfield 58, 3) := by decide +kernel
theorem dX10_back_45 : decode cX10_back 45 = .ok (.invokevirtual 115, 3) := by decide +kernel
theorem dX10_back_48 : decode cX10_back 48 = .ok (.aload_n 0, 1) := by decide +kernel
theorem dX10_back_49 : decode cX10_back 49 = .ok (.iconst 0, 1) := by decide +kernel
theorem dX10_back_50 : decode cX10_back 50 = .ok (.invokevirtual 118, 3) := by decide +kernel
theorem dX10_back_53 : decode cX10_back 53 = .ok (.ireturn, 1) := by decide +kernel
theorem dX10_count_0 : decode cX10_count 0 = .ok (.iload_n 1, 1) := by decide +kernel
theorem dX10_count_1 : decode cX10_count 1 = .ok (.bipush 8, 2) := by decide +kernel
theorem dX10_count_3 : decode cX10_count 3 = .ok (.if_icmp .lt 19, 3) := by decide +kernel
theorem dX10_count_6 : decode cX10_count 6 = .ok (.iload_n 1, 1) := by decide +kernel
theorem dX10_count_7 : decode cX10_count 7 = .ok (.bipush 12, 2) := by decide +kernel
theorem dX10_count_9 : decode cX10_count 9 = .ok (.if_icmp .gt 13, 3) := by decide +kernel
theorem dX10_count_12 : decode cX10_count 12 = .ok (.aload_n 0, 1) := by decide +kernel
theorem dX10_count_13 : decode cX10_count 13 = .ok (.getfield 45, 3) := by decide +kernel
theorem dX10_count_16 : decode cX10_count 16 = .ok (.iload_n 1, 1) := by decide +kernel
theorem dX10_count_17 : decode cX10_count 17 = .ok (.bipush 8, 2) := by decide +kernel
theorem dX10_count_19 : decode cX10_count 19 = .ok (.isub, 1) := by decide +kernel
theorem dX10_count_20 : decode cX10_count 20 = .ok (.iaload, 1) := by decide +kernel
theorem dX10_count_21 : decode cX10_count 21 = .ok (.ireturn, 1) := by decide +kernel
theorem dX10_count_22 : decode cX10_count 22 = .ok (.iload_n 1, 1) := by decide +kernel
theorem dX10_count_23 : decode cX10_count 23 = .ok (.bipush 14, 2) := by decide +kernel
theorem dX10_count_25 : decode cX10_count 25 = .ok (.if_icmp .lt 22, 3) := by decide +kernel
theorem dX10_count_28 : decode cX10_count 28 = .ok (.iload_n 1, 1) := by decide +kernel
theorem dX10_count_29 : decode cX10_count 29 = .ok (.bipush 16, 2) := by decide +kernel
theorem dX10_count_31 : decode cX10_count 31 = .ok (.if_icmp .gt 16, 3) := by decide +kernel
theorem dX10_count_34 : decode cX10_count 34 = .ok (.aload_n 0, 1) := by decide +kernel
theorem dX10_count_35 : decode cX10_count 35 = .ok (.getfield 89, 3) := by decide +kernel
theorem dX10_count_38 : decode cX10_count 38 = .ok (.getfield 197, 3) := by decide +kernel
theorem dX10_count_41 : decode cX10_count 41 = .ok (.iload_n 1, 1) := by decide +kernel
theorem dX10_count_42 : decode cX10_count 42 = .ok (.bipush 14, 2) := by decide +kernel
theorem dX10_count_44 : decode cX10_count 44 = .ok (.isub, 1) := by decide +kernel
theorem dX10_count_45 : decode cX10_count 45 = .ok (.iaload, 1) := by decide +kernel
theorem dX10_count_46 : decode cX10_count 46 = .ok (.ireturn, 1) := by decide +kernel
theorem dX10_count_47 : decode cX10_count 47 = .ok (.iload_n 1, 1) := by decide +kernel
theorem dX10_count_48 : decode cX10_count 48 = .ok (.tableswitch 141 0 13 #[72, 80, 88, 96, 104, 112, 120, 128, 141, 141, 141, 141, 141, 133], 72) := by decide +kernel
theorem dX10_count_120 : decode cX10_count 120 = .ok (.aload_n 0, 1) := by decide +kernel
theorem dX10_count_121 : decode cX10_count 121 = .ok (.getfield 89, 3) := by decide +kernel
theorem dX10_count_124 : decode cX10_count 124 = .ok (.getfield 109, 3) := by decide +kernel
theorem dX10_count_127 : decode cX10_count 127 = .ok (.ireturn, 1) := by decide +kernel
theorem dX10_count_128 : decode cX10_count 128 = .ok (.aload_n 0, 1) := by decide +kernel
theorem dX10_count_129 : decode cX10_count 129 = .ok (.getfield 89, 3) := by decide +kernel
theorem dX10_count_132 : decode cX10_count 132 = .ok (.getfield 131, 3) := by decide +kernel
theorem dX10_count_135 : decode cX10_count 135 = .ok (.ireturn, 1) := by decide +kernel
theorem dX10_count_136 : decode cX10_count 136 = .ok (.aload_n 0, 1) := by decide +kernel
theorem dX10_count_137 : decode cX10_count 137 = .ok (.getfield 89, 3) := by decide +kernel
theorem dX10_count_140 : decode cX10_count 140 = .ok (.getfield 157, 3) := by decide +kernel
theorem dX10_count_143 : decode cX10_count 143 = .ok (.ireturn, 1) := by decide +kernel
theorem dX10_count_144 : decode cX10_count 144 = .ok (.aload_n 0, 1) := by decide +kernel
theorem dX10_count_145 : decode cX10_count 145 = .ok (.getfield 89, 3) := by decide +kernel
theorem dX10_count_148 : decode cX10_count 148 = .ok (.invokevirtual 341, 3) := by decide +kernel
theorem dX10_count_151 : decode cX10_count 151 = .ok (.ireturn, 1) := by decide +kernel
theorem dX10_count_152 : decode cX10_count 152 = .ok (.aload_n 0, 1) := by decide +kernel
theorem dX10_count_153 : decode cX10_count 153 = .ok (.getfield 89, 3) := by decide +kernel
theorem dX10_count_156 : decode cX10_count 156 = .ok (.getfield 287, 3) := by decide +kernel
theorem dX10_count_159 : decode cX10_count 159 = .ok (.ireturn, 1) := by decide +kernel
theorem dX10_count_160 : decode cX10_count 160 = .ok (.aload_n 0, 1) := by decide +kernel
theorem dX10_count_161 : decode cX10_count 161 = .ok (.getfield 89, 3) := by decide +kernel
theorem dX10_count_164 : decode cX10_count 164 = .ok (.getfield 212, 3) := by decide +kernel
theorem dX10_count_167 : decode cX10_count 167 = .ok (.ireturn, 1) := by decide +kernel
theorem dX10_count_168 : decode cX10_count 168 = .ok (.aload_n 0, 1) := by decide +kernel
theorem dX10_count_169 : decode cX10_count 169 = .ok (.getfield 58, 3) := by decide +kernel
theorem dX10_count_172 : decode cX10_count 172 = .ok (.getfield 261, 3) := by decide +kernel
theorem dX10_count_175 : decode cX10_count 175 = .ok (.ireturn, 1) := by decide +kernel
theorem dX10_count_176 : decode cX10_count 176 = .ok (.aload_n 0, 1) := by decide +kernel
theorem dX10_count_177 : decode cX10_count 177 = .ok (.getfield 62, 3) := by decide +kernel
theorem dX10_count_180 : decode cX10_count 180 = .ok (.ireturn, 1) := by decide +kernel
theorem dX10_count_181 : decode cX10_count 181 = .ok (.aload_n 0, 1) := by decide +kernel
theorem dX10_count_182 : decode cX10_count 182 = .ok (.getfield 89, 3) := by decide +kernel
theorem dX10_count_185 : decode cX10_count 185 = .ok (.getfield 251, 3) := by decide +kernel
theorem dX10_count_188 : decode cX10_count 188 = .ok (.ireturn, 1) := by decide +kernel
theorem dX10_count_189 : decode cX10_count 189 = .ok (.iconst (-1), 1) := by decide +kernel
theorem dX10_count_190 : decode cX10_count 190 = .ok (.ireturn, 1) := by decide +kernel
theorem dX10_status_0 : decode cX10_status 0 = .ok (.aload_n 0, 1) := by decide +kernel
theorem dX10_status_1 : decode cX10_status 1 = .ok (.getfield 75, 3) := by decide +kernel
theorem dX10_status_4 : decode cX10_status 4 = .ok (.ireturn, 1) := by decide +kernel
theorem dX10_refused_0 : decode cX10_refused 0 = .ok (.aload_n 0, 1) := by decide +kernel
theorem dX10_refused_1 : decode cX10_refused 1 = .ok (.iload_n 1, 1) := by decide +kernel
theorem dX10_refused_2 : decode cX10_refused 2 = .ok (.putfield 75, 3) := by decide +kernel
theorem dX10_refused_5 : decode cX10_refused 5 = .ok (.iload_n 1, 1) := by decide +kernel
theorem dX10_refused_6 : decode cX10_refused 6 = .ok (.bipush (-3), 2) := by decide +kernel
theorem dX10_refused_8 : decode cX10_refused 8 = .ok (.if_icmp .lt 10, 3) := by decide +kernel
theorem dX10_refused_11 : decode cX10_refused 11 = .ok (.iload_n 1, 1) := by decide +kernel
theorem dX10_refused_12 : decode cX10_refused 12 = .ok (.ineg, 1) := by decide +kernel
theorem dX10_refused_13 : decode cX10_refused 13 = .ok (.iconst 1, 1) := by decide +kernel
theorem dX10_refused_14 : decode cX10_refused 14 = .ok (.isub, 1) := by decide +kernel
theorem dX10_refused_15 : decode cX10_refused 15 = .ok (.goto 7, 3) := by decide +kernel
theorem dX10_refused_18 : decode cX10_refused 18 = .ok (.iload_n 1, 1) := by decide +kernel
theorem dX10_refused_19 : decode cX10_refused 19 = .ok (.ineg, 1) := by decide +kernel
theorem dX10_refused_20 : decode cX10_refused 20 = .ok (.iconst 2, 1) := by decide +kernel
theorem dX10_refused_21 : decode cX10_refused 21 = .ok (.isub, 1) := by decide +kernel
theorem dX10_refused_22 : decode cX10_refused 22 = .ok (.istore_n 2, 1) := by decide +kernel
theorem dX10_refused_23 : decode cX10_refused 23 = .ok (.iload_n 2, 1) := by decide +kernel
theorem dX10_refused_24 : decode cX10_refused 24 = .ok (.ifCond .lt 22, 3) := by decide +kernel
theorem dX10_refused_27 : decode cX10_refused 27 = .ok (.iload_n 2, 1) := by decide +kernel
theorem dX10_refused_28 : decode cX10_refused 28 = .ok (.aload_n 0, 1) := by decide +kernel
theorem dX10_refused_29 : decode cX10_refused 29 = .ok (.getfield 45, 3) := by decide +kernel
theorem dX10_refused_32 : decode cX10_refused 32 = .ok (.arraylength, 1) := by decide +kernel
theorem dX10_refused_33 : decode cX10_refused 33 = .ok (.if_icmp .ge 13, 3) := by decide +kernel
theorem dX10_refused_36 : decode cX10_refused 36 = .ok (.aload_n 0, 1) := by decide +kernel
theorem dX10_refused_37 : decode cX10_refused 37 = .ok (.getfield 45, 3) := by decide +kernel
theorem dX10_refused_40 : decode cX10_refused 40 = .ok (.iload_n 2, 1) := by decide +kernel
theorem dX10_refused_41 : decode cX10_refused 41 = .ok (.dup2, 1) := by decide +kernel
theorem dX10_refused_42 : decode cX10_refused 42 = .ok (.iaload, 1) := by decide +kernel
theorem dX10_refused_43 : decode cX10_refused 43 = .ok (.iconst 1, 1) := by decide +kernel
theorem dX10_refused_44 : decode cX10_refused 44 = .ok (.iadd, 1) := by decide +kernel
theorem dX10_refused_45 : decode cX10_refused 45 = .ok (.iastore, 1) := by decide +kernel
theorem dX10_refused_46 : decode cX10_refused 46 = .ok (.iload_n 1, 1) := by decide +kernel
theorem dX10_refused_47 : decode cX10_refused 47 = .ok (.ireturn, 1) := by decide +kernel
theorem dX10_granted_0 : decode cX10_granted 0 = .ok (.aload_n 0, 1) := by decide +kernel
theorem dX10_granted_1 : decode cX10_granted 1 = .ok (.iconst 0, 1) := by decide +kernel
theorem dX10_granted_2 : decode cX10_granted 2 = .ok (.putfield 75, 3) := by decide +kernel
theorem dX10_granted_5 : decode cX10_granted 5 = .ok (.iload_n 1, 1) := by decide +kernel
theorem dX10_granted_6 : decode cX10_granted 6 = .ok (.ireturn, 1) := by decide +kernel
theorem dX10_answered_0 : decode cX10_answered 0 = .ok (.iload_n 1, 1) := by decide +kernel
theorem dX10_answered_1 : decode cX10_answered 1 = .ok (.ifCond .ge 11, 3) := by decide +kernel
theorem dX10_answered_4 : decode cX10_answered 4 = .ok (.aload_n 0, 1) := by decide +kernel
theorem dX10_answered_5 : decode cX10_answered 5 = .ok (.iload_n 1, 1) := by decide +kernel
theorem dX10_answered_6 : decode cX10_answered 6 = .ok (.invokevirtual 105, 3) := by decide +kernel
theorem dX10_answered_9 : decode cX10_answered 9 = .ok (.goto 8, 3) := by decide +kernel
theorem dX10_answered_12 : decode cX10_answered 12 = .ok (.aload_n 0, 1) := by decide +kernel
theorem dX10_answered_13 : decode cX10_answered 13 = .ok (.iload_n 1, 1) := by decide +kernel
theorem dX10_answered_14 : decode cX10_answered 14 = .ok (.invokevirtual 118, 3) := by decide +kernel
theorem dX10_answered_17 : decode cX10_answered 17 = .ok (.ireturn, 1) := by decide +kernel
theorem dX10_putBytes_0 : decode cX10_putBytes 0 = .ok (.bipush 24, 2) := by decide +kernel
theorem dX10_putBytes_2 : decode cX10_putBytes 2 = .ok (.istore_n 2, 1) := by decide +kernel
theorem dX10_putBytes_3 : decode cX10_putBytes 3 = .ok (.iload_n 2, 1) := by decide +kernel
theorem dX10_putBytes_4 : decode cX10_putBytes 4 = .ok (.ifCond .lt 44, 3) := by decide +kernel
theorem dX10_putBytes_7 : decode cX10_putBytes 7 = .ok (.aload_n 0, 1) := by decide +kernel
theorem dX10_putBytes_8 : decode cX10_putBytes 8 = .ok (.getfield 62, 3) := by decide +kernel
theorem dX10_putBytes_11 : decode cX10_putBytes 11 = .ok (.aload_n 0, 1) := by decide +kernel
theorem dX10_putBytes_12 : decode cX10_putBytes 12 = .ok (.getfield 41, 3) := by decide +kernel
theorem dX10_putBytes_15 : decode cX10_putBytes 15 = .ok (.arraylength, 1) := by decide +kernel
theorem dX10_putBytes_16 : decode cX10_putBytes 16 = .ok (.if_icmp .ge 26, 3) := by decide +kernel
theorem dX10_putBytes_19 : decode cX10_putBytes 19 = .ok (.aload_n 0, 1) := by decide +kernel
theorem dX10_putBytes_20 : decode cX10_putBytes 20 = .ok (.getfield 41, 3) := by decide +kernel
theorem dX10_putBytes_23 : decode cX10_putBytes 23 = .ok (.aload_n 0, 1) := by decide +kernel
theorem dX10_putBytes_24 : decode cX10_putBytes 24 = .ok (.getfield 62, 3) := by decide +kernel
theorem dX10_putBytes_27 : decode cX10_putBytes 27 = .ok (.iload_n 1, 1) := by decide +kernel
theorem dX10_putBytes_28 : decode cX10_putBytes 28 = .ok (.iload_n 2, 1) := by decide +kernel
theorem dX10_putBytes_29 : decode cX10_putBytes 29 = .ok (.iushr, 1) := by decide +kernel
theorem dX10_putBytes_30 : decode cX10_putBytes 30 = .ok (.i2b, 1) := by decide +kernel
theorem dX10_putBytes_31 : decode cX10_putBytes 31 = .ok (.bastore, 1) := by decide +kernel
theorem dX10_putBytes_32 : decode cX10_putBytes 32 = .ok (.aload_n 0, 1) := by decide +kernel
theorem dX10_putBytes_33 : decode cX10_putBytes 33 = .ok (.dup, 1) := by decide +kernel
theorem dX10_putBytes_34 : decode cX10_putBytes 34 = .ok (.getfield 62, 3) := by decide +kernel
theorem dX10_putBytes_37 : decode cX10_putBytes 37 = .ok (.iconst 1, 1) := by decide +kernel
theorem dX10_putBytes_38 : decode cX10_putBytes 38 = .ok (.iadd, 1) := by decide +kernel
theorem dX10_putBytes_39 : decode cX10_putBytes 39 = .ok (.putfield 62, 3) := by decide +kernel
theorem dX10_putBytes_42 : decode cX10_putBytes 42 = .ok (.iinc 2 (-8), 3) := by decide +kernel
theorem dX10_putBytes_45 : decode cX10_putBytes 45 = .ok (.goto (-42), 3) := by decide +kernel
theorem dX10_putBytes_48 : decode cX10_putBytes 48 = .ok (.return_, 1) := by decide +kernel
theorem dX10_takeTape_0 : decode cX10_takeTape 0 = .ok (.aload_n 0, 1) := by decide +kernel
theorem dX10_takeTape_1 : decode cX10_takeTape 1 = .ok (.getfield 62, 3) := by decide +kernel
theorem dX10_takeTape_4 : decode cX10_takeTape 4 = .ok (.istore_n 1, 1) := by decide +kernel
theorem dX10_takeTape_5 : decode cX10_takeTape 5 = .ok (.aload_n 0, 1) := by decide +kernel
theorem dX10_takeTape_6 : decode cX10_takeTape 6 = .ok (.iconst 0, 1) := by decide +kernel
theorem dX10_takeTape_7 : decode cX10_takeTape 7 = .ok (.putfield 62, 3) := by decide +kernel
theorem dX10_takeTape_10 : decode cX10_takeTape 10 = .ok (.iload_n 1, 1) := by decide +kernel
theorem dX10_takeTape_11 : decode cX10_takeTape 11 = .ok (.ireturn, 1) := by decide +kernel
theorem dX10_comes_0 : decode cX10_comes 0 = .ok (.aload_n 0, 1) := by decide +kernel
theorem dX10_comes_1 : decode cX10_comes 1 = .ok (.getfield 89, 3) := by decide +kernel
theorem dX10_comes_4 : decode cX10_comes 4 = .ok (.iload_n 1, 1) := by decide +kernel
theorem dX10_comes_5 : decode cX10_comes 5 = .ok (.iload_n 2, 1) := by decide +kernel
theorem dX10_comes_6 : decode cX10_comes 6 = .ok (.iload_n 3, 1) := by decide +kernel
theorem dX10_comes_7 : decode cX10_comes 7 = .ok (.invokevirtual 149, 3) := by decide +kernel
theorem dX10_comes_10 : decode cX10_comes 10 = .ok (.ifCond .eq 5, 3) := by decide +kernel
theorem dX10_comes_13 : decode cX10_comes 13 = .ok (.iconst 0, 1) := by decide +kernel
theorem dX10_comes_14 : decode cX10_comes 14 = .ok (.ireturn, 1) := by decide +kernel
theorem dX10_comes_15 : decode cX10_comes 15 = .ok (.aload_n 0, 1) := by decide +kernel
theorem dX10_comes_16 : decode cX10_comes 16 = .ok (.getfield 89, 3) := by decide +kernel
theorem dX10_comes_19 : decode cX10_comes 19 = .ok (.iload_n 1, 1) := by decide +kernel
theorem dX10_comes_20 : decode cX10_comes 20 = .ok (.iload_n 2, 1) := by decide +kernel
theorem dX10_comes_21 : decode cX10_comes 21 = .ok (.iload_n 3, 1) := by decide +kernel
theorem dX10_comes_22 : decode cX10_comes 22 = .ok (.invokevirtual 153, 3) := by decide +kernel
theorem dX10_comes_25 : decode cX10_comes 25 = .ok (.iconst 1, 1) := by decide +kernel
theorem dX10_comes_26 : decode cX10_comes 26 = .ok (.ireturn, 1) := by decide +kernel
theorem dX10_drawOneAct_0 : decode cX10_drawOneAct 0 = .ok (.aload_n 0, 1) := by decide +kernel
theorem dX10_drawOneAct_1 : decode cX10_drawOneAct 1 = .ok (.getfield 33, 3) := by decide +kernel
theorem dX10_drawOneAct_4 : decode cX10_drawOneAct 4 = .ok (.aload_n 0, 1) := by decide +kernel
theorem dX10_drawOneAct_5 : decode cX10_drawOneAct 5 = .ok (.getfield 93, 3) := by decide +kernel
theorem dX10_drawOneAct_8 : decode cX10_drawOneAct 8 = .ok (.getfield 157, 3) := by decide +kernel
theorem dX10_drawOneAct_11 : decode cX10_drawOneAct 11 = .ok (.invokevirtual 351, 3) := by decide +kernel
theorem dX10_drawOneAct_14 : decode cX10_drawOneAct 14 = .ok (.istore_n 1, 1) := by decide +kernel
theorem dX10_drawOneAct_15 : decode cX10_drawOneAct 15 = .ok (.aload_n 0, 1) := by decide +kernel
theorem dX10_drawOneAct_16 : decode cX10_drawOneAct 16 = .ok (.getfield 33, 3) := by decide +kernel
theorem dX10_drawOneAct_19 : decode cX10_drawOneAct 19 = .ok (.aload_n 0, 1) := by decide +kernel
theorem dX10_drawOneAct_20 : decode cX10_drawOneAct 20 = .ok (.getfield 93, 3) := by decide +kernel
theorem dX10_drawOneAct_23 : decode cX10_drawOneAct 23 = .ok (.getfield 109, 3) := by decide +kernel
theorem dX10_drawOneAct_26 : decode cX10_drawOneAct 26 = .ok (.invokevirtual 351, 3) := by decide +kernel
theorem dX10_drawOneAct_29 : decode cX10_drawOneAct 29 = .ok (.istore_n 2, 1) := by decide +kernel
theorem dX10_drawOneAct_30 : decode cX10_drawOneAct 30 = .ok (.aload_n 0, 1) := by decide +kernel
theorem dX10_drawOneAct_31 : decode cX10_drawOneAct 31 = .ok (.getfield 33, 3) := by decide +kernel
theorem dX10_drawOneAct_34 : decode cX10_drawOneAct 34 = .ok (.iconst 3, 1) := by decide +kernel
theorem dX10_drawOneAct_35 : decode cX10_drawOneAct 35 = .ok (.invokevirtual 351, 3) := by decide +kernel
theorem dX10_drawOneAct_38 : decode cX10_drawOneAct 38 = .ok (.lookupswitch 51 #[(0, 26), (1, 38)], 26) := by decide +kernel
theorem dX10_drawOneAct_64 : decode cX10_drawOneAct 64 = .ok (.aload_n 0, 1) := by decide +kernel
theorem dX10_drawOneAct_65 : decode cX10_drawOneAct 65 = .ok (.getfield 93, 3) := by decide +kernel
theorem dX10_drawOneAct_68 : decode cX10_drawOneAct 68 = .ok (.iload_n 1, 1) := by decide +kernel
theorem dX10_drawOneAct_69 : decode cX10_drawOneAct 69 = .ok (.invokevirtual 354, 3) := by decide +kernel
theorem dX10_drawOneAct_72 : decode cX10_drawOneAct 72 = .ok (.pop, 1) := by decide +kernel
theorem dX10_drawOneAct_73 : decode cX10_drawOneAct 73 = .ok (.goto 25, 3) := by decide +kernel
theorem dX10_drawOneAct_76 : decode cX10_drawOneAct 76 = .ok (.aload_n 0, 1) := by decide +kernel
theorem dX10_drawOneAct_77 : decode cX10_drawOneAct 77 = .ok (.getfield 93, 3) := by decide +kernel
theorem dX10_drawOneAct_80 : decode cX10_drawOneAct 80 = .ok (.iload_n 1, 1) := by decide +kernel
theorem dX10_drawOneAct_81 : decode cX10_drawOneAct 81 = .ok (.iload_n 2, 1) := by decide +kernel
theorem dX10_drawOneAct_82 : decode cX10_drawOneAct 82 = .ok (.invokevirtual 357, 3) := by decide +kernel
theorem dX10_drawOneAct_85 : decode cX10_drawOneAct 85 = .ok (.pop, 1) := by decide +kernel
theorem dX10_drawOneAct_86 : decode cX10_drawOneAct 86 = .ok (.goto 12, 3) := by decide +kernel
theorem dX10_drawOneAct_89 : decode cX10_drawOneAct 89 = .ok (.aload_n 0, 1) := by decide +kernel
theorem dX10_drawOneAct_90 : decode cX10_drawOneAct 90 = .ok (.getfield 93, 3) := by decide +kernel
theorem dX10_drawOneAct_93 : decode cX10_drawOneAct 93 = .ok (.iload_n 1, 1) := by decide +kernel
theorem dX10_drawOneAct_94 : decode cX10_drawOneAct 94 = .ok (.invokevirtual 360, 3) := by decide +kernel
theorem dX10_drawOneAct_97 : decode cX10_drawOneAct 97 = .ok (.pop, 1) := by decide +kernel
theorem dX10_drawOneAct_98 : decode cX10_drawOneAct 98 = .ok (.return_, 1) := by decide +kernel
theorem dX10_act_0 : decode cX10_act 0 = .ok (.aload_n 1, 1) := by decide +kernel
theorem dX10_act_1 : decode cX10_act 1 = .ok (.aload_n 0, 1) := by decide +kernel
theorem dX10_act_2 : decode cX10_act 2 = .ok (.iload_n 2, 1) := by decide +kernel
theorem dX10_act_3 : decode cX10_act 3 = .ok (.invokevirtual 363, 3) := by decide +kernel
theorem dX10_act_6 : decode cX10_act 6 = .ok (.iload_n 2, 1) := by decide +kernel
theorem dX10_act_7 : decode cX10_act 7 = .ok (.tableswitch 57 0 2 #[25, 35, 47], 25) := by decide +kernel
theorem dX10_act_32 : decode cX10_act 32 = .ok (.aload_n 0, 1) := by decide +kernel
theorem dX10_act_33 : decode cX10_act 33 = .ok (.iload_n 3, 1) := by decide +kernel
theorem dX10_act_34 : decode cX10_act 34 = .ok (.invokevirtual 354, 3) := by decide +kernel
theorem dX10_act_37 : decode cX10_act 37 = .ok (.istore 5, 2) := by decide +kernel
theorem dX10_act_39 : decode cX10_act 39 = .ok (.goto 31, 3) := by decide +kernel
theorem dX10_act_42 : decode cX10_act 42 = .ok (.aload_n 0, 1) := by decide +kernel
theorem dX10_act_43 : decode cX10_act 43 = .ok (.iload_n 3, 1) := by decide +kernel
theorem dX10_act_44 : decode cX10_act 44 = .ok (.iload 4, 2) := by decide +kernel
theorem dX10_act_46 : decode cX10_act 46 = .ok (.invokevirtual 357, 3) := by decide +kernel
theorem dX10_act_49 : decode cX10_act 49 = .ok (.istore 5, 2) := by decide +kernel
theorem dX10_act_51 : decode cX10_act 51 = .ok (.goto 19, 3) := by decide +kernel
theorem dX10_act_54 : decode cX10_act 54 = .ok (.aload_n 0, 1) := by decide +kernel
theorem dX10_act_55 : decode cX10_act 55 = .ok (.iload_n 3, 1) := by decide +kernel
theorem dX10_act_56 : decode cX10_act 56 = .ok (.invokevirtual 360, 3) := by decide +kernel
theorem dX10_act_59 : decode cX10_act 59 = .ok (.istore 5, 2) := by decide +kernel
theorem dX10_act_61 : decode cX10_act 61 = .ok (.goto 9, 3) := by decide +kernel
theorem dX10_act_64 : decode cX10_act 64 = .ok (.aload_n 0, 1) := by decide +kernel
theorem dX10_act_65 : decode cX10_act 65 = .ok (.invokevirtual 344, 3) := by decide +kernel
theorem dX10_act_68 : decode cX10_act 68 = .ok (.istore 5, 2) := by decide +kernel
theorem dX10_act_70 : decode cX10_act 70 = .ok (.iload 5, 2) := by decide +kernel
theorem dX10_act_72 : decode cX10_act 72 = .ok (.ifCond .lt 7, 3) := by decide +kernel
theorem dX10_act_75 : decode cX10_act 75 = .ok (.aload_n 1, 1) := by decide +kernel
theorem dX10_act_76 : decode cX10_act 76 = .ok (.invokevirtual 367, 3) := by decide +kernel
theorem dX10_act_79 : decode cX10_act 79 = .ok (.iload 5, 2) := by decide +kernel
theorem dX10_act_81 : decode cX10_act 81 = .ok (.ireturn, 1) := by decide +kernel
theorem dX11_init_0 : decode cX11_init 0 = .ok (.aload_n 0, 1) := by decide +kernel
theorem dX11_init_1 : decode cX11_init 1 = .ok (.invokespecial 1, 3) := by decide +kernel
theorem dX11_init_4 : decode cX11_init 4 = .ok (.aload_n 0, 1) := by decide +kernel
theorem dX11_init_5 : decode cX11_init 5 = .ok (.bipush 7, 2) := by decide +kernel
theorem dX11_init_7 : decode cX11_init 7 = .ok (.newarray .int, 2) := by decide +kernel
theorem dX11_init_9 : decode cX11_init 9 = .ok (.putfield 7, 3) := by decide +kernel
theorem dX11_init_12 : decode cX11_init 12 = .ok (.aload_n 0, 1) := by decide +kernel
theorem dX11_init_13 : decode cX11_init 13 = .ok (.sipush 5510, 3) := by decide +kernel
theorem dX11_init_16 : decode cX11_init 16 = .ok (.newarray .int, 2) := by decide +kernel
theorem dX11_init_18 : decode cX11_init 18 = .ok (.putfield 13, 3) := by decide +kernel
theorem dX11_init_21 : decode cX11_init 21 = .ok (.aload_n 0, 1) := by decide +kernel
theorem dX11_init_22 : decode cX11_init 22 = .ok (.sipush 11020, 3) := by decide +kernel
theorem dX11_init_25 : decode cX11_init 25 = .ok (.newarray .int, 2) := by decide +kernel
theorem dX11_init_27 : decode cX11_init 27 = .ok (.putfield 16, 3) := by decide +kernel
theorem dX11_init_30 : decode cX11_init 30 = .ok (.aload_n 0, 1) := by decide +kernel
theorem dX11_init_31 : decode cX11_init 31 = .ok (.iconst 2, 1) := by decide +kernel
theorem dX11_init_32 : decode cX11_init 32 = .ok (.newarray .boolean, 2) := by decide +kernel
theorem dX11_init_34 : decode cX11_init 34 = .ok (.putfield 19, 3) := by decide +kernel
theorem dX11_init_37 : decode cX11_init 37 = .ok (.aload_n 0, 1) := by decide +kernel
theorem dX11_init_38 : decode cX11_init 38 = .ok (.sipush 558, 3) := by decide +kernel
theorem dX11_init_41 : decode cX11_init 41 = .ok (.newarray .int, 2) := by decide +kernel
theorem dX11_init_43 : decode cX11_init 43 = .ok (.putfield 23, 3) := by decide +kernel
theorem dX11_init_46 : decode cX11_init 46 = .ok (.aload_n 0, 1) := by decide +kernel
theorem dX11_init_47 : decode cX11_init 47 = .ok (.bipush 16, 2) := by decide +kernel
theorem dX11_init_49 : decode cX11_init 49 = .ok (.newarray .int, 2) := by decide +kernel
theorem dX11_init_51 : decode cX11_init 51 = .ok (.putfield 26, 3) := by decide +kernel
theorem dX11_init_54 : decode cX11_init 54 = .ok (.aload_n 0, 1) := by decide +kernel
theorem dX11_init_55 : decode cX11_init 55 = .ok (.sipush 496, 3) := by decide +kernel
theorem dX11_init_58 : decode cX11_init 58 = .ok (.newarray .int, 2) := by decide +kernel
theorem dX11_init_60 : decode cX11_init 60 = .ok (.putfield 29, 3) := by decide +kernel
theorem dX11_init_63 : decode cX11_init 63 = .ok (.aload_n 0, 1) := by decide +kernel
theorem dX11_init_64 : decode cX11_init 64 = .ok (.bipush 16, 2) := by decide +kernel
theorem dX11_init_66 : decode cX11_init 66 = .ok (.newarray .int, 2) := by decide +kernel
theorem dX11_init_68 : decode cX11_init 68 = .ok (.putfield 32, 3) := by decide +kernel
theorem dX11_init_71 : decode cX11_init 71 = .ok (.aload_n 0, 1) := by decide +kernel
theorem dX11_init_72 : decode cX11_init 72 = .ok (.sipush 400, 3) := by decide +kernel
theorem dX11_init_75 : decode cX11_init 75 = .ok (.newarray .int, 2) := by decide +kernel
theorem dX11_init_77 : decode cX11_init 77 = .ok (.putfield 35, 3) := by decide +kernel
theorem dX11_init_80 : decode cX11_init 80 = .ok (.aload_n 0, 1) := by decide +kernel
theorem dX11_init_81 : decode cX11_init 81 = .ok (.iconst (-1), 1) := by decide +kernel
theorem dX11_init_82 : decode cX11_init 82 = .ok (.putfield 38, 3) := by decide +kernel
theorem dX11_init_85 : decode cX11_init 85 = .ok (.aload_n 0, 1) := by decide +kernel
theorem dX11_init_86 : decode cX11_init 86 = .ok (.bipush 96, 2) := by decide +kernel
theorem dX11_init_88 : decode cX11_init 88 = .ok (.newarray .int, 2) := by decide +kernel
theorem dX11_init_90 : decode cX11_init 90 = .ok (.putfield 42, 3) := by decide +kernel
theorem dX11_init_93 : decode cX11_init 93 = .ok (.aload_n 0, 1) := by decide +kernel
theorem dX11_init_94 : decode cX11_init 94 = .ok (.sipush 400, 3) := by decide +kernel
theorem dX11_init_97 : decode cX11_init 97 = .ok (.newarray .int, 2) := by decide +kernel
theorem dX11_init_99 : decode cX11_init 99 = .ok (.putfield 45, 3) := by decide +kernel
theorem dX11_init_102 : decode cX11_init 102 = .ok (.aload_n 0, 1) := by decide +kernel
theorem dX11_init_103 : decode cX11_init 103 = .ok (.sipush 400, 3) := by decide +kernel
theorem dX11_init_106 : decode cX11_init 106 = .ok (.newarray .int, 2) := by decide +kernel
theorem dX11_init_108 : decode cX11_init 108 = .ok (.putfield 48, 3) := by decide +kernel
theorem dX11_init_111 : decode cX11_init 111 = .ok (.aload_n 0, 1) := by decide +kernel
theorem dX11_init_112 : decode cX11_init 112 = .ok (.sipush 400, 3) := by decide +kernel
theorem dX11_init_115 : decode cX11_init 115 = .ok (.newarray .int, 2) := by decide +kernel
theorem dX11_init_117 : decode cX11_init 117 = .ok (.putfield 51, 3) := by decide +kernel
theorem dX11_init_120 : decode cX11_init 120 = .ok (.aload_n 0, 1) := by decide +kernel
theorem dX11_init_121 : decode cX11_init 121 = .ok (.sipush 400, 3) := by decide +kernel
theorem dX11_init_124 : decode cX11_init 124 = .ok (.newarray .int, 2) := by decide +kernel
theorem dX11_init_126 : decode cX11_init 126 = .ok (.putfield 54, 3) := by decide +kernel
theorem dX11_init_129 : decode cX11_init 129 = .ok (.aload_n 0, 1) := by decide +kernel
theorem dX11_init_130 : decode cX11_init 130 = .ok (.bipush 9, 2) := by decide +kernel
theorem dX11_init_132 : decode cX11_init 132 = .ok (.newarray .long, 2) := by decide +kernel
theorem dX11_init_134 : decode cX11_init 134 = .ok (.dup, 1) := by decide +kernel
theorem dX11_init_135 : decode cX11_init 135 = .ok (.iconst 0, 1) := by decide +kernel
theorem dX11_init_136 : decode cX11_init 136 = .ok (.ldc2_w 57, 3) := by decide +kernel
theorem dX11_init_139 : decode cX11_init 139 = .ok (.lastore, 1) := by decide +kernel
theorem dX11_init_140 : decode cX11_init 140 = .ok (.dup, 1) := by decide +kernel
theorem dX11_init_141 : decode cX11_init 141 = .ok (.iconst 1, 1) := by decide +kernel
theorem dX11_init_142 : decode cX11_init 142 = .ok (.ldc2_w 59, 3) := by decide +kernel
theorem dX11_init_145 : decode cX11_init 145 = .ok (.lastore, 1) := by decide +kernel
theorem dX11_init_146 : decode cX11_init 146 = .ok (.dup, 1) := by decide +kernel
theorem dX11_init_147 : decode cX11_init 147 = .ok (.iconst 2, 1) := by decide +kernel
theorem dX11_init_148 : decode cX11_init 148 = .ok (.ldc2_w 61, 3) := by decide +kernel
theorem dX11_init_151 : decode cX11_init 151 = .ok (.lastore, 1) := by decide +kernel
theorem dX11_init_152 : decode cX11_init 152 = .ok (.dup, 1) := by decide +kernel
theorem dX11_init_153 : decode cX11_init 153 = .ok (.iconst 3, 1) := by decide +kernel
theorem dX11_init_154 : decode cX11_init 154 = .ok (.ldc2_w 63, 3) := by decide +kernel
theorem dX11_init_157 : decode cX11_init 157 = .ok (.lastore, 1) := by decide +kernel
theorem dX11_init_158 : decode cX11_init 158 = .ok (.dup, 1) := by decide +kernel
theorem dX11_init_159 : decode cX11_init 159 = .ok (.iconst 4, 1) := by decide +kernel
theorem dX11_init_160 : decode cX11_init 160 = .ok (.ldc2_w 65, 3) := by decide +kernel
theorem dX11_init_163 : decode cX11_init 163 = .ok (.lastore, 1) := by decide +kernel
theorem dX11_init_164 : decode cX11_init 164 = .ok (.dup, 1) := by decide +kernel
theorem dX11_init_165 : decode cX11_init 165 = .ok (.iconst 5, 1) := by decide +kernel
theorem dX11_init_166 : decode cX11_init 166 = .ok (.ldc2_w 67, 3) := by decide +kernel
theorem dX11_init_169 : decode cX11_init 169 = .ok (.lastore, 1) := by decide +kernel
theorem dX11_init_170 : decode cX11_init 170 = .ok (.dup, 1) := by decide +kernel
theorem dX11_init_171 : decode cX11_init 171 = .ok (.bipush 6, 2) := by decide +kernel
theorem dX11_init_173 : decode cX11_init 173 = .ok (.ldc2_w 69, 3) := by decide +kernel
theorem dX11_init_176 : decode cX11_init 176 = .ok (.lastore, 1) := by decide +kernel
theorem dX11_init_177 : decode cX11_init 177 = .ok (.dup, 1) := by decide +kernel
theorem dX11_init_178 : decode cX11_init 178 = .ok (.bipush 7, 2) := by decide +kernel
theorem dX11_init_180 : decode cX11_init 180 = .ok (.ldc2_w 71, 3) := by decide +kernel
theorem dX11_init_183 : decode cX11_init 183 = .ok (.lastore, 1) := by decide +kernel
theorem dX11_init_184 : decode cX11_init 184 = .ok (.dup, 1) := by decide +kernel
theorem dX11_init_185 : decode cX11_init 185 = .ok (.bipush 8, 2) := by decide +kernel
theorem dX11_init_187 : decode cX11_init 187 = .ok (.ldc2_w 73, 3) := by decide +kernel
theorem dX11_init_190 : decode cX11_init 190 = .ok (.lastore, 1) := by decide +kernel
theorem dX11_init_191 : decode cX11_init 191 = .ok (.putfield 75, 3) := by decide +kernel
theorem dX11_init_194 : decode cX11_init 194 = .ok (.aload_n 0, 1) := by decide +kernel
theorem dX11_init_195 : decode cX11_init 195 = .ok (.bipush 6, 2) := by decide +kernel
theorem dX11_init_197 : decode cX11_init 197 = .ok (.newarray .long, 2) := by decide +kernel
theorem dX11_init_199 : decode cX11_init 199 = .ok (.dup, 1) := by decide +kernel
theorem dX11_init_200 : decode cX11_init 200 = .ok (.iconst 0, 1) := by decide +kernel
theorem dX11_init_201 : decode cX11_init 201 = .ok (.ldc2_w 71, 3) := by decide +kernel
theorem dX11_init_204 : decode cX11_init 204 = .ok (.lastore, 1) := by decide +kernel
theorem dX11_init_205 : decode cX11_init 205 = .ok (.dup, 1) := by decide +kernel
theorem dX11_init_206 : decode cX11_init 206 = .ok (.iconst 1, 1) := by decide +kernel
theorem dX11_init_207 : decode cX11_init 207 = .ok (.ldc2_w 79, 3) := by decide +kernel
theorem dX11_init_210 : decode cX11_init 210 = .ok (.lastore, 1) := by decide +kernel
theorem dX11_init_211 : decode cX11_init 211 = .ok (.dup, 1) := by decide +kernel
theorem dX11_init_212 : decode cX11_init 212 = .ok (.iconst 2, 1) := by decide +kernel
theorem dX11_init_213 : decode cX11_init 213 = .ok (.ldc2_w 81, 3) := by decide +kernel
theorem dX11_init_216 : decode cX11_init 216 = .ok (.lastore, 1) := by decide +kernel
theorem dX11_init_217 : decode cX11_init 217 = .ok (.dup, 1) := by decide +kernel
theorem dX11_init_218 : decode cX11_init 218 = .ok (.iconst 3, 1) := by decide +kernel
theorem dX11_init_219 : decode cX11_init 219 = .ok (.ldc2_w 83, 3) := by decide +kernel
theorem dX11_init_222 : decode cX11_init 222 = .ok (.lastore, 1) := by decide +kernel
theorem dX11_init_223 : decode cX11_init 223 = .ok (.dup, 1) := by decide +kernel
theorem dX11_init_224 : decode cX11_init 224 = .ok (.iconst 4, 1) := by decide +kernel
theorem dX11_init_225 : decode cX11_init 225 = .ok (.ldc2_w 63, 3) := by decide +kernel
theorem dX11_init_228 : decode cX11_init 228 = .ok (.lastore, 1) := by decide +kernel
theorem dX11_init_229 : decode cX11_init 229 = .ok (.dup, 1) := by decide +kernel
theorem dX11_init_230 : decode cX11_init 230 = .ok (.iconst 5, 1) := by decide +kernel
theorem dX11_init_231 : decode cX11_init 231 = .ok (.ldc2_w 65, 3) := by decide +kernel
theorem dX11_init_234 : decode cX11_init 234 = .ok (.lastore, 1) := by decide +kernel
theorem dX11_init_235 : decode cX11_init 235 = .ok (.putfield 85, 3) := by decide +kernel
theorem dX11_init_238 : decode cX11_init 238 = .ok (.aload_n 0, 1) := by decide +kernel
theorem dX11_init_239 : decode cX11_init 239 = .ok (.iconst 4, 1) := by decide +kernel
theorem dX11_init_240 : decode cX11_init 240 = .ok (.newarray .long, 2) := by decide +kernel
theorem dX11_init_242 : decode cX11_init 242 = .ok (.dup, 1) := by decide +kernel
theorem dX11_init_243 : decode cX11_init 243 = .ok (.iconst 0, 1) := by decide +kernel
theorem dX11_init_244 : decode cX11_init 244 = .ok (.ldc2_w 88, 3) := by decide +kernel
theorem dX11_init_247 : decode cX11_init 247 = .ok (.lastore, 1) := by decide +kernel
theorem dX11_init_248 : decode cX11_init 248 = .ok (.dup, 1) := by decide +kernel
theorem dX11_init_249 : decode cX11_init 249 = .ok (.iconst 1, 1) := by decide +kernel
theorem dX11_init_250 : decode cX11_init 250 = .ok (.ldc2_w 90, 3) := by decide +kernel
theorem dX11_init_253 : decode cX11_init 253 = .ok (.lastore, 1) := by decide +kernel
theorem dX11_init_254 : decode cX11_init 254 = .ok (.dup, 1) := by decide +kernel
theorem dX11_init_255 : decode cX11_init 255 = .ok (.iconst 2, 1) := by decide +kernel
theorem dX11_init_256 : decode cX11_init 256 = .ok (.ldc2_w 92, 3) := by decide +kernel
theorem dX11_init_259 : decode cX11_init 259 = .ok (.lastore, 1) := by decide +kernel
theorem dX11_init_260 : decode cX11_init 260 = .ok (.dup, 1) := by decide +kernel
theorem dX11_init_261 : decode cX11_init 261 = .ok (.iconst 3, 1) := by decide +kernel
theorem dX11_init_262 : decode cX11_init 262 = .ok (.ldc2_w 94, 3) := by decide +kernel
theorem dX11_init_265 : decode cX11_init 265 = .ok (.lastore, 1) := by decide +kernel
theorem dX11_init_266 : decode cX11_init 266 = .ok (.putfield 96, 3) := by decide +kernel
theorem dX11_init_269 : decode cX11_init 269 = .ok (.aload_n 0, 1) := by decide +kernel
theorem dX11_init_270 : decode cX11_init 270 = .ok (.bipush 13, 2) := by decide +kernel
theorem dX11_init_272 : decode cX11_init 272 = .ok (.newarray .long, 2) := by decide +kernel
theorem dX11_init_274 : decode cX11_init 274 = .ok (.putfield 99, 3) := by decide +kernel
theorem dX11_init_277 : decode cX11_init 277 = .ok (.aload_n 0, 1) := by decide +kernel
theorem dX11_init_278 : decode cX11_init 278 = .ok (.bipush 13, 2) := by decide +kernel
theorem dX11_init_280 : decode cX11_init 280 = .ok (.newarray .long, 2) := by decide +kernel
theorem dX11_init_282 : decode cX11_init 282 = .ok (.putfield 102, 3) := by decide +kernel
theorem dX11_init_285 : decode cX11_init 285 = .ok (.aload_n 0, 1) := by decide +kernel
theorem dX11_init_286 : decode cX11_init 286 = .ok (.sipush 400, 3) := by decide +kernel
theorem dX11_init_289 : decode cX11_init 289 = .ok (.newarray .long, 2) := by decide +kernel
theorem dX11_init_291 : decode cX11_init 291 = .ok (.putfield 105, 3) := by decide +kernel
theorem dX11_init_294 : decode cX11_init 294 = .ok (.aload_n 0, 1) := by decide +kernel
theorem dX11_init_295 : decode cX11_init 295 = .ok (.iconst 4, 1) := by decide +kernel
theorem dX11_init_296 : decode cX11_init 296 = .ok (.newarray .int, 2) := by decide +kernel
theorem dX11_init_298 : decode cX11_init 298 = .ok (.putfield 108, 3) := by decide +kernel
theorem dX11_init_301 : decode cX11_init 301 = .ok (.aload_n 0, 1) := by decide +kernel
theorem dX11_init_302 : decode cX11_init 302 = .ok (.bipush 8, 2) := by decide +kernel
theorem dX11_init_304 : decode cX11_init 304 = .ok (.newarray .int, 2) := by decide +kernel
theorem dX11_init_306 : decode cX11_init 306 = .ok (.putfield 111, 3) := by decide +kernel
theorem dX11_init_309 : decode cX11_init 309 = .ok (.aload_n 0, 1) := by decide +kernel
theorem dX11_init_310 : decode cX11_init 310 = .ok (.sipush 9216, 3) := by decide +kernel
theorem dX11_init_313 : decode cX11_init 313 = .ok (.newarray .int, 2) := by decide +kernel
theorem dX11_init_315 : decode cX11_init 315 = .ok (.putfield 114, 3) := by decide +kernel
theorem dX11_init_318 : decode cX11_init 318 = .ok (.aload_n 0, 1) := by decide +kernel
theorem dX11_init_319 : decode cX11_init 319 = .ok (.bipush 40, 2) := by decide +kernel
theorem dX11_init_321 : decode cX11_init 321 = .ok (.newarray .boolean, 2) := by decide +kernel
theorem dX11_init_323 : decode cX11_init 323 = .ok (.putfield 117, 3) := by decide +kernel
theorem dX11_init_326 : decode cX11_init 326 = .ok (.aload_n 0, 1) := by decide +kernel
theorem dX11_init_327 : decode cX11_init 327 = .ok (.bipush 21, 2) := by decide +kernel
theorem dX11_init_329 : decode cX11_init 329 = .ok (.newarray .long, 2) := by decide +kernel
theorem dX11_init_331 : decode cX11_init 331 = .ok (.putfield 120, 3) := by decide +kernel
theorem dX11_init_334 : decode cX11_init 334 = .ok (.aload_n 0, 1) := by decide +kernel
theorem dX11_init_335 : decode cX11_init 335 = .ok (.iconst 4, 1) := by decide +kernel
theorem dX11_init_336 : decode cX11_init 336 = .ok (.newarray .long, 2) := by decide +kernel
theorem dX11_init_338 : decode cX11_init 338 = .ok (.dup, 1) := by decide +kernel
theorem dX11_init_339 : decode cX11_init 339 = .ok (.iconst 0, 1) := by decide +kernel
theorem dX11_init_340 : decode cX11_init 340 = .ok (.ldc2_w 123, 3) := by decide +kernel
theorem dX11_init_343 : decode cX11_init 343 = .ok (.lastore, 1) := by decide +kernel
theorem dX11_init_344 : decode cX11_init 344 = .ok (.dup, 1) := by decide +kernel
theorem dX11_init_345 : decode cX11_init 345 = .ok (.iconst 1, 1) := by decide +kernel
theorem dX11_init_346 : decode cX11_init 346 = .ok (.ldc2_w 125, 3) := by decide +kernel
theorem dX11_init_349 : decode cX11_init 349 = .ok (.lastore, 1) := by decide +kernel
theorem dX11_init_350 : decode cX11_init 350 = .ok (.dup, 1) := by decide +kernel
theorem dX11_init_351 : decode cX11_init 351 = .ok (.iconst 2, 1) := by decide +kernel
theorem dX11_init_352 : decode cX11_init 352 = .ok (.ldc2_w 127, 3) := by decide +kernel
theorem dX11_init_355 : decode cX11_init 355 = .ok (.lastore, 1) := by decide +kernel
theorem dX11_init_356 : decode cX11_init 356 = .ok (.dup, 1) := by decide +kernel
theorem dX11_init_357 : decode cX11_init 357 = .ok (.iconst 3, 1) := by decide +kernel
theorem dX11_init_358 : decode cX11_init 358 = .ok (.ldc2_w 129, 3) := by decide +kernel
theorem dX11_init_361 : decode cX11_init 361 = .ok (.lastore, 1) := by decide +kernel
theorem dX11_init_362 : decode cX11_init 362 = .ok (.putfield 131, 3) := by decide +kernel
theorem dX11_init_365 : decode cX11_init 365 = .ok (.aload_n 0, 1) := by decide +kernel
theorem dX11_init_366 : decode cX11_init 366 = .ok (.bipush 96, 2) := by decide +kernel
theorem dX11_init_368 : decode cX11_init 368 = .ok (.newarray .int, 2) := by decide +kernel
theorem dX11_init_370 : decode cX11_init 370 = .ok (.putfield 134, 3) := by decide +kernel
theorem dX11_init_373 : decode cX11_init 373 = .ok (.aload_n 0, 1) := by decide +kernel
theorem dX11_init_374 : decode cX11_init 374 = .ok (.iconst (-1), 1) := by decide +kernel
theorem dX11_init_375 : decode cX11_init 375 = .ok (.putfield 137, 3) := by decide +kernel
theorem dX11_init_378 : decode cX11_init 378 = .ok (.aload_n 0, 1) := by decide +kernel
theorem dX11_init_379 : decode cX11_init 379 = .ok (.bipush 31, 2) := by decide +kernel
theorem dX11_init_381 : decode cX11_init 381 = .ok (.newarray .int, 2) := by decide +kernel
theorem dX11_init_383 : decode cX11_init 383 = .ok (.putfield 140, 3) := by decide +kernel
theorem dX11_init_386 : decode cX11_init 386 = .ok (.aload_n 0, 1) := by decide +kernel
theorem dX11_init_387 : decode cX11_init 387 = .ok (.iconst (-1), 1) := by decide +kernel
theorem dX11_init_388 : decode cX11_init 388 = .ok (.putfield 143, 3) := by decide +kernel
theorem dX11_init_391 : decode cX11_init 391 = .ok (.aload_n 0, 1) := by decide +kernel
theorem dX11_init_392 : decode cX11_init 392 = .ok (.iconst (-1), 1) := by decide +kernel
theorem dX11_init_393 : decode cX11_init 393 = .ok (.putfield 146, 3) := by decide +kernel
theorem dX11_init_396 : decode cX11_init 396 = .ok (.aload_n 0, 1) := by decide +kernel
theorem dX11_init_397 : decode cX11_init 397 = .ok (.getfield 13, 3) := by decide +kernel
theorem dX11_init_400 : decode cX11_init 400 = .ok (.iconst 5, 1) := by decide +kernel
theorem dX11_init_401 : decode cX11_init 401 = .ok (.iconst (-1), 1) := by decide +kernel
theorem dX11_init_402 : decode cX11_init 402 = .ok (.iastore, 1) := by decide +kernel
theorem dX11_init_403 : decode cX11_init 403 = .ok (.aload_n 0, 1) := by decide +kernel
theorem dX11_init_404 : decode cX11_init 404 = .ok (.getfield 13, 3) := by decide +kernel
theorem dX11_init_407 : decode cX11_init 407 = .ok (.bipush 7, 2) := by decide +kernel
theorem dX11_init_409 : decode cX11_init 409 = .ok (.iconst 2, 1) := by decide +kernel
theorem dX11_init_410 : decode cX11_init 410 = .ok (.iastore, 1) := by decide +kernel
theorem dX11_init_411 : decode cX11_init 411 = .ok (.return_, 1) := by decide +kernel
theorem dX11_in_0 : decode cX11_in 0 = .ok (.lload_n 0, 1) := by decide +kernel
theorem dX11_in_1 : decode cX11_in 1 = .ok (.lload_n 2, 1) := by decide +kernel
theorem dX11_in_2 : decode cX11_in 2 = .ok (.lcmp, 1) := by decide +kernel
theorem dX11_in_3 : decode cX11_in 3 = .ok (.ifCond .lt 14, 3) := by decide +kernel
theorem dX11_in_6 : decode cX11_in 6 = .ok (.lload_n 0, 1) := by decide +kernel
theorem dX11_in_7 : decode cX11_in 7 = .ok (.lload 4, 2) := by decide +kernel
theorem dX11_in_9 : decode cX11_in 9 = .ok (.lcmp, 1) := by decide +kernel
theorem dX11_in_10 : decode cX11_in 10 = .ok (.ifCond .gt 7, 3) := by decide +kernel
theorem dX11_in_13 : decode cX11_in 13 = .ok (.iconst 1, 1) := by decide +kernel
theorem dX11_in_14 : decode cX11_in 14 = .ok (.goto 4, 3) := by decide +kernel
theorem dX11_in_17 : decode cX11_in 17 = .ok (.iconst 0, 1) := by decide +kernel
theorem dX11_in_18 : decode cX11_in 18 = .ok (.ireturn, 1) := by decide +kernel
theorem dX11_is_0 : decode cX11_is 0 = .ok (.iload_n 0, 1) := by decide +kernel
theorem dX11_is_1 : decode cX11_is 1 = .ok (.iload_n 1, 1) := by decide +kernel
theorem dX11_is_2 : decode cX11_is 2 = .ok (.ishr, 1) := by decide +kernel
theorem dX11_is_3 : decode cX11_is 3 = .ok (.iconst 1, 1) := by decide +kernel
theorem dX11_is_4 : decode cX11_is 4 = .ok (.iand, 1) := by decide +kernel
theorem dX11_is_5 : decode cX11_is 5 = .ok (.iconst 1, 1) := by decide +kernel
theorem dX11_is_6 : decode cX11_is 6 = .ok (.if_icmp .ne 7, 3) := by decide +kernel
theorem dX11_is_9 : decode cX11_is 9 = .ok (.iconst 1, 1) := by decide +kernel
theorem dX11_is_10 : decode cX11_is 10 = .ok (.goto 4, 3) := by decide +kernel
theorem dX11_is_13 : decode cX11_is 13 = .ok (.iconst 0, 1) := by decide +kernel
theorem dX11_is_14 : decode cX11_is 14 = .ok (.ireturn, 1) := by decide +kernel
theorem dX11_ones_0 : decode cX11_ones 0 = .ok (.iconst 0, 1) := by decide +kernel
theorem dX11_ones_1 : decode cX11_ones 1 = .ok (.istore_n 1, 1) := by decide +kernel
theorem dX11_ones_2 : decode cX11_ones 2 = .ok (.iconst 0, 1) := by decide +kernel
theorem dX11_ones_3 : decode cX11_ones 3 = .ok (.istore_n 2, 1) := by decide +kernel
theorem dX11_ones_4 : decode cX11_ones 4 = .ok (.iload_n 2, 1) := by decide +kernel
theorem dX11_ones_5 : decode cX11_ones 5 = .ok (.bipush 8, 2) := by decide +kernel
theorem dX11_ones_7 : decode cX11_ones 7 = .ok (.if_icmp .ge 17, 3) := by decide +kernel
theorem dX11_ones_10 : decode cX11_ones 10 = .ok (.iload_n 1, 1) := by decide +kernel
theorem dX11_ones_11 : decode cX11_ones 11 = .ok (.iload_n 0, 1) := by decide +kernel
theorem dX11_ones_12 : decode cX11_ones 12 = .ok (.iload_n 2, 1) := by decide +kernel
theorem dX11_ones_13 : decode cX11_ones 13 = .ok (.ishr, 1) := by decide +kernel
theorem dX11_ones_14 : decode cX11_ones 14 = .ok (.iconst 1, 1) := by decide +kernel
theorem dX11_ones_15 : decode cX11_ones 15 = .ok (.iand, 1) := by decide +kernel
theorem dX11_ones_16 : decode cX11_ones 16 = .ok (.iadd, 1) := by decide +kernel
theorem dX11_ones_17 : decode cX11_ones 17 = .ok (.istore_n 1, 1) := by decide +kernel
theorem dX11_ones_18 : decode cX11_ones 18 = .ok (.iinc 2 1, 3) := by decide +kernel
theorem dX11_ones_21 : decode cX11_ones 21 = .ok (.goto (-17), 3) := by decide +kernel
theorem dX11_ones_24 : decode cX11_ones 24 = .ok (.iload_n 1, 1) := by decide +kernel
theorem dX11_ones_25 : decode cX11_ones 25 = .ok (.ireturn, 1) := by decide +kernel
theorem dX11_within_0 : decode cX11_within 0 = .ok (.lload_n 0, 1) := by decide +kernel
theorem dX11_within_1 : decode cX11_within 1 = .ok (.iload_n 2, 1) := by decide +kernel
theorem dX11_within_2 : decode cX11_within 2 = .ok (.i2l, 1) := by decide +kernel
theorem dX11_within_3 : decode cX11_within 3 = .ok (.lcmp, 1) := by decide +kernel
theorem dX11_within_4 : decode cX11_within 4 = .ok (.ifCond .ge 7, 3) := by decide +kernel
theorem dX11_within_7 : decode cX11_within 7 = .ok (.iload_n 2, 1) := by decide +kernel
theorem dX11_within_8 : decode cX11_within 8 = .ok (.goto 16, 3) := by decide +kernel
theorem dX11_within_11 : decode cX11_within 11 = .ok (.lload_n 0, 1) := by decide +kernel
theorem dX11_within_12 : decode cX11_within 12 = .ok (.iload_n 3, 1) := by decide +kernel
theorem dX11_within_13 : decode cX11_within 13 = .ok (.i2l, 1) := by decide +kernel
theorem dX11_within_14 : decode cX11_within 14 = .ok (.lcmp, 1) := by decide +kernel
theorem dX11_within_15 : decode cX11_within 15 = .ok (.ifCond .le 7, 3) := by decide +kernel
theorem dX11_within_18 : decode cX11_within 18 = .ok (.iload_n 3, 1) := by decide +kernel
theorem dX11_within_19 : decode cX11_within 19 = .ok (.goto 5, 3) := by decide +kernel
theorem dX11_within_22 : decode cX11_within 22 = .ok (.lload_n 0, 1) := by decide +kernel
theorem dX11_within_23 : decode cX11_within 23 = .ok (.l2i, 1) := by decide +kernel
theorem dX11_within_24 : decode cX11_within 24 = .ok (.ireturn, 1) := by decide +kernel
theorem dX11_tell_0 : decode cX11_tell 0 = .ok (.aload_n 0, 1) := by decide +kernel
theorem dX11_tell_1 : decode cX11_tell 1 = .ok (.iload_n 1, 1) := by decide +kernel
theorem dX11_tell_2 : decode cX11_tell 2 = .ok (.ifCond .ge 7, 3) := by decide +kernel
theorem dX11_tell_5 : decode cX11_tell 5 = .ok (.iload_n 1, 1) := by decide +kernel
theorem dX11_tell_6 : decode cX11_tell 6 = .ok (.goto 4, 3) := by decide +kernel
theorem dX11_tell_9 : decode cX11_tell 9 = .ok (.iconst 0, 1) := by decide +kernel
theorem dX11_tell_10 : decode cX11_tell 10 = .ok (.putfield 152, 3) := by decide +kernel
theorem dX11_tell_13 : decode cX11_tell 13 = .ok (.iload_n 1, 1) := by decide +kernel
theorem dX11_tell_14 : decode cX11_tell 14 = .ok (.ifCond .ge 14, 3) := by decide +kernel
theorem dX11_tell_17 : decode cX11_tell 17 = .ok (.aload_n 0, 1) := by decide +kernel
theorem dX11_tell_18 : decode cX11_tell 18 = .ok (.getfield 7, 3) := by decide +kernel
theorem dX11_tell_21 : decode cX11_tell 21 = .ok (.iload_n 1, 1) := by decide +kernel
theorem dX11_tell_22 : decode cX11_tell 22 = .ok (.ineg, 1) := by decide +kernel
theorem dX11_tell_23 : decode cX11_tell 23 = .ok (.dup2, 1) := by decide +kernel
theorem dX11_tell_24 : decode cX11_tell 24 = .ok (.iaload, 1) := by decide +kernel
theorem dX11_tell_25 : decode cX11_tell 25 = .ok (.iconst 1, 1) := by decide +kernel
theorem dX11_tell_26 : decode cX11_tell 26 = .ok (.iadd, 1) := by decide +kernel
theorem dX11_tell_27 : decode cX11_tell 27 = .ok (.iastore, 1) := by decide +kernel
theorem dX11_tell_28 : decode cX11_tell 28 = .ok (.iload_n 1, 1) := by decide +kernel
theorem dX11_tell_29 : decode cX11_tell 29 = .ok (.ireturn, 1) := by decide +kernel
theorem dX11_change_0 : decode cX11_change 0 = .ok (.aload_n 0, 1) := by decide +kernel
theorem dX11_change_1 : decode cX11_change 1 = .ok (.getfield 13, 3) := by decide +kernel
theorem dX11_change_4 : decode cX11_change 4 = .ok (.iload_n 1, 1) := by decide +kernel
theorem dX11_change_5 : decode cX11_change 5 = .ok (.iaload, 1) := by decide +kernel
theorem dX11_change_6 : decode cX11_change 6 = .ok (.istore_n 3, 1) := by decide +kernel
theorem dX11_change_7 : decode cX11_change 7 = .ok (.aload_n 0, 1) := by decide +kernel
theorem dX11_change_8 : decode cX11_change 8 = .ok (.getfield 13, 3) := by decide +kernel
theorem dX11_change_11 : decode cX11_change 11 = .ok (.iload_n 1, 1) := by decide +kernel
theorem dX11_change_12 : decode cX11_change 12 = .ok (.iload_n 2, 1) := by decide +kernel
theorem dX11_change_13 : decode cX11_change 13 = .ok (.iastore, 1) := by decide +kernel
theorem dX11_change_14 : decode cX11_change 14 = .ok (.aload_n 0, 1) := by decide +kernel
theorem dX11_change_15 : decode cX11_change 15 = .ok (.iconst 0, 1) := by decide +kernel
theorem dX11_change_16 : decode cX11_change 16 = .ok (.putfield 152, 3) := by decide +kernel
theorem dX11_change_19 : decode cX11_change 19 = .ok (.iload_n 3, 1) := by decide +kernel
theorem dX11_change_20 : decode cX11_change 20 = .ok (.ireturn, 1) := by decide +kernel
theorem dX11_settled_0 : decode cX11_settled 0 = .ok (.aload_n 0, 1) := by decide +kernel
theorem dX11_settled_1 : decode cX11_settled 1 = .ok (.iload_n 1, 1) := by decide +kernel
theorem dX11_settled_2 : decode cX11_settled 2 = .ok (.ifCond .ge 10, 3) := by decide +kernel
theorem dX11_settled_5 : decode cX11_settled 5 = .ok (.aload_n 0, 1) := by decide +kernel
theorem dX11_settled_6 : decode cX11_settled 6 = .ok (.getfield 155, 3) := by decide +kernel
theorem dX11_settled_9 : decode cX11_settled 9 = .ok (.goto 4, 3) := by decide +kernel
theorem dX11_settled_12 : decode cX11_settled 12 = .ok (.iconst 0, 1) := by decide +kernel
theorem dX11_settled_13 : decode cX11_settled 13 = .ok (.putfield 155, 3) := by decide +kernel
theorem dX11_settled_16 : decode cX11_settled 16 = .ok (.aload_n 0, 1) := by decide +kernel
theorem dX11_settled_17 : decode cX11_settled 17 = .ok (.iload_n 1, 1) := by decide +kernel
theorem dX11_settled_18 : decode cX11_settled 18 = .ok (.invokevirtual 158, 3) := by decide +kernel
theorem dX11_settled_21 : decode cX11_settled 21 = .ok (.ireturn, 1) := by decide +kernel
theorem dX11_keepAll_0 : decode cX11_keepAll 0 = .ok (.iconst 0, 1) := by decide +kernel
theorem dX11_keepAll_1 : decode cX11_keepAll 1 = .ok (.istore_n 2, 1) := by decide +kernel
theorem dX11_keepAll_2 : decode cX11_keepAll 2 = .ok (.iload_n 2, 1) := by decide +kernel
theorem dX11_keepAll_3 : decode cX11_keepAll 3 = .ok (.bipush 31, 2) := by decide +kernel
theorem dX11_keepAll_5 : decode cX11_keepAll 5 = .ok (.if_icmp .ge 29, 3) := by decide +kernel
theorem dX11_keepAll_8 : decode cX11_keepAll 8 = .ok (.aload_n 0, 1) := by decide +kernel
theorem dX11_keepAll_9 : decode cX11_keepAll 9 = .ok (.getfield 23, 3) := by decide +kernel
theorem dX11_keepAll_12 : decode cX11_keepAll 12 = .ok (.bipush 31, 2) := by decide +kernel
theorem dX11_keepAll_14 : decode cX11_keepAll 14 = .ok (.iload_n 1, 1) := by decide +kernel
theorem dX11_keepAll_15 : decode cX11_keepAll 15 = .ok (.imul, 1) := by decide +kernel
theorem dX11_keepAll_16 : decode cX11_keepAll 16 = .ok (.iload_n 2, 1) := by decide +kernel
theorem dX11_keepAll_17 : decode cX11_keepAll 17 = .ok (.iadd, 1) := by decide +kernel
theorem dX11_keepAll_18 : decode cX11_keepAll 18 = .ok (.aload_n 0, 1) := by decide +kernel
theorem dX11_keepAll_19 : decode cX11_keepAll 19 = .ok (.getfield 13, 3) := by decide +kernel
theorem dX11_keepAll_22 : decode cX11_keepAll 22 = .ok (.bipush 6, 2) := by decide +kernel
theorem dX11_keepAll_24 : decode cX11_keepAll 24 = .ok (.iload_n 2, 1) := by decide +kernel
theorem dX11_keepAll_25 : decode cX11_keepAll 25 = .ok (.iadd, 1) := by decide +kernel
theorem dX11_keepAll_26 : decode cX11_keepAll 26 = .ok (.iaload, 1) := by decide +kernel
theorem dX11_keepAll_27 : decode cX11_keepAll 27 = .ok (.iastore, 1) := by decide +kernel
theorem dX11_keepAll_28 : decode cX11_keepAll 28 = .ok (.iinc 2 1, 3) := by decide +kernel
theorem dX11_keepAll_31 : decode cX11_keepAll 31 = .ok (.goto (-29), 3) := by decide +kernel
theorem dX11_keepAll_34 : decode cX11_keepAll 34 = .ok (.return_, 1) := by decide +kernel
theorem dX11_putBack_0 : decode cX11_putBack 0 = .ok (.iconst 0, 1) := by decide +kernel
theorem dX11_putBack_1 : decode cX11_putBack 1 = .ok (.istore_n 2, 1) := by decide +kernel
theorem dX11_putBack_2 : decode cX11_putBack 2 = .ok (.iload_n 2, 1) := by decide +kernel
theorem dX11_putBack_3 : decode cX11_putBack 3 = .ok (.bipush 31, 2) := by decide +kernel
theorem dX11_putBack_5 : decode cX11_putBack 5 = .ok (.if_icmp .ge 29, 3) := by decide +kernel
theorem dX11_putBack_8 : decode cX11_putBack 8 = .ok (.aload_n 0, 1) := by decide +kernel
theorem dX11_putBack_9 : decode cX11_putBack 9 = .ok (.getfield 13, 3) := by decide +kernel
theorem dX11_putBack_12 : decode cX11_putBack 12 = .ok (.bipush 6, 2) := by decide +kernel
theorem dX11_putBack_14 : decode cX11_putBack 14 = .ok (.iload_n 2, 1) := by decide +kernel
theorem dX11_putBack_15 : decode cX11_putBack 15 = .ok (.iadd, 1) := by decide +kernel
theorem dX11_putBack_16 : decode cX11_putBack 16 = .ok (.aload_n 0, 1) := by decide +kernel
theorem dX11_putBack_17 : decode cX11_putBack 17 = .ok (.getfield 23, 3) := by decide +kernel
theorem dX11_putBack_20 : decode cX11_putBack 20 = .ok (.bipush 31, 2) := by decide +kernel
theorem dX11_putBack_22 : decode cX11_putBack 22 = .ok (.iload_n 1, 1) := by decide +kernel
theorem dX11_putBack_23 : decode cX11_putBack 23 = .ok (.imul, 1) := by decide +kernel
theorem dX11_putBack_24 : decode cX11_putBack 24 = .ok (.iload_n 2, 1) := by decide +kernel
theorem dX11_putBack_25 : decode cX11_putBack 25 = .ok (.iadd, 1) := by decide +kernel
theorem dX11_putBack_26 : decode cX11_putBack 26 = .ok (.iaload, 1) := by decide +kernel
theorem dX11_putBack_27 : decode cX11_putBack 27 = .ok (.iastore, 1) := by decide +kernel
theorem dX11_putBack_28 : decode cX11_putBack 28 = .ok (.iinc 2 1, 3) := by decide +kernel
theorem dX11_putBack_31 : decode cX11_putBack 31 = .ok (.goto (-29), 3) := by decide +kernel
theorem dX11_putBack_34 : decode cX11_putBack 34 = .ok (.return_, 1) := by decide +kernel
theorem dX11_remember_0 : decode cX11_remember 0 = .ok (.aload_n 0, 1) := by decide +kernel
theorem dX11_remember_1 : decode cX11_remember 1 = .ok (.getfield 155, 3) := by decide +kernel
theorem dX11_remember_4 : decode cX11_remember 4 = .ok (.bipush 16, 2) := by decide +kernel
theorem dX11_remember_6 : decode cX11_remember 6 = .ok (.if_icmp .ne 71, 3) := by decide +kernel
theorem dX11_remember_9 : decode cX11_remember 9 = .ok (.iconst 0, 1) := by decide +kernel
theorem dX11_remember_10 : decode cX11_remember 10 = .ok (.istore_n 2, 1) := by decide +kernel
theorem dX11_remember_11 : decode cX11_remember 11 = .ok (.iload_n 2, 1) := by decide +kernel
theorem dX11_remember_12 : decode cX11_remember 12 = .ok (.sipush 465, 3) := by decide +kernel
theorem dX11_remember_15 : decode cX11_remember 15 = .ok (.if_icmp .ge 24, 3) := by decide +kernel
theorem dX11_remember_18 : decode cX11_remember 18 = .ok (.aload_n 0, 1) := by decide +kernel
theorem dX11_remember_19 : decode cX11_remember 19 = .ok (.getfield 23, 3) := by decide +kernel
theorem dX11_remember_22 : decode cX11_remember 22 = .ok (.iload_n 2, 1) := by decide +kernel
theorem dX11_remember_23 : decode cX11_remember 23 = .ok (.aload_n 0, 1) := by decide +kernel
theorem dX11_remember_24 : decode cX11_remember 24 = .ok (.getfield 23, 3) := by decide +kernel
theorem dX11_remember_27 : decode cX11_remember 27 = .ok (.iload_n 2, 1) := by decide +kernel
theorem dX11_remember_28 : decode cX11_remember 28 = .ok (.bipush 31, 2) := by decide +kernel
theorem dX11_remember_30 : decode cX11_remember 30 = .ok (.iadd, 1) := by decide +kernel
theorem dX11_remember_31 : decode cX11_remember 31 = .ok (.iaload, 1) := by decide +kernel
theorem dX11_remember_32 : decode cX11_remember 32 = .ok (.iastore, 1) := by decide +kernel
theorem dX11_remember_33 : decode cX11_remember 33 = .ok (.iinc 2 1, 3) := by decide +kernel
theorem dX11_remember_36 : decode cX11_remember 36 = .ok (.goto (-25), 3) := by decide +kernel
theorem dX11_remember_39 : decode cX11_remember 39 = .ok (.iconst 0, 1) := by decide +kernel
theorem dX11_remember_40 : decode cX11_remember 40 = .ok (.istore_n 2, 1) := by decide +kernel
theorem dX11_remember_41 : decode cX11_remember 41 = .ok (.iload_n 2, 1) := by decide +kernel
theorem dX11_remember_42 : decode cX11_remember 42 = .ok (.bipush 15, 2) := by decide +kernel
theorem dX11_remember_44 : decode cX11_remember 44 = .ok (.if_icmp .ge 23, 3) := by decide +kernel
theorem dX11_remember_47 : decode cX11_remember 47 = .ok (.aload_n 0, 1) := by decide +kernel
theorem dX11_remember_48 : decode cX11_remember 48 = .ok (.getfield 26, 3) := by decide +kernel
theorem dX11_remember_51 : decode cX11_remember 51 = .ok (.iload_n 2, 1) := by decide +kernel
theorem dX11_remember_52 : decode cX11_remember 52 = .ok (.aload_n 0, 1) := by decide +kernel
theorem dX11_remember_53 : decode cX11_remember 53 = .ok (.getfield 26, 3) := by decide +kernel
theorem dX11_remember_56 : decode cX11_remember 56 = .ok (.iload_n 2, 1) := by decide +kernel
theorem dX11_remember_57 : decode cX11_remember 57 = .ok (.iconst 1, 1) := by decide +kernel
theorem dX11_remember_58 : decode cX11_remember 58 = .ok (.iadd, 1) := by decide +kernel
theorem dX11_remember_59 : decode cX11_remember 59 = .ok (.iaload, 1) := by decide +kernel
theorem dX11_remember_60 : decode cX11_remember 60 = .ok (.iastore, 1) := by decide +kernel
theorem dX11_remember_61 : decode cX11_remember 61 = .ok (.iinc 2 1, 3) := by decide +kernel
theorem dX11_remember_64 : decode cX11_remember 64 = .ok (.goto (-23), 3) := by decide +kernel
theorem dX11_remember_67 : decode cX11_remember 67 = .ok (.aload_n 0, 1) := by decide +kernel
theorem dX11_remember_68 : decode cX11_remember 68 = .ok (.dup, 1) := by decide +kernel
theorem dX11_remember_69 : decode cX11_remember 69 = .ok (.getfield 155, 3) := by decide +kernel
theorem dX11_remember_72 : decode cX11_remember 72 = .ok (.iconst 1, 1) := by decide +kernel
theorem dX11_remember_73 : decode cX11_remember 73 = .ok (.isub, 1) := by decide +kernel
theorem dX11_remember_74 : decode cX11_remember 74 = .ok (.putfield 155, 3) := by decide +kernel
theorem dX11_remember_77 : decode cX11_remember 77 = .ok (.aload_n 0, 1) := by decide +kernel
theorem dX11_remember_78 : decode cX11_remember 78 = .ok (.aload_n 0, 1) := by decide +kernel
theorem dX11_remember_79 : decode cX11_remember 79 = .ok (.getfield 155, 3) := by decide +kernel
theorem dX11_remember_82 : decode cX11_remember 82 = .ok (.invokevirtual 162, 3) := by decide +kernel
theorem dX11_remember_85 : decode cX11_remember 85 = .ok (.aload_n 0, 1) := by decide +kernel
theorem dX11_remember_86 : decode cX11_remember 86 = .ok (.getfield 26, 3) := by decide +kernel
theorem dX11_remember_89 : decode cX11_remember 89 = .ok (.aload_n 0, 1) := by decide +kernel
theorem dX11_remember_90 : decode cX11_remember 90 = .ok (.getfield 155, 3) := by decide +kernel
theorem dX11_remember_93 : decode cX11_remember 93 = .ok (.iload_n 1, 1) := by decide +kernel
theorem dX11_remember_94 : decode cX11_remember 94 = .ok (.iastore, 1) := by decide +kernel
theorem dX11_remember_95 : decode cX11_remember 95 = .ok (.aload_n 0, 1) := by decide +kernel
theorem dX11_remember_96 : decode cX11_remember 96 = .ok (.dup, 1) := by decide +kernel
theorem dX11_remember_97 : decode cX11_remember 97 = .ok (.getfield 155, 3) := by decide +kernel
theorem dX11_remember_100 : decode cX11_remember 100 = .ok (.iconst 1, 1) := by decide +kernel
theorem dX11_remember_101 : decode cX11_remember 101 = .ok (.iadd, 1) := by decide +kernel
theorem dX11_remember_102 : decode cX11_remember 102 = .ok (.putfield 155, 3) := by decide +kernel
theorem dX11_remember_105 : decode cX11_remember 105 = .ok (.return_, 1) := by decide +kernel
theorem dX11_undo_0 : decode cX11_undo 0 = .ok (.aload_n 0, 1) := by decide +kernel
theorem dX11_undo_1 : decode cX11_undo 1 = .ok (.iconst 0, 1) := by decide +kernel
theorem dX11_undo_2 : decode cX11_undo 2 = .ok (.putfield 149, 3) := by decide +kernel
theorem dX11_undo_5 : decode cX11_undo 5 = .ok (.aload_n 0, 1) := by decide +kernel
theorem dX11_undo_6 : decode cX11_undo 6 = .ok (.getfield 155, 3) := by decide +kernel
theorem dX11_undo_9 : decode cX11_undo 9 = .ok (.ifCond .ne 10, 3) := by decide +kernel
theorem dX11_undo_12 : decode cX11_undo 12 = .ok (.aload_n 0, 1) := by decide +kernel
theorem dX11_undo_13 : decode cX11_undo 13 = .ok (.bipush (-3), 2) := by decide +kernel
theorem dX11_undo_15 : decode cX11_undo 15 = .ok (.invokevirtual 158, 3) := by decide +kernel
theorem dX11_undo_18 : decode cX11_undo 18 = .ok (.ireturn, 1) := by decide +kernel
theorem dX11_undo_19 : decode cX11_undo 19 = .ok (.aload_n 0, 1) := by decide +kernel
theorem dX11_undo_20 : decode cX11_undo 20 = .ok (.dup, 1) := by decide +kernel
theorem dX11_undo_21 : decode cX11_undo 21 = .ok (.getfield 155, 3) := by decide +kernel
theorem dX11_undo_24 : decode cX11_undo 24 = .ok (.iconst 1, 1) := by decide +kernel
theorem dX11_undo_25 : decode cX11_undo 25 = .ok (.isub, 1) := by decide +kernel
theorem dX11_undo_26 : decode cX11_undo 26 = .ok (.putfield 155, 3) := by decide +kernel
theorem dX11_undo_29 : decode cX11_undo 29 = .ok (.aload_n 0, 1) := by decide +kernel
theorem dX11_undo_30 : decode cX11_undo 30 = .ok (.aload_n 0, 1) := by decide +kernel
theorem dX11_undo_31 : decode cX11_undo 31 = .ok (.getfield 155, 3) := by decide +kernel
theorem dX11_undo_34 : decode cX11_undo 34 = .ok (.invokevirtual 166, 3) := by decide +kernel
theorem dX11_undo_37 : decode cX11_undo 37 = .ok (.aload_n 0, 1) := by decide +kernel
theorem dX11_undo_38 : decode cX11_undo 38 = .ok (.aload_n 0, 1) := by decide +kernel
theorem dX11_undo_39 : decode cX11_undo 39 = .ok (.getfield 26, 3) := by decide +kernel
theorem dX11_undo_42 : decode cX11_undo 42 = .ok (.aload_n 0, 1) := by decide +kernel
theorem dX11_undo_43 : decode cX11_undo 43 = .ok (.getfield 155, 3) := by decide +kernel
theorem dX11_undo_46 : decode cX11_undo 46 = .ok (.iaload, 1) := by decide +kernel
theorem dX11_undo_47 : decode cX11_undo 47 = .ok (.invokevirtual 158, 3) := by decide +kernel
theorem dX11_undo_50 : decode cX11_undo 50 = .ok (.ireturn, 1) := by decide +kernel
theorem dX11_image_0 : decode cX11_image 0 = .ok (.aload_n 0, 1) := by decide +kernel
theorem dX11_image_1 : decode cX11_image 1 = .ok (.iconst 0, 1) := by decide +kernel
theorem dX11_image_2 : decode cX11_image 2 = .ok (.putfield 149, 3) := by decide +kernel
theorem dX11_image_5 : decode cX11_image 5 = .ok (.iload_n 1, 1) := by decide +kernel
theorem dX11_image_6 : decode cX11_image 6 = .ok (.i2l, 1) := by decide +kernel
theorem dX11_image_7 : decode cX11_image 7 = .ok (.lconst 0, 1) := by decide +kernel
theorem dX11_image_8 : decode cX11_image 8 = .ok (.lconst 1, 1) := by decide +kernel
theorem dX11_image_9 : decode cX11_image 9 = .ok (.invokestatic 169, 3) := by decide +kernel
theorem dX11_image_12 : decode cX11_image 12 = .ok (.ifCond .ne 9, 3) := by decide +kernel
theorem dX11_image_15 : decode cX11_image 15 = .ok (.aload_n 0, 1) := by decide +kernel
theorem dX11_image_16 : decode cX11_image 16 = .ok (.iconst (-1), 1) := by decide +kernel
theorem dX11_image_17 : decode cX11_image 17 = .ok (.invokevirtual 158, 3) := by decide +kernel
theorem dX11_image_20 : decode cX11_image 20 = .ok (.ireturn, 1) := by decide +kernel
theorem dX11_image_21 : decode cX11_image 21 = .ok (.iconst 0, 1) := by decide +kernel
theorem dX11_image_22 : decode cX11_image 22 = .ok (.istore_n 2, 1) := by decide +kernel
theorem dX11_image_23 : decode cX11_image 23 = .ok (.iload_n 2, 1) := by decide +kernel
theorem dX11_image_24 : decode cX11_image 24 = .ok (.sipush 5510, 3) := by decide +kernel
theorem dX11_image_27 : decode cX11_image 27 = .ok (.if_icmp .ge 27, 3) := by decide +kernel
theorem dX11_image_30 : decode cX11_image 30 = .ok (.aload_n 0, 1) := by decide +kernel
theorem dX11_image_31 : decode cX11_image 31 = .ok (.getfield 16, 3) := by decide +kernel
theorem dX11_image_34 : decode cX11_image 34 = .ok (.sipush 5510, 3) := by decide +kernel
theorem dX11_image_37 : decode cX11_image 37 = .ok (.iload_n 1, 1) := by decide +kernel
theorem dX11_image_38 : decode cX11_image 38 = .ok (.imul, 1) := by decide +kernel
theorem dX11_image_39 : decode cX11_image 39 = .ok (.iload_n 2, 1) := by decide +kernel
theorem dX11_image_40 : decode cX11_image 40 = .ok (.iadd, 1) := by decide +kernel
theorem dX11_image_41 : decode cX11_image 41 = .ok (.aload_n 0, 1) := by decide +kernel
theorem dX11_image_42 : decode cX11_image 42 = .ok (.getfield 13, 3) := by decide +kernel
theorem dX11_image_45 : decode cX11_image 45 = .ok (.iload_n 2, 1) := by decide +kernel
theorem dX11_image_46 : decode cX11_image 46 = .ok (.iaload, 1) := by decide +kernel
theorem dX11_image_47 : decode cX11_image 47 = .ok (.iastore, 1) := by decide +kernel
theorem dX11_image_48 : decode cX11_image 48 = .ok (.iinc 2 1, 3) := by decide +kernel
theorem dX11_image_51 : decode cX11_image 51 = .ok (.goto (-28), 3) := by decide +kernel
theorem dX11_image_54 : decode cX11_image 54 = .ok (.aload_n 0, 1) := by decide +kernel
theorem dX11_image_55 : decode cX11_image 55 = .ok (.getfield 19, 3) := by decide +kernel
theorem dX11_image_58 : decode cX11_image 58 = .ok (.iload_n 1, 1) := by decide +kernel
theorem dX11_image_59 : decode cX11_image 59 = .ok (.iconst 1, 1) := by decide +kernel
theorem dX11_image_60 : decode cX11_image 60 = .ok (.bastore, 1) := by decide +kernel
theorem dX11_image_61 : decode cX11_image 61 = .ok (.aload_n 0, 1) := by decide +kernel
theorem dX11_image_62 : decode cX11_image 62 = .ok (.iconst 0, 1) := by decide +kernel
theorem dX11_image_63 : decode cX11_image 63 = .ok (.invokevirtual 158, 3) := by decide +kernel
theorem dX11_image_66 : decode cX11_image 66 = .ok (.ireturn, 1) := by decide +kernel
theorem dX11_back_0 : decode cX11_back 0 = .ok (.aload_n 0, 1) := by decide +kernel
theorem dX11_back_1 : decode cX11_back 1 = .ok (.iconst 0, 1) := by decide +kernel
theorem dX11_back_2 : decode cX11_back 2 = .ok (.putfield 149, 3) := by decide +kernel
theorem dX11_back_5 : decode cX11_back 5 = .ok (.iload_n 1, 1) := by decide +kernel
theorem dX11_back_6 : decode cX11_back 6 = .ok (.i2l, 1) := by decide +kernel
theorem dX11_back_7 : decode cX11_back 7 = .ok (.lconst 0, 1) := by decide +kernel
theorem dX11_back_8 : decode cX11_back 8 = .ok (.lconst 1, 1) := by decide +kernel
theorem dX11_back_9 : decode cX11_back 9 = .ok (.invokestatic 169, 3) := by decide +kernel
theorem dX11_back_12 : decode cX11_back 12 = .ok (.ifCond .ne 9, 3) := by decide +kernel
theorem dX11_back_15 : decode cX11_back 15 = .ok (.aload_n 0, 1) := by decide +kernel
theorem dX11_back_16 : decode cX11_back 16 = .ok (.iconst (-1), 1) := by decide +kernel
theorem dX11_back_17 : decode cX11_back 17 = .ok (.invokevirtual 158, 3) := by decide +kernel
theorem dX11_back_20 : decode cX11_back 20 = .ok (.ireturn, 1) := by decide +kernel
theorem dX11_back_21 : decode cX11_back 21 = .ok (.aload_n 0, 1) := by decide +kernel
theorem dX11_back_22 : decode cX11_back 22 = .ok (.getfield 19, 3) := by decide +kernel
theorem dX11_back_25 : decode cX11_back 25 = .ok (.iload_n 1, 1) := by decide +kernel
theorem dX11_back_26 : decode cX11_back 26 = .ok (.baload, 1) := by decide +kernel
theorem dX11_back_27 : decode cX11_back 27 = .ok (.ifCond .ne 10, 3) := by decide +kernel
theorem dX11_back_30 : decode cX11_back 30 = .ok (.aload_n 0, 1) := by decide +kernel
theorem dX11_back_31 : decode cX11_back 31 = .ok (.bipush (-2), 2) := by decide +kernel
theorem dX11_back_33 : decode cX11_back 33 = .ok (.invokevirtual 158, 3) := by decide +kernel
theorem dX11_back_36 : decode cX11_back 36 = .ok (.ireturn, 1) := by decide +kernel
theorem dX11_back_37 : decode cX11_back 37 = .ok (.iconst 0, 1) := by decide +kernel
theorem dX11_back_38 : decode cX11_back 38 = .ok (.istore_n 2, 1) := by decide +kernel
theorem dX11_back_39 : decode cX11_back 39 = .ok (.iload_n 2, 1) := by decide +kernel
theorem dX11_back_40 : decode cX11_back 40 = .ok (.sipush 5510, 3) := by decide +kernel
theorem dX11_back_43 : decode cX11_back 43 = .ok (.if_icmp .ge 27, 3) := by decide +kernel
theorem dX11_back_46 : decode cX11_back 46 = .ok (.aload_n 0, 1) := by decide +kernel
theorem dX11_back_47 : decode cX11_back 47 = .ok (.getfield 13, 3) := by decide +kernel
theorem dX11_back_50 : decode cX11_back 50 = .ok (.iload_n 2, 1) := by decide +kernel
theorem dX11_back_51 : decode cX11_back 51 = .ok (.aload_n 0, 1) := by decide +kernel
theorem dX11_back_52 : decode cX11_back 52 = .ok (.getfield 16, 3) := by decide +kernel
theorem dX11_back_55 : decode cX11_back 55 = .ok (.sipush 5510, 3) := by decide +kernel
theorem dX11_back_58 : decode cX11_back 58 = .ok (.iload_n 1, 1) := by decide +kernel
theorem dX11_back_59 : decode cX11_back 59 = .ok (.imul, 1) := by decide +kernel
theorem dX11_back_60 : decode cX11_back 60 = .ok (.iload_n 2, 1) := by decide +kernel
theorem dX11_back_61 : decode cX11_back 61 = .ok (.iadd, 1) := by decide +kernel
theorem dX11_back_62 : decode cX11_back 62 = .ok (.iaload, 1) := by decide +kernel
theorem dX11_back_63 : decode cX11_back 63 = .ok (.iastore, 1) := by decide +kernel
theorem dX11_back_64 : decode cX11_back 64 = .ok (.iinc 2 1, 3) := by decide +kernel
theorem dX11_back_67 : decode cX11_back 67 = .ok (.goto (-28), 3) := by decide +kernel
theorem dX11_back_70 : decode cX11_back 70 = .ok (.aload_n 0, 1) := by decide +kernel
theorem dX11_back_71 : decode cX11_back 71 = .ok (.iconst 0, 1) := by decide +kernel
theorem dX11_back_72 : decode cX11_back 72 = .ok (.invokevirtual 173, 3) := by decide +kernel
