theorem dX11_back_75 : decode cX11_back 75 = .ok (.ireturn, 1) := by decide +kernel
theorem dX11_isVault_0 : decode cX11_isVault 0 = .ok (.iload_n 1, 1) := by decide +kernel
theorem dX11_isVault_1 : decode cX11_isVault 1 = .ok (.i2l, 1) := by decide +kernel
theorem dX11_isVault_2 : decode cX11_isVault 2 = .ok (.lconst 0, 1) := by decide +kernel
theorem dX11_isVault_3 : decode cX11_isVault 3 = .ok (.aload_n 0, 1) := by decide +kernel
theorem dX11_isVault_4 : decode cX11_isVault 4 = .ok (.getfield 13, 3) := by decide +kernel
theorem dX11_isVault_7 : decode cX11_isVault 7 = .ok (.iconst 0, 1) := by decide +kernel
theorem dX11_isVault_8 : decode cX11_isVault 8 = .ok (.iaload, 1) := by decide +kernel
theorem dX11_isVault_9 : decode cX11_isVault 9 = .ok (.i2l, 1) := by decide +kernel
theorem dX11_isVault_10 : decode cX11_isVault 10 = .ok (.lconst 1, 1) := by decide +kernel
theorem dX11_isVault_11 : decode cX11_isVault 11 = .ok (.lsub, 1) := by decide +kernel
theorem dX11_isVault_12 : decode cX11_isVault 12 = .ok (.invokestatic 169, 3) := by decide +kernel
theorem dX11_isVault_15 : decode cX11_isVault 15 = .ok (.ireturn, 1) := by decide +kernel
theorem dX11_isFamily_0 : decode cX11_isFamily 0 = .ok (.iload_n 1, 1) := by decide +kernel
theorem dX11_isFamily_1 : decode cX11_isFamily 1 = .ok (.i2l, 1) := by decide +kernel
theorem dX11_isFamily_2 : decode cX11_isFamily 2 = .ok (.lconst 0, 1) := by decide +kernel
theorem dX11_isFamily_3 : decode cX11_isFamily 3 = .ok (.aload_n 0, 1) := by decide +kernel
theorem dX11_isFamily_4 : decode cX11_isFamily 4 = .ok (.getfield 13, 3) := by decide +kernel
theorem dX11_isFamily_7 : decode cX11_isFamily 7 = .ok (.iconst 1, 1) := by decide +kernel
theorem dX11_isFamily_8 : decode cX11_isFamily 8 = .ok (.iaload, 1) := by decide +kernel
theorem dX11_isFamily_9 : decode cX11_isFamily 9 = .ok (.i2l, 1) := by decide +kernel
theorem dX11_isFamily_10 : decode cX11_isFamily 10 = .ok (.lconst 1, 1) := by decide +kernel
theorem dX11_isFamily_11 : decode cX11_isFamily 11 = .ok (.lsub, 1) := by decide +kernel
theorem dX11_isFamily_12 : decode cX11_isFamily 12 = .ok (.invokestatic 169, 3) := by decide +kernel
theorem dX11_isFamily_15 : decode cX11_isFamily 15 = .ok (.ireturn, 1) := by decide +kernel
theorem dX11_isDead_0 : decode cX11_isDead 0 = .ok (.iload_n 1, 1) := by decide +kernel
theorem dX11_isDead_1 : decode cX11_isDead 1 = .ok (.i2l, 1) := by decide +kernel
theorem dX11_isDead_2 : decode cX11_isDead 2 = .ok (.lconst 0, 1) := by decide +kernel
theorem dX11_isDead_3 : decode cX11_isDead 3 = .ok (.aload_n 0, 1) := by decide +kernel
theorem dX11_isDead_4 : decode cX11_isDead 4 = .ok (.getfield 13, 3) := by decide +kernel
theorem dX11_isDead_7 : decode cX11_isDead 7 = .ok (.iconst 2, 1) := by decide +kernel
theorem dX11_isDead_8 : decode cX11_isDead 8 = .ok (.iaload, 1) := by decide +kernel
theorem dX11_isDead_9 : decode cX11_isDead 9 = .ok (.i2l, 1) := by decide +kernel
theorem dX11_isDead_10 : decode cX11_isDead 10 = .ok (.lconst 1, 1) := by decide +kernel
theorem dX11_isDead_11 : decode cX11_isDead 11 = .ok (.lsub, 1) := by decide +kernel
theorem dX11_isDead_12 : decode cX11_isDead 12 = .ok (.invokestatic 169, 3) := by decide +kernel
theorem dX11_isDead_15 : decode cX11_isDead 15 = .ok (.ireturn, 1) := by decide +kernel
theorem dX11_isIn_0 : decode cX11_isIn 0 = .ok (.aload_n 0, 1) := by decide +kernel
theorem dX11_isIn_1 : decode cX11_isIn 1 = .ok (.getfield 13, 3) := by decide +kernel
theorem dX11_isIn_4 : decode cX11_isIn 4 = .ok (.bipush 9, 2) := by decide +kernel
theorem dX11_isIn_6 : decode cX11_isIn 6 = .ok (.iload_n 1, 1) := by decide +kernel
theorem dX11_isIn_7 : decode cX11_isIn 7 = .ok (.iadd, 1) := by decide +kernel
theorem dX11_isIn_8 : decode cX11_isIn 8 = .ok (.iaload, 1) := by decide +kernel
theorem dX11_isIn_9 : decode cX11_isIn 9 = .ok (.iconst (-1), 1) := by decide +kernel
theorem dX11_isIn_10 : decode cX11_isIn 10 = .ok (.if_icmp .eq 7, 3) := by decide +kernel
theorem dX11_isIn_13 : decode cX11_isIn 13 = .ok (.iconst 1, 1) := by decide +kernel
theorem dX11_isIn_14 : decode cX11_isIn 14 = .ok (.goto 4, 3) := by decide +kernel
theorem dX11_isIn_17 : decode cX11_isIn 17 = .ok (.iconst 0, 1) := by decide +kernel
theorem dX11_isIn_18 : decode cX11_isIn 18 = .ok (.ireturn, 1) := by decide +kernel
theorem dX11_lyingIn_0 : decode cX11_lyingIn 0 = .ok (.iconst 0, 1) := by decide +kernel
theorem dX11_lyingIn_1 : decode cX11_lyingIn 1 = .ok (.istore_n 2, 1) := by decide +kernel
theorem dX11_lyingIn_2 : decode cX11_lyingIn 2 = .ok (.iconst 0, 1) := by decide +kernel
theorem dX11_lyingIn_3 : decode cX11_lyingIn 3 = .ok (.istore_n 3, 1) := by decide +kernel
theorem dX11_lyingIn_4 : decode cX11_lyingIn 4 = .ok (.iload_n 3, 1) := by decide +kernel
theorem dX11_lyingIn_5 : decode cX11_lyingIn 5 = .ok (.aload_n 0, 1) := by decide +kernel
theorem dX11_lyingIn_6 : decode cX11_lyingIn 6 = .ok (.getfield 13, 3) := by decide +kernel
theorem dX11_lyingIn_9 : decode cX11_lyingIn 9 = .ok (.iconst 2, 1) := by decide +kernel
theorem dX11_lyingIn_10 : decode cX11_lyingIn 10 = .ok (.iaload, 1) := by decide +kernel
theorem dX11_lyingIn_11 : decode cX11_lyingIn 11 = .ok (.if_icmp .ge 32, 3) := by decide +kernel
theorem dX11_lyingIn_14 : decode cX11_lyingIn 14 = .ok (.iload_n 2, 1) := by decide +kernel
theorem dX11_lyingIn_15 : decode cX11_lyingIn 15 = .ok (.aload_n 0, 1) := by decide +kernel
theorem dX11_lyingIn_16 : decode cX11_lyingIn 16 = .ok (.getfield 13, 3) := by decide +kernel
theorem dX11_lyingIn_19 : decode cX11_lyingIn 19 = .ok (.bipush 9, 2) := by decide +kernel
theorem dX11_lyingIn_21 : decode cX11_lyingIn 21 = .ok (.iload_n 3, 1) := by decide +kernel
theorem dX11_lyingIn_22 : decode cX11_lyingIn 22 = .ok (.iadd, 1) := by decide +kernel
theorem dX11_lyingIn_23 : decode cX11_lyingIn 23 = .ok (.iaload, 1) := by decide +kernel
theorem dX11_lyingIn_24 : decode cX11_lyingIn 24 = .ok (.iload_n 1, 1) := by decide +kernel
theorem dX11_lyingIn_25 : decode cX11_lyingIn 25 = .ok (.if_icmp .ne 9, 3) := by decide +kernel
theorem dX11_lyingIn_28 : decode cX11_lyingIn 28 = .ok (.iconst 1, 1) := by decide +kernel
theorem dX11_lyingIn_29 : decode cX11_lyingIn 29 = .ok (.iload_n 3, 1) := by decide +kernel
theorem dX11_lyingIn_30 : decode cX11_lyingIn 30 = .ok (.ishl, 1) := by decide +kernel
theorem dX11_lyingIn_31 : decode cX11_lyingIn 31 = .ok (.goto 4, 3) := by decide +kernel
theorem dX11_lyingIn_34 : decode cX11_lyingIn 34 = .ok (.iconst 0, 1) := by decide +kernel
theorem dX11_lyingIn_35 : decode cX11_lyingIn 35 = .ok (.ior, 1) := by decide +kernel
theorem dX11_lyingIn_36 : decode cX11_lyingIn 36 = .ok (.istore_n 2, 1) := by decide +kernel
theorem dX11_lyingIn_37 : decode cX11_lyingIn 37 = .ok (.iinc 3 1, 3) := by decide +kernel
theorem dX11_lyingIn_40 : decode cX11_lyingIn 40 = .ok (.goto (-36), 3) := by decide +kernel
theorem dX11_lyingIn_43 : decode cX11_lyingIn 43 = .ok (.iload_n 2, 1) := by decide +kernel
theorem dX11_lyingIn_44 : decode cX11_lyingIn 44 = .ok (.ireturn, 1) := by decide +kernel
theorem dX11_freeIn_0 : decode cX11_freeIn 0 = .ok (.aload_n 0, 1) := by decide +kernel
theorem dX11_freeIn_1 : decode cX11_freeIn 1 = .ok (.getfield 13, 3) := by decide +kernel
theorem dX11_freeIn_4 : decode cX11_freeIn 4 = .ok (.bipush 37, 2) := by decide +kernel
theorem dX11_freeIn_6 : decode cX11_freeIn 6 = .ok (.iload_n 1, 1) := by decide +kernel
theorem dX11_freeIn_7 : decode cX11_freeIn 7 = .ok (.iadd, 1) := by decide +kernel
theorem dX11_freeIn_8 : decode cX11_freeIn 8 = .ok (.iaload, 1) := by decide +kernel
theorem dX11_freeIn_9 : decode cX11_freeIn 9 = .ok (.aload_n 0, 1) := by decide +kernel
theorem dX11_freeIn_10 : decode cX11_freeIn 10 = .ok (.iload_n 1, 1) := by decide +kernel
theorem dX11_freeIn_11 : decode cX11_freeIn 11 = .ok (.invokevirtual 176, 3) := by decide +kernel
theorem dX11_freeIn_14 : decode cX11_freeIn 14 = .ok (.invokestatic 179, 3) := by decide +kernel
theorem dX11_freeIn_17 : decode cX11_freeIn 17 = .ok (.isub, 1) := by decide +kernel
theorem dX11_freeIn_18 : decode cX11_freeIn 18 = .ok (.ireturn, 1) := by decide +kernel
theorem dX11_insideNow_0 : decode cX11_insideNow 0 = .ok (.iconst 0, 1) := by decide +kernel
theorem dX11_insideNow_1 : decode cX11_insideNow 1 = .ok (.istore_n 1, 1) := by decide +kernel
theorem dX11_insideNow_2 : decode cX11_insideNow 2 = .ok (.iconst 0, 1) := by decide +kernel
theorem dX11_insideNow_3 : decode cX11_insideNow 3 = .ok (.istore_n 2, 1) := by decide +kernel
theorem dX11_insideNow_4 : decode cX11_insideNow 4 = .ok (.iload_n 2, 1) := by decide +kernel
theorem dX11_insideNow_5 : decode cX11_insideNow 5 = .ok (.aload_n 0, 1) := by decide +kernel
theorem dX11_insideNow_6 : decode cX11_insideNow 6 = .ok (.getfield 13, 3) := by decide +kernel
theorem dX11_insideNow_9 : decode cX11_insideNow 9 = .ok (.iconst 2, 1) := by decide +kernel
theorem dX11_insideNow_10 : decode cX11_insideNow 10 = .ok (.iaload, 1) := by decide +kernel
theorem dX11_insideNow_11 : decode cX11_insideNow 11 = .ok (.if_icmp .ge 25, 3) := by decide +kernel
theorem dX11_insideNow_14 : decode cX11_insideNow 14 = .ok (.iload_n 1, 1) := by decide +kernel
theorem dX11_insideNow_15 : decode cX11_insideNow 15 = .ok (.aload_n 0, 1) := by decide +kernel
theorem dX11_insideNow_16 : decode cX11_insideNow 16 = .ok (.iload_n 2, 1) := by decide +kernel
theorem dX11_insideNow_17 : decode cX11_insideNow 17 = .ok (.invokevirtual 182, 3) := by decide +kernel
theorem dX11_insideNow_20 : decode cX11_insideNow 20 = .ok (.ifCond .eq 7, 3) := by decide +kernel
theorem dX11_insideNow_23 : decode cX11_insideNow 23 = .ok (.iconst 1, 1) := by decide +kernel
theorem dX11_insideNow_24 : decode cX11_insideNow 24 = .ok (.goto 4, 3) := by decide +kernel
theorem dX11_insideNow_27 : decode cX11_insideNow 27 = .ok (.iconst 0, 1) := by decide +kernel
theorem dX11_insideNow_28 : decode cX11_insideNow 28 = .ok (.iadd, 1) := by decide +kernel
theorem dX11_insideNow_29 : decode cX11_insideNow 29 = .ok (.istore_n 1, 1) := by decide +kernel
theorem dX11_insideNow_30 : decode cX11_insideNow 30 = .ok (.iinc 2 1, 3) := by decide +kernel
theorem dX11_insideNow_33 : decode cX11_insideNow 33 = .ok (.goto (-29), 3) := by decide +kernel
theorem dX11_insideNow_36 : decode cX11_insideNow 36 = .ok (.iload_n 1, 1) := by decide +kernel
theorem dX11_insideNow_37 : decode cX11_insideNow 37 = .ok (.ireturn, 1) := by decide +kernel
theorem dX11_vault_0 : decode cX11_vault 0 = .ok (.aload_n 0, 1) := by decide +kernel
theorem dX11_vault_1 : decode cX11_vault 1 = .ok (.iconst 0, 1) := by decide +kernel
theorem dX11_vault_2 : decode cX11_vault 2 = .ok (.putfield 149, 3) := by decide +kernel
theorem dX11_vault_5 : decode cX11_vault 5 = .ok (.iload_n 1, 1) := by decide +kernel
theorem dX11_vault_6 : decode cX11_vault 6 = .ok (.i2l, 1) := by decide +kernel
theorem dX11_vault_7 : decode cX11_vault 7 = .ok (.lconst 1, 1) := by decide +kernel
theorem dX11_vault_8 : decode cX11_vault 8 = .ok (.ldc2_w 186, 3) := by decide +kernel
theorem dX11_vault_11 : decode cX11_vault 11 = .ok (.invokestatic 169, 3) := by decide +kernel
theorem dX11_vault_14 : decode cX11_vault 14 = .ok (.ifCond .ne 9, 3) := by decide +kernel
theorem dX11_vault_17 : decode cX11_vault 17 = .ok (.aload_n 0, 1) := by decide +kernel
theorem dX11_vault_18 : decode cX11_vault 18 = .ok (.iconst (-1), 1) := by decide +kernel
theorem dX11_vault_19 : decode cX11_vault 19 = .ok (.invokevirtual 158, 3) := by decide +kernel
theorem dX11_vault_22 : decode cX11_vault 22 = .ok (.ireturn, 1) := by decide +kernel
theorem dX11_vault_23 : decode cX11_vault 23 = .ok (.aload_n 0, 1) := by decide +kernel
theorem dX11_vault_24 : decode cX11_vault 24 = .ok (.getfield 13, 3) := by decide +kernel
theorem dX11_vault_27 : decode cX11_vault 27 = .ok (.iconst 0, 1) := by decide +kernel
theorem dX11_vault_28 : decode cX11_vault 28 = .ok (.iaload, 1) := by decide +kernel
theorem dX11_vault_29 : decode cX11_vault 29 = .ok (.istore_n 2, 1) := by decide +kernel
theorem dX11_vault_30 : decode cX11_vault 30 = .ok (.iload_n 2, 1) := by decide +kernel
theorem dX11_vault_31 : decode cX11_vault 31 = .ok (.iconst 5, 1) := by decide +kernel
theorem dX11_vault_32 : decode cX11_vault 32 = .ok (.if_icmp .ne 10, 3) := by decide +kernel
theorem dX11_vault_35 : decode cX11_vault 35 = .ok (.aload_n 0, 1) := by decide +kernel
theorem dX11_vault_36 : decode cX11_vault 36 = .ok (.bipush (-5), 2) := by decide +kernel
theorem dX11_vault_38 : decode cX11_vault 38 = .ok (.invokevirtual 158, 3) := by decide +kernel
theorem dX11_vault_41 : decode cX11_vault 41 = .ok (.ireturn, 1) := by decide +kernel
theorem dX11_vault_42 : decode cX11_vault 42 = .ok (.aload_n 0, 1) := by decide +kernel
theorem dX11_vault_43 : decode cX11_vault 43 = .ok (.getfield 13, 3) := by decide +kernel
theorem dX11_vault_46 : decode cX11_vault 46 = .ok (.bipush 37, 2) := by decide +kernel
theorem dX11_vault_48 : decode cX11_vault 48 = .ok (.iload_n 2, 1) := by decide +kernel
theorem dX11_vault_49 : decode cX11_vault 49 = .ok (.iadd, 1) := by decide +kernel
theorem dX11_vault_50 : decode cX11_vault 50 = .ok (.iload_n 1, 1) := by decide +kernel
theorem dX11_vault_51 : decode cX11_vault 51 = .ok (.iastore, 1) := by decide +kernel
theorem dX11_vault_52 : decode cX11_vault 52 = .ok (.iconst 0, 1) := by decide +kernel
theorem dX11_vault_53 : decode cX11_vault 53 = .ok (.istore_n 3, 1) := by decide +kernel
theorem dX11_vault_54 : decode cX11_vault 54 = .ok (.iload_n 3, 1) := by decide +kernel
theorem dX11_vault_55 : decode cX11_vault 55 = .ok (.bipush 8, 2) := by decide +kernel
theorem dX11_vault_57 : decode cX11_vault 57 = .ok (.if_icmp .ge 23, 3) := by decide +kernel
theorem dX11_vault_60 : decode cX11_vault 60 = .ok (.aload_n 0, 1) := by decide +kernel
theorem dX11_vault_61 : decode cX11_vault 61 = .ok (.getfield 13, 3) := by decide +kernel
theorem dX11_vault_64 : decode cX11_vault 64 = .ok (.bipush 50, 2) := by decide +kernel
theorem dX11_vault_66 : decode cX11_vault 66 = .ok (.iconst 5, 1) := by decide +kernel
theorem dX11_vault_67 : decode cX11_vault 67 = .ok (.iload_n 3, 1) := by decide +kernel
theorem dX11_vault_68 : decode cX11_vault 68 = .ok (.imul, 1) := by decide +kernel
theorem dX11_vault_69 : decode cX11_vault 69 = .ok (.iadd, 1) := by decide +kernel
theorem dX11_vault_70 : decode cX11_vault 70 = .ok (.iload_n 2, 1) := by decide +kernel
theorem dX11_vault_71 : decode cX11_vault 71 = .ok (.iadd, 1) := by decide +kernel
theorem dX11_vault_72 : decode cX11_vault 72 = .ok (.iconst 0, 1) := by decide +kernel
theorem dX11_vault_73 : decode cX11_vault 73 = .ok (.iastore, 1) := by decide +kernel
theorem dX11_vault_74 : decode cX11_vault 74 = .ok (.iinc 3 1, 3) := by decide +kernel
theorem dX11_vault_77 : decode cX11_vault 77 = .ok (.goto (-23), 3) := by decide +kernel
theorem dX11_vault_80 : decode cX11_vault 80 = .ok (.aload_n 0, 1) := by decide +kernel
theorem dX11_vault_81 : decode cX11_vault 81 = .ok (.getfield 13, 3) := by decide +kernel
theorem dX11_vault_84 : decode cX11_vault 84 = .ok (.iconst 0, 1) := by decide +kernel
theorem dX11_vault_85 : decode cX11_vault 85 = .ok (.dup2, 1) := by decide +kernel
theorem dX11_vault_86 : decode cX11_vault 86 = .ok (.iaload, 1) := by decide +kernel
theorem dX11_vault_87 : decode cX11_vault 87 = .ok (.iconst 1, 1) := by decide +kernel
theorem dX11_vault_88 : decode cX11_vault 88 = .ok (.iadd, 1) := by decide +kernel
theorem dX11_vault_89 : decode cX11_vault 89 = .ok (.iastore, 1) := by decide +kernel
theorem dX11_vault_90 : decode cX11_vault 90 = .ok (.aload_n 0, 1) := by decide +kernel
theorem dX11_vault_91 : decode cX11_vault 91 = .ok (.iload_n 2, 1) := by decide +kernel
theorem dX11_vault_92 : decode cX11_vault 92 = .ok (.invokevirtual 173, 3) := by decide +kernel
theorem dX11_vault_95 : decode cX11_vault 95 = .ok (.ireturn, 1) := by decide +kernel
theorem dX11_at_0 : decode cX11_at 0 = .ok (.aload_n 0, 1) := by decide +kernel
theorem dX11_at_1 : decode cX11_at 1 = .ok (.iconst 0, 1) := by decide +kernel
theorem dX11_at_2 : decode cX11_at 2 = .ok (.putfield 149, 3) := by decide +kernel
theorem dX11_at_5 : decode cX11_at 5 = .ok (.aload_n 0, 1) := by decide +kernel
theorem dX11_at_6 : decode cX11_at 6 = .ok (.iload_n 1, 1) := by decide +kernel
theorem dX11_at_7 : decode cX11_at 7 = .ok (.invokevirtual 188, 3) := by decide +kernel
theorem dX11_at_10 : decode cX11_at 10 = .ok (.ifCond .ne 5, 3) := by decide +kernel
theorem dX11_at_13 : decode cX11_at 13 = .ok (.iconst (-1), 1) := by decide +kernel
theorem dX11_at_14 : decode cX11_at 14 = .ok (.ireturn, 1) := by decide +kernel
theorem dX11_at_15 : decode cX11_at 15 = .ok (.iload_n 2, 1) := by decide +kernel
theorem dX11_at_16 : decode cX11_at 16 = .ok (.tableswitch 50 0 2 #[28, 38, 44], 28) := by decide +kernel
theorem dX11_at_44 : decode cX11_at 44 = .ok (.aload_n 0, 1) := by decide +kernel
theorem dX11_at_45 : decode cX11_at 45 = .ok (.getfield 13, 3) := by decide +kernel
theorem dX11_at_48 : decode cX11_at 48 = .ok (.bipush 37, 2) := by decide +kernel
theorem dX11_at_50 : decode cX11_at 50 = .ok (.iload_n 1, 1) := by decide +kernel
theorem dX11_at_51 : decode cX11_at 51 = .ok (.iadd, 1) := by decide +kernel
theorem dX11_at_52 : decode cX11_at 52 = .ok (.iaload, 1) := by decide +kernel
theorem dX11_at_53 : decode cX11_at 53 = .ok (.ireturn, 1) := by decide +kernel
theorem dX11_at_54 : decode cX11_at 54 = .ok (.aload_n 0, 1) := by decide +kernel
theorem dX11_at_55 : decode cX11_at 55 = .ok (.iload_n 1, 1) := by decide +kernel
theorem dX11_at_56 : decode cX11_at 56 = .ok (.invokevirtual 191, 3) := by decide +kernel
theorem dX11_at_59 : decode cX11_at 59 = .ok (.ireturn, 1) := by decide +kernel
theorem dX11_at_60 : decode cX11_at 60 = .ok (.aload_n 0, 1) := by decide +kernel
theorem dX11_at_61 : decode cX11_at 61 = .ok (.iload_n 1, 1) := by decide +kernel
theorem dX11_at_62 : decode cX11_at 62 = .ok (.invokevirtual 176, 3) := by decide +kernel
theorem dX11_at_65 : decode cX11_at 65 = .ok (.ireturn, 1) := by decide +kernel
theorem dX11_at_66 : decode cX11_at 66 = .ok (.iconst (-1), 1) := by decide +kernel
theorem dX11_at_67 : decode cX11_at 67 = .ok (.ireturn, 1) := by decide +kernel
theorem dX11_family_0 : decode cX11_family 0 = .ok (.aload_n 0, 1) := by decide +kernel
theorem dX11_family_1 : decode cX11_family 1 = .ok (.iconst 0, 1) := by decide +kernel
theorem dX11_family_2 : decode cX11_family 2 = .ok (.putfield 149, 3) := by decide +kernel
theorem dX11_family_5 : decode cX11_family 5 = .ok (.iload_n 1, 1) := by decide +kernel
theorem dX11_family_6 : decode cX11_family 6 = .ok (.i2l, 1) := by decide +kernel
theorem dX11_family_7 : decode cX11_family 7 = .ok (.lconst 0, 1) := by decide +kernel
theorem dX11_family_8 : decode cX11_family 8 = .ok (.ldc2_w 194, 3) := by decide +kernel
theorem dX11_family_11 : decode cX11_family 11 = .ok (.invokestatic 169, 3) := by decide +kernel
theorem dX11_family_14 : decode cX11_family 14 = .ok (.ifCond .ne 9, 3) := by decide +kernel
theorem dX11_family_17 : decode cX11_family 17 = .ok (.aload_n 0, 1) := by decide +kernel
theorem dX11_family_18 : decode cX11_family 18 = .ok (.iconst (-1), 1) := by decide +kernel
theorem dX11_family_19 : decode cX11_family 19 = .ok (.invokevirtual 158, 3) := by decide +kernel
theorem dX11_family_22 : decode cX11_family 22 = .ok (.ireturn, 1) := by decide +kernel
theorem dX11_family_23 : decode cX11_family 23 = .ok (.aload_n 0, 1) := by decide +kernel
theorem dX11_family_24 : decode cX11_family 24 = .ok (.getfield 13, 3) := by decide +kernel
theorem dX11_family_27 : decode cX11_family 27 = .ok (.iconst 1, 1) := by decide +kernel
theorem dX11_family_28 : decode cX11_family 28 = .ok (.iaload, 1) := by decide +kernel
theorem dX11_family_29 : decode cX11_family 29 = .ok (.istore_n 2, 1) := by decide +kernel
theorem dX11_family_30 : decode cX11_family 30 = .ok (.iload_n 2, 1) := by decide +kernel
theorem dX11_family_31 : decode cX11_family 31 = .ok (.iconst 4, 1) := by decide +kernel
theorem dX11_family_32 : decode cX11_family 32 = .ok (.if_icmp .ne 10, 3) := by decide +kernel
theorem dX11_family_35 : decode cX11_family 35 = .ok (.aload_n 0, 1) := by decide +kernel
theorem dX11_family_36 : decode cX11_family 36 = .ok (.bipush (-5), 2) := by decide +kernel
theorem dX11_family_38 : decode cX11_family 38 = .ok (.invokevirtual 158, 3) := by decide +kernel
theorem dX11_family_41 : decode cX11_family 41 = .ok (.ireturn, 1) := by decide +kernel
theorem dX11_family_42 : decode cX11_family 42 = .ok (.aload_n 0, 1) := by decide +kernel
theorem dX11_family_43 : decode cX11_family 43 = .ok (.getfield 13, 3) := by decide +kernel
theorem dX11_family_46 : decode cX11_family 46 = .ok (.bipush 33, 2) := by decide +kernel
theorem dX11_family_48 : decode cX11_family 48 = .ok (.iload_n 2, 1) := by decide +kernel
theorem dX11_family_49 : decode cX11_family 49 = .ok (.iadd, 1) := by decide +kernel
theorem dX11_family_50 : decode cX11_family 50 = .ok (.iload_n 1, 1) := by decide +kernel
theorem dX11_family_51 : decode cX11_family 51 = .ok (.iastore, 1) := by decide +kernel
theorem dX11_family_52 : decode cX11_family 52 = .ok (.aload_n 0, 1) := by decide +kernel
theorem dX11_family_53 : decode cX11_family 53 = .ok (.getfield 13, 3) := by decide +kernel
theorem dX11_family_56 : decode cX11_family 56 = .ok (.iconst 1, 1) := by decide +kernel
theorem dX11_family_57 : decode cX11_family 57 = .ok (.dup2, 1) := by decide +kernel
theorem dX11_family_58 : decode cX11_family 58 = .ok (.iaload, 1) := by decide +kernel
theorem dX11_family_59 : decode cX11_family 59 = .ok (.iconst 1, 1) := by decide +kernel
theorem dX11_family_60 : decode cX11_family 60 = .ok (.iadd, 1) := by decide +kernel
theorem dX11_family_61 : decode cX11_family 61 = .ok (.iastore, 1) := by decide +kernel
theorem dX11_family_62 : decode cX11_family 62 = .ok (.aload_n 0, 1) := by decide +kernel
theorem dX11_family_63 : decode cX11_family 63 = .ok (.iload_n 2, 1) := by decide +kernel
theorem dX11_family_64 : decode cX11_family 64 = .ok (.invokevirtual 173, 3) := by decide +kernel
theorem dX11_family_67 : decode cX11_family 67 = .ok (.ireturn, 1) := by decide +kernel
theorem dX11_billOf_0 : decode cX11_billOf 0 = .ok (.iconst 0, 1) := by decide +kernel
theorem dX11_billOf_1 : decode cX11_billOf 1 = .ok (.istore_n 2, 1) := by decide +kernel
theorem dX11_billOf_2 : decode cX11_billOf 2 = .ok (.iconst 0, 1) := by decide +kernel
theorem dX11_billOf_3 : decode cX11_billOf 3 = .ok (.istore_n 3, 1) := by decide +kernel
theorem dX11_billOf_4 : decode cX11_billOf 4 = .ok (.iload_n 3, 1) := by decide +kernel
theorem dX11_billOf_5 : decode cX11_billOf 5 = .ok (.aload_n 0, 1) := by decide +kernel
theorem dX11_billOf_6 : decode cX11_billOf 6 = .ok (.getfield 13, 3) := by decide +kernel
theorem dX11_billOf_9 : decode cX11_billOf 9 = .ok (.iconst 2, 1) := by decide +kernel
theorem dX11_billOf_10 : decode cX11_billOf 10 = .ok (.iaload, 1) := by decide +kernel
theorem dX11_billOf_11 : decode cX11_billOf 11 = .ok (.if_icmp .ge 42, 3) := by decide +kernel
theorem dX11_billOf_14 : decode cX11_billOf 14 = .ok (.iload_n 2, 1) := by decide +kernel
theorem dX11_billOf_15 : decode cX11_billOf 15 = .ok (.aload_n 0, 1) := by decide +kernel
theorem dX11_billOf_16 : decode cX11_billOf 16 = .ok (.getfield 13, 3) := by decide +kernel
theorem dX11_billOf_19 : decode cX11_billOf 19 = .ok (.bipush 42, 2) := by decide +kernel
theorem dX11_billOf_21 : decode cX11_billOf 21 = .ok (.iload_n 3, 1) := by decide +kernel
theorem dX11_billOf_22 : decode cX11_billOf 22 = .ok (.iadd, 1) := by decide +kernel
theorem dX11_billOf_23 : decode cX11_billOf 23 = .ok (.iaload, 1) := by decide +kernel
theorem dX11_billOf_24 : decode cX11_billOf 24 = .ok (.iload_n 1, 1) := by decide +kernel
theorem dX11_billOf_25 : decode cX11_billOf 25 = .ok (.if_icmp .ne 19, 3) := by decide +kernel
theorem dX11_billOf_28 : decode cX11_billOf 28 = .ok (.aload_n 0, 1) := by decide +kernel
theorem dX11_billOf_29 : decode cX11_billOf 29 = .ok (.iload_n 3, 1) := by decide +kernel
theorem dX11_billOf_30 : decode cX11_billOf 30 = .ok (.invokevirtual 182, 3) := by decide +kernel
theorem dX11_billOf_33 : decode cX11_billOf 33 = .ok (.ifCond .eq 11, 3) := by decide +kernel
theorem dX11_billOf_36 : decode cX11_billOf 36 = .ok (.aload_n 0, 1) := by decide +kernel
theorem dX11_billOf_37 : decode cX11_billOf 37 = .ok (.iload_n 3, 1) := by decide +kernel
theorem dX11_billOf_38 : decode cX11_billOf 38 = .ok (.invokevirtual 196, 3) := by decide +kernel
theorem dX11_billOf_41 : decode cX11_billOf 41 = .ok (.goto 4, 3) := by decide +kernel
theorem dX11_billOf_44 : decode cX11_billOf 44 = .ok (.iconst 0, 1) := by decide +kernel
theorem dX11_billOf_45 : decode cX11_billOf 45 = .ok (.iadd, 1) := by decide +kernel
theorem dX11_billOf_46 : decode cX11_billOf 46 = .ok (.istore_n 2, 1) := by decide +kernel
theorem dX11_billOf_47 : decode cX11_billOf 47 = .ok (.iinc 3 1, 3) := by decide +kernel
theorem dX11_billOf_50 : decode cX11_billOf 50 = .ok (.goto (-46), 3) := by decide +kernel
theorem dX11_billOf_53 : decode cX11_billOf 53 = .ok (.iload_n 2, 1) := by decide +kernel
theorem dX11_billOf_54 : decode cX11_billOf 54 = .ok (.ireturn, 1) := by decide +kernel
theorem dX11_has_0 : decode cX11_has 0 = .ok (.aload_n 0, 1) := by decide +kernel
theorem dX11_has_1 : decode cX11_has 1 = .ok (.iconst 0, 1) := by decide +kernel
theorem dX11_has_2 : decode cX11_has 2 = .ok (.putfield 149, 3) := by decide +kernel
theorem dX11_has_5 : decode cX11_has 5 = .ok (.aload_n 0, 1) := by decide +kernel
theorem dX11_has_6 : decode cX11_has 6 = .ok (.iload_n 1, 1) := by decide +kernel
theorem dX11_has_7 : decode cX11_has 7 = .ok (.invokevirtual 199, 3) := by decide +kernel
theorem dX11_has_10 : decode cX11_has 10 = .ok (.ifCond .ne 5, 3) := by decide +kernel
theorem dX11_has_13 : decode cX11_has 13 = .ok (.iconst (-1), 1) := by decide +kernel
theorem dX11_has_14 : decode cX11_has 14 = .ok (.ireturn, 1) := by decide +kernel
theorem dX11_has_15 : decode cX11_has 15 = .ok (.iconst 0, 1) := by decide +kernel
theorem dX11_has_16 : decode cX11_has 16 = .ok (.istore_n 3, 1) := by decide +kernel
theorem dX11_has_17 : decode cX11_has 17 = .ok (.iconst 0, 1) := by decide +kernel
theorem dX11_has_18 : decode cX11_has 18 = .ok (.istore 4, 2) := by decide +kernel
theorem dX11_has_20 : decode cX11_has 20 = .ok (.iload 4, 2) := by decide +kernel
theorem dX11_has_22 : decode cX11_has 22 = .ok (.aload_n 0, 1) := by decide +kernel
theorem dX11_has_23 : decode cX11_has 23 = .ok (.getfield 13, 3) := by decide +kernel
theorem dX11_has_26 : decode cX11_has 26 = .ok (.iconst 2, 1) := by decide +kernel
theorem dX11_has_27 : decode cX11_has 27 = .ok (.iaload, 1) := by decide +kernel
theorem dX11_has_28 : decode cX11_has 28 = .ok (.if_icmp .ge 34, 3) := by decide +kernel
theorem dX11_has_31 : decode cX11_has 31 = .ok (.iload_n 3, 1) := by decide +kernel
theorem dX11_has_32 : decode cX11_has 32 = .ok (.aload_n 0, 1) := by decide +kernel
theorem dX11_has_33 : decode cX11_has 33 = .ok (.getfield 13, 3) := by decide +kernel
theorem dX11_has_36 : decode cX11_has 36 = .ok (.bipush 42, 2) := by decide +kernel
theorem dX11_has_38 : decode cX11_has 38 = .ok (.iload 4, 2) := by decide +kernel
theorem dX11_has_40 : decode cX11_has 40 = .ok (.iadd, 1) := by decide +kernel
theorem dX11_has_41 : decode cX11_has 41 = .ok (.iaload, 1) := by decide +kernel
theorem dX11_has_42 : decode cX11_has 42 = .ok (.iload_n 1, 1) := by decide +kernel
theorem dX11_has_43 : decode cX11_has 43 = .ok (.if_icmp .ne 10, 3) := by decide +kernel
theorem dX11_has_46 : decode cX11_has 46 = .ok (.iconst 1, 1) := by decide +kernel
theorem dX11_has_47 : decode cX11_has 47 = .ok (.iload 4, 2) := by decide +kernel
theorem dX11_has_49 : decode cX11_has 49 = .ok (.ishl, 1) := by decide +kernel
theorem dX11_has_50 : decode cX11_has 50 = .ok (.goto 4, 3) := by decide +kernel
theorem dX11_has_53 : decode cX11_has 53 = .ok (.iconst 0, 1) := by decide +kernel
theorem dX11_has_54 : decode cX11_has 54 = .ok (.ior, 1) := by decide +kernel
theorem dX11_has_55 : decode cX11_has 55 = .ok (.istore_n 3, 1) := by decide +kernel
theorem dX11_has_56 : decode cX11_has 56 = .ok (.iinc 4 1, 3) := by decide +kernel
theorem dX11_has_59 : decode cX11_has 59 = .ok (.goto (-39), 3) := by decide +kernel
theorem dX11_has_62 : decode cX11_has 62 = .ok (.iload_n 2, 1) := by decide +kernel
theorem dX11_has_63 : decode cX11_has 63 = .ok (.tableswitch 53 0 3 #[29, 39, 45, 47], 29) := by decide +kernel
theorem dX11_has_92 : decode cX11_has 92 = .ok (.aload_n 0, 1) := by decide +kernel
theorem dX11_has_93 : decode cX11_has 93 = .ok (.getfield 13, 3) := by decide +kernel
theorem dX11_has_96 : decode cX11_has 96 = .ok (.bipush 33, 2) := by decide +kernel
theorem dX11_has_98 : decode cX11_has 98 = .ok (.iload_n 1, 1) := by decide +kernel
theorem dX11_has_99 : decode cX11_has 99 = .ok (.iadd, 1) := by decide +kernel
theorem dX11_has_100 : decode cX11_has 100 = .ok (.iaload, 1) := by decide +kernel
theorem dX11_has_101 : decode cX11_has 101 = .ok (.ireturn, 1) := by decide +kernel
theorem dX11_has_102 : decode cX11_has 102 = .ok (.aload_n 0, 1) := by decide +kernel
theorem dX11_has_103 : decode cX11_has 103 = .ok (.iload_n 1, 1) := by decide +kernel
theorem dX11_has_104 : decode cX11_has 104 = .ok (.invokevirtual 202, 3) := by decide +kernel
theorem dX11_has_107 : decode cX11_has 107 = .ok (.ireturn, 1) := by decide +kernel
theorem dX11_has_108 : decode cX11_has 108 = .ok (.iload_n 3, 1) := by decide +kernel
theorem dX11_has_109 : decode cX11_has 109 = .ok (.ireturn, 1) := by decide +kernel
theorem dX11_has_110 : decode cX11_has 110 = .ok (.aload_n 0, 1) := by decide +kernel
theorem dX11_has_111 : decode cX11_has 111 = .ok (.iload_n 1, 1) := by decide +kernel
theorem dX11_has_112 : decode cX11_has 112 = .ok (.invokevirtual 205, 3) := by decide +kernel
theorem dX11_has_115 : decode cX11_has 115 = .ok (.ireturn, 1) := by decide +kernel
theorem dX11_has_116 : decode cX11_has 116 = .ok (.iconst (-1), 1) := by decide +kernel
theorem dX11_has_117 : decode cX11_has 117 = .ok (.ireturn, 1) := by decide +kernel
theorem dX11_come_0 : decode cX11_come 0 = .ok (.iload_n 3, 1) := by decide +kernel
theorem dX11_come_1 : decode cX11_come 1 = .ok (.i2l, 1) := by decide +kernel
theorem dX11_come_2 : decode cX11_come 2 = .ok (.lconst 1, 1) := by decide +kernel
theorem dX11_come_3 : decode cX11_come 3 = .ok (.ldc2_w 208, 3) := by decide +kernel
theorem dX11_come_6 : decode cX11_come 6 = .ok (.invokestatic 169, 3) := by decide +kernel
theorem dX11_come_9 : decode cX11_come 9 = .ok (.ifCond .ne 5, 3) := by decide +kernel
theorem dX11_come_12 : decode cX11_come 12 = .ok (.iconst (-1), 1) := by decide +kernel
theorem dX11_come_13 : decode cX11_come 13 = .ok (.ireturn, 1) := by decide +kernel
theorem dX11_come_14 : decode cX11_come 14 = .ok (.aload_n 0, 1) := by decide +kernel
theorem dX11_come_15 : decode cX11_come 15 = .ok (.iload_n 1, 1) := by decide +kernel
theorem dX11_come_16 : decode cX11_come 16 = .ok (.invokevirtual 199, 3) := by decide +kernel
theorem dX11_come_19 : decode cX11_come 19 = .ok (.ifCond .eq 11, 3) := by decide +kernel
theorem dX11_come_22 : decode cX11_come 22 = .ok (.aload_n 0, 1) := by decide +kernel
theorem dX11_come_23 : decode cX11_come 23 = .ok (.iload_n 2, 1) := by decide +kernel
theorem dX11_come_24 : decode cX11_come 24 = .ok (.invokevirtual 188, 3) := by decide +kernel
theorem dX11_come_27 : decode cX11_come 27 = .ok (.ifCond .ne 6, 3) := by decide +kernel
theorem dX11_come_30 : decode cX11_come 30 = .ok (.bipush (-2), 2) := by decide +kernel
theorem dX11_come_32 : decode cX11_come 32 = .ok (.ireturn, 1) := by decide +kernel
theorem dX11_come_33 : decode cX11_come 33 = .ok (.aload_n 0, 1) := by decide +kernel
theorem dX11_come_34 : decode cX11_come 34 = .ok (.iload_n 2, 1) := by decide +kernel
theorem dX11_come_35 : decode cX11_come 35 = .ok (.invokevirtual 191, 3) := by decide +kernel
theorem dX11_come_38 : decode cX11_come 38 = .ok (.ifCond .ne 6, 3) := by decide +kernel
theorem dX11_come_41 : decode cX11_come 41 = .ok (.bipush (-3), 2) := by decide +kernel
theorem dX11_come_43 : decode cX11_come 43 = .ok (.ireturn, 1) := by decide +kernel
theorem dX11_come_44 : decode cX11_come 44 = .ok (.aload_n 0, 1) := by decide +kernel
theorem dX11_come_45 : decode cX11_come 45 = .ok (.getfield 13, 3) := by decide +kernel
theorem dX11_come_48 : decode cX11_come 48 = .ok (.iconst 2, 1) := by decide +kernel
theorem dX11_come_49 : decode cX11_come 49 = .ok (.iaload, 1) := by decide +kernel
theorem dX11_come_50 : decode cX11_come 50 = .ok (.istore 4, 2) := by decide +kernel
theorem dX11_come_52 : decode cX11_come 52 = .ok (.iload 4, 2) := by decide +kernel
theorem dX11_come_54 : decode cX11_come 54 = .ok (.bipush 8, 2) := by decide +kernel
theorem dX11_come_56 : decode cX11_come 56 = .ok (.if_icmp .ne 6, 3) := by decide +kernel
theorem dX11_come_59 : decode cX11_come 59 = .ok (.bipush (-5), 2) := by decide +kernel
theorem dX11_come_61 : decode cX11_come 61 = .ok (.ireturn, 1) := by decide +kernel
theorem dX11_come_62 : decode cX11_come 62 = .ok (.aload_n 0, 1) := by decide +kernel
theorem dX11_come_63 : decode cX11_come 63 = .ok (.getfield 13, 3) := by decide +kernel
theorem dX11_come_66 : decode cX11_come 66 = .ok (.bipush 42, 2) := by decide +kernel
theorem dX11_come_68 : decode cX11_come 68 = .ok (.iload 4, 2) := by decide +kernel
theorem dX11_come_70 : decode cX11_come 70 = .ok (.iadd, 1) := by decide +kernel
theorem dX11_come_71 : decode cX11_come 71 = .ok (.iload_n 1, 1) := by decide +kernel
theorem dX11_come_72 : decode cX11_come 72 = .ok (.iastore, 1) := by decide +kernel
theorem dX11_come_73 : decode cX11_come 73 = .ok (.aload_n 0, 1) := by decide +kernel
theorem dX11_come_74 : decode cX11_come 74 = .ok (.getfield 13, 3) := by decide +kernel
theorem dX11_come_77 : decode cX11_come 77 = .ok (.bipush 9, 2) := by decide +kernel
theorem dX11_come_79 : decode cX11_come 79 = .ok (.iload 4, 2) := by decide +kernel
theorem dX11_come_81 : decode cX11_come 81 = .ok (.iadd, 1) := by decide +kernel
theorem dX11_come_82 : decode cX11_come 82 = .ok (.iload_n 2, 1) := by decide +kernel
theorem dX11_come_83 : decode cX11_come 83 = .ok (.iastore, 1) := by decide +kernel
theorem dX11_come_84 : decode cX11_come 84 = .ok (.aload_n 0, 1) := by decide +kernel
theorem dX11_come_85 : decode cX11_come 85 = .ok (.getfield 13, 3) := by decide +kernel
theorem dX11_come_88 : decode cX11_come 88 = .ok (.bipush 17, 2) := by decide +kernel
theorem dX11_come_90 : decode cX11_come 90 = .ok (.iload 4, 2) := by decide +kernel
theorem dX11_come_92 : decode cX11_come 92 = .ok (.iadd, 1) := by decide +kernel
theorem dX11_come_93 : decode cX11_come 93 = .ok (.iload_n 3, 1) := by decide +kernel
theorem dX11_come_94 : decode cX11_come 94 = .ok (.iastore, 1) := by decide +kernel
theorem dX11_come_95 : decode cX11_come 95 = .ok (.aload_n 0, 1) := by decide +kernel
theorem dX11_come_96 : decode cX11_come 96 = .ok (.getfield 13, 3) := by decide +kernel
theorem dX11_come_99 : decode cX11_come 99 = .ok (.bipush 25, 2) := by decide +kernel
theorem dX11_come_101 : decode cX11_come 101 = .ok (.iload 4, 2) := by decide +kernel
theorem dX11_come_103 : decode cX11_come 103 = .ok (.iadd, 1) := by decide +kernel
theorem dX11_come_104 : decode cX11_come 104 = .ok (.iconst 0, 1) := by decide +kernel
theorem dX11_come_105 : decode cX11_come 105 = .ok (.iastore, 1) := by decide +kernel
theorem dX11_come_106 : decode cX11_come 106 = .ok (.iconst 0, 1) := by decide +kernel
theorem dX11_come_107 : decode cX11_come 107 = .ok (.istore 5, 2) := by decide +kernel
theorem dX11_come_109 : decode cX11_come 109 = .ok (.iload 5, 2) := by decide +kernel
theorem dX11_come_111 : decode cX11_come 111 = .ok (.iconst 5, 1) := by decide +kernel
theorem dX11_come_112 : decode cX11_come 112 = .ok (.if_icmp .ge 25, 3) := by decide +kernel
theorem dX11_come_115 : decode cX11_come 115 = .ok (.aload_n 0, 1) := by decide +kernel
theorem dX11_come_116 : decode cX11_come 116 = .ok (.getfield 13, 3) := by decide +kernel
theorem dX11_come_119 : decode cX11_come 119 = .ok (.bipush 50, 2) := by decide +kernel
theorem dX11_come_121 : decode cX11_come 121 = .ok (.iconst 5, 1) := by decide +kernel
theorem dX11_come_122 : decode cX11_come 122 = .ok (.iload 4, 2) := by decide +kernel
theorem dX11_come_124 : decode cX11_come 124 = .ok (.imul, 1) := by decide +kernel
theorem dX11_come_125 : decode cX11_come 125 = .ok (.iadd, 1) := by decide +kernel
theorem dX11_come_126 : decode cX11_come 126 = .ok (.iload 5, 2) := by decide +kernel
theorem dX11_come_128 : decode cX11_come 128 = .ok (.iadd, 1) := by decide +kernel
theorem dX11_come_129 : decode cX11_come 129 = .ok (.iconst 0, 1) := by decide +kernel
theorem dX11_come_130 : decode cX11_come 130 = .ok (.iastore, 1) := by decide +kernel
theorem dX11_come_131 : decode cX11_come 131 = .ok (.iinc 5 1, 3) := by decide +kernel
theorem dX11_come_134 : decode cX11_come 134 = .ok (.goto (-25), 3) := by decide +kernel
theorem dX11_come_137 : decode cX11_come 137 = .ok (.aload_n 0, 1) := by decide +kernel
theorem dX11_come_138 : decode cX11_come 138 = .ok (.getfield 13, 3) := by decide +kernel
theorem dX11_come_141 : decode cX11_come 141 = .ok (.iconst 2, 1) := by decide +kernel
theorem dX11_come_142 : decode cX11_come 142 = .ok (.dup2, 1) := by decide +kernel
theorem dX11_come_143 : decode cX11_come 143 = .ok (.iaload, 1) := by decide +kernel
theorem dX11_come_144 : decode cX11_come 144 = .ok (.iconst 1, 1) := by decide +kernel
theorem dX11_come_145 : decode cX11_come 145 = .ok (.iadd, 1) := by decide +kernel
theorem dX11_come_146 : decode cX11_come 146 = .ok (.iastore, 1) := by decide +kernel
theorem dX11_come_147 : decode cX11_come 147 = .ok (.iload 4, 2) := by decide +kernel
theorem dX11_come_149 : decode cX11_come 149 = .ok (.ireturn, 1) := by decide +kernel
theorem dX11_dead_0 : decode cX11_dead 0 = .ok (.aload_n 0, 1) := by decide +kernel
theorem dX11_dead_1 : decode cX11_dead 1 = .ok (.iconst 0, 1) := by decide +kernel
theorem dX11_dead_2 : decode cX11_dead 2 = .ok (.putfield 149, 3) := by decide +kernel
theorem dX11_dead_5 : decode cX11_dead 5 = .ok (.aload_n 0, 1) := by decide +kernel
theorem dX11_dead_6 : decode cX11_dead 6 = .ok (.aload_n 0, 1) := by decide +kernel
theorem dX11_dead_7 : decode cX11_dead 7 = .ok (.iload_n 1, 1) := by decide +kernel
theorem dX11_dead_8 : decode cX11_dead 8 = .ok (.iload_n 2, 1) := by decide +kernel
theorem dX11_dead_9 : decode cX11_dead 9 = .ok (.iload_n 3, 1) := by decide +kernel
theorem dX11_dead_10 : decode cX11_dead 10 = .ok (.invokevirtual 210, 3) := by decide +kernel
theorem dX11_dead_13 : decode cX11_dead 13 = .ok (.invokevirtual 173, 3) := by decide +kernel
theorem dX11_dead_16 : decode cX11_dead 16 = .ok (.ireturn, 1) := by decide +kernel
theorem dX11_of_0 : decode cX11_of 0 = .ok (.aload_n 0, 1) := by decide +kernel
theorem dX11_of_1 : decode cX11_of 1 = .ok (.iconst 0, 1) := by decide +kernel
theorem dX11_of_2 : decode cX11_of 2 = .ok (.putfield 149, 3) := by decide +kernel
theorem dX11_of_5 : decode cX11_of 5 = .ok (.aload_n 0, 1) := by decide +kernel
theorem dX11_of_6 : decode cX11_of 6 = .ok (.iload_n 1, 1) := by decide +kernel
theorem dX11_of_7 : decode cX11_of 7 = .ok (.invokevirtual 214, 3) := by decide +kernel
theorem dX11_of_10 : decode cX11_of 10 = .ok (.ifCond .ne 6, 3) := by decide +kernel
theorem dX11_of_13 : decode cX11_of 13 = .ok (.bipush (-100), 2) := by decide +kernel
theorem dX11_of_15 : decode cX11_of 15 = .ok (.ireturn, 1) := by decide +kernel
theorem dX11_of_16 : decode cX11_of 16 = .ok (.iload_n 2, 1) := by decide +kernel
theorem dX11_of_17 : decode cX11_of 17 = .ok (.tableswitch 91 0 5 #[39, 49, 59, 69, 79, 85], 39) := by decide +kernel
theorem dX11_of_56 : decode cX11_of 56 = .ok (.aload_n 0, 1) := by decide +kernel
theorem dX11_of_57 : decode cX11_of 57 = .ok (.getfield 13, 3) := by decide +kernel
theorem dX11_of_60 : decode cX11_of 60 = .ok (.bipush 42, 2) := by decide +kernel
theorem dX11_of_62 : decode cX11_of 62 = .ok (.iload_n 1, 1) := by decide +kernel
theorem dX11_of_63 : decode cX11_of 63 = .ok (.iadd, 1) := by decide +kernel
theorem dX11_of_64 : decode cX11_of 64 = .ok (.iaload, 1) := by decide +kernel
theorem dX11_of_65 : decode cX11_of 65 = .ok (.ireturn, 1) := by decide +kernel
theorem dX11_of_66 : decode cX11_of 66 = .ok (.aload_n 0, 1) := by decide +kernel
theorem dX11_of_67 : decode cX11_of 67 = .ok (.getfield 13, 3) := by decide +kernel
theorem dX11_of_70 : decode cX11_of 70 = .ok (.bipush 9, 2) := by decide +kernel
theorem dX11_of_72 : decode cX11_of 72 = .ok (.iload_n 1, 1) := by decide +kernel
theorem dX11_of_73 : decode cX11_of 73 = .ok (.iadd, 1) := by decide +kernel
theorem dX11_of_74 : decode cX11_of 74 = .ok (.iaload, 1) := by decide +kernel
theorem dX11_of_75 : decode cX11_of 75 = .ok (.ireturn, 1) := by decide +kernel
theorem dX11_of_76 : decode cX11_of 76 = .ok (.aload_n 0, 1) := by decide +kernel
theorem dX11_of_77 : decode cX11_of 77 = .ok (.getfield 13, 3) := by decide +kernel
theorem dX11_of_80 : decode cX11_of 80 = .ok (.bipush 17, 2) := by decide +kernel
theorem dX11_of_82 : decode cX11_of 82 = .ok (.iload_n 1, 1) := by decide +kernel
theorem dX11_of_83 : decode cX11_of 83 = .ok (.iadd, 1) := by decide +kernel
theorem dX11_of_84 : decode cX11_of 84 = .ok (.iaload, 1) := by decide +kernel
theorem dX11_of_85 : decode cX11_of 85 = .ok (.ireturn, 1) := by decide +kernel
theorem dX11_of_86 : decode cX11_of 86 = .ok (.aload_n 0, 1) := by decide +kernel
theorem dX11_of_87 : decode cX11_of 87 = .ok (.getfield 13, 3) := by decide +kernel
theorem dX11_of_90 : decode cX11_of 90 = .ok (.bipush 25, 2) := by decide +kernel
theorem dX11_of_92 : decode cX11_of 92 = .ok (.iload_n 1, 1) := by decide +kernel
theorem dX11_of_93 : decode cX11_of 93 = .ok (.iadd, 1) := by decide +kernel
theorem dX11_of_94 : decode cX11_of 94 = .ok (.iaload, 1) := by decide +kernel
theorem dX11_of_95 : decode cX11_of 95 = .ok (.ireturn, 1) := by decide +kernel
theorem dX11_of_96 : decode cX11_of 96 = .ok (.aload_n 0, 1) := by decide +kernel
theorem dX11_of_97 : decode cX11_of 97 = .ok (.iload_n 1, 1) := by decide +kernel
theorem dX11_of_98 : decode cX11_of 98 = .ok (.invokevirtual 196, 3) := by decide +kernel
theorem dX11_of_101 : decode cX11_of 101 = .ok (.ireturn, 1) := by decide +kernel
theorem dX11_of_102 : decode cX11_of 102 = .ok (.aload_n 0, 1) := by decide +kernel
theorem dX11_of_103 : decode cX11_of 103 = .ok (.iload_n 1, 1) := by decide +kernel
theorem dX11_of_104 : decode cX11_of 104 = .ok (.invokevirtual 217, 3) := by decide +kernel
theorem dX11_of_107 : decode cX11_of 107 = .ok (.ireturn, 1) := by decide +kernel
theorem dX11_of_108 : decode cX11_of 108 = .ok (.bipush (-100), 2) := by decide +kernel
theorem dX11_of_110 : decode cX11_of 110 = .ok (.ireturn, 1) := by decide +kernel
theorem dX11_asks_0 : decode cX11_asks 0 = .ok (.aload_n 0, 1) := by decide +kernel
theorem dX11_asks_1 : decode cX11_asks 1 = .ok (.iconst 0, 1) := by decide +kernel
theorem dX11_asks_2 : decode cX11_asks 2 = .ok (.putfield 149, 3) := by decide +kernel
theorem dX11_asks_5 : decode cX11_asks 5 = .ok (.aload_n 0, 1) := by decide +kernel
theorem dX11_asks_6 : decode cX11_asks 6 = .ok (.iload_n 1, 1) := by decide +kernel
theorem dX11_asks_7 : decode cX11_asks 7 = .ok (.invokevirtual 214, 3) := by decide +kernel
theorem dX11_asks_10 : decode cX11_asks 10 = .ok (.ifCond .eq 21, 3) := by decide +kernel
theorem dX11_asks_13 : decode cX11_asks 13 = .ok (.aload_n 0, 1) := by decide +kernel
theorem dX11_asks_14 : decode cX11_asks 14 = .ok (.iload_n 2, 1) := by decide +kernel
theorem dX11_asks_15 : decode cX11_asks 15 = .ok (.invokevirtual 188, 3) := by decide +kernel
theorem dX11_asks_18 : decode cX11_asks 18 = .ok (.ifCond .eq 13, 3) := by decide +kernel
theorem dX11_asks_21 : decode cX11_asks 21 = .ok (.iload_n 3, 1) := by decide +kernel
theorem dX11_asks_22 : decode cX11_asks 22 = .ok (.i2l, 1) := by decide +kernel
theorem dX11_asks_23 : decode cX11_asks 23 = .ok (.lconst 0, 1) := by decide +kernel
theorem dX11_asks_24 : decode cX11_asks 24 = .ok (.lconst 1, 1) := by decide +kernel
theorem dX11_asks_25 : decode cX11_asks 25 = .ok (.invokestatic 169, 3) := by decide +kernel
theorem dX11_asks_28 : decode cX11_asks 28 = .ok (.ifCond .ne 5, 3) := by decide +kernel
theorem dX11_asks_31 : decode cX11_asks 31 = .ok (.iconst (-1), 1) := by decide +kernel
theorem dX11_asks_32 : decode cX11_asks 32 = .ok (.ireturn, 1) := by decide +kernel
theorem dX11_asks_33 : decode cX11_asks 33 = .ok (.iload_n 3, 1) := by decide +kernel
theorem dX11_asks_34 : decode cX11_asks 34 = .ok (.ifCond .ne 19, 3) := by decide +kernel
theorem dX11_asks_37 : decode cX11_asks 37 = .ok (.aload_n 0, 1) := by decide +kernel
theorem dX11_asks_38 : decode cX11_asks 38 = .ok (.getfield 13, 3) := by decide +kernel
theorem dX11_asks_41 : decode cX11_asks 41 = .ok (.bipush 50, 2) := by decide +kernel
theorem dX11_asks_43 : decode cX11_asks 43 = .ok (.iconst 5, 1) := by decide +kernel
theorem dX11_asks_44 : decode cX11_asks 44 = .ok (.iload_n 1, 1) := by decide +kernel
theorem dX11_asks_45 : decode cX11_asks 45 = .ok (.imul, 1) := by decide +kernel
theorem dX11_asks_46 : decode cX11_asks 46 = .ok (.iadd, 1) := by decide +kernel
theorem dX11_asks_47 : decode cX11_asks 47 = .ok (.iload_n 2, 1) := by decide +kernel
theorem dX11_asks_48 : decode cX11_asks 48 = .ok (.iadd, 1) := by decide +kernel
theorem dX11_asks_49 : decode cX11_asks 49 = .ok (.iaload, 1) := by decide +kernel
theorem dX11_asks_50 : decode cX11_asks 50 = .ok (.goto 17, 3) := by decide +kernel
theorem dX11_asks_53 : decode cX11_asks 53 = .ok (.aload_n 0, 1) := by decide +kernel
theorem dX11_asks_54 : decode cX11_asks 54 = .ok (.iload_n 1, 1) := by decide +kernel
theorem dX11_asks_55 : decode cX11_asks 55 = .ok (.iload_n 2, 1) := by decide +kernel
theorem dX11_asks_56 : decode cX11_asks 56 = .ok (.invokevirtual 220, 3) := by decide +kernel
theorem dX11_asks_59 : decode cX11_asks 59 = .ok (.ifCond .eq 7, 3) := by decide +kernel
theorem dX11_asks_62 : decode cX11_asks 62 = .ok (.iconst 1, 1) := by decide +kernel
theorem dX11_asks_63 : decode cX11_asks 63 = .ok (.goto 4, 3) := by decide +kernel
theorem dX11_asks_66 : decode cX11_asks 66 = .ok (.iconst 0, 1) := by decide +kernel
theorem dX11_asks_67 : decode cX11_asks 67 = .ok (.ireturn, 1) := by decide +kernel
theorem dX11_wish_0 : decode cX11_wish 0 = .ok (.aload_n 0, 1) := by decide +kernel
theorem dX11_wish_1 : decode cX11_wish 1 = .ok (.iconst 0, 1) := by decide +kernel
theorem dX11_wish_2 : decode cX11_wish 2 = .ok (.putfield 149, 3) := by decide +kernel
theorem dX11_wish_5 : decode cX11_wish 5 = .ok (.iload_n 3, 1) := by decide +kernel
theorem dX11_wish_6 : decode cX11_wish 6 = .ok (.i2l, 1) := by decide +kernel
theorem dX11_wish_7 : decode cX11_wish 7 = .ok (.lconst 0, 1) := by decide +kernel
theorem dX11_wish_8 : decode cX11_wish 8 = .ok (.ldc2_w 224, 3) := by decide +kernel
theorem dX11_wish_11 : decode cX11_wish 11 = .ok (.invokestatic 169, 3) := by decide +kernel
theorem dX11_wish_14 : decode cX11_wish 14 = .ok (.ifCond .ne 9, 3) := by decide +kernel
theorem dX11_wish_17 : decode cX11_wish 17 = .ok (.aload_n 0, 1) := by decide +kernel
theorem dX11_wish_18 : decode cX11_wish 18 = .ok (.iconst (-1), 1) := by decide +kernel
theorem dX11_wish_19 : decode cX11_wish 19 = .ok (.invokevirtual 158, 3) := by decide +kernel
theorem dX11_wish_22 : decode cX11_wish 22 = .ok (.ireturn, 1) := by decide +kernel
theorem dX11_wish_23 : decode cX11_wish 23 = .ok (.aload_n 0, 1) := by decide +kernel
theorem dX11_wish_24 : decode cX11_wish 24 = .ok (.iload_n 1, 1) := by decide +kernel
theorem dX11_wish_25 : decode cX11_wish 25 = .ok (.invokevirtual 214, 3) := by decide +kernel
theorem dX11_wish_28 : decode cX11_wish 28 = .ok (.ifCond .eq 27, 3) := by decide +kernel
theorem dX11_wish_31 : decode cX11_wish 31 = .ok (.aload_n 0, 1) := by decide +kernel
theorem dX11_wish_32 : decode cX11_wish 32 = .ok (.iload_n 2, 1) := by decide +kernel
theorem dX11_wish_33 : decode cX11_wish 33 = .ok (.invokevirtual 188, 3) := by decide +kernel
theorem dX11_wish_36 : decode cX11_wish 36 = .ok (.ifCond .eq 19, 3) := by decide +kernel
theorem dX11_wish_39 : decode cX11_wish 39 = .ok (.aload_n 0, 1) := by decide +kernel
theorem dX11_wish_40 : decode cX11_wish 40 = .ok (.bipush 50, 2) := by decide +kernel
theorem dX11_wish_42 : decode cX11_wish 42 = .ok (.iconst 5, 1) := by decide +kernel
theorem dX11_wish_43 : decode cX11_wish 43 = .ok (.iload_n 1, 1) := by decide +kernel
theorem dX11_wish_44 : decode cX11_wish 44 = .ok (.imul, 1) := by decide +kernel
theorem dX11_wish_45 : decode cX11_wish 45 = .ok (.iadd, 1) := by decide +kernel
theorem dX11_wish_46 : decode cX11_wish 46 = .ok (.iload_n 2, 1) := by decide +kernel
theorem dX11_wish_47 : decode cX11_wish 47 = .ok (.iadd, 1) := by decide +kernel
theorem dX11_wish_48 : decode cX11_wish 48 = .ok (.iload_n 3, 1) := by decide +kernel
theorem dX11_wish_49 : decode cX11_wish 49 = .ok (.invokevirtual 226, 3) := by decide +kernel
theorem dX11_wish_52 : decode cX11_wish 52 = .ok (.goto 9, 3) := by decide +kernel
theorem dX11_wish_55 : decode cX11_wish 55 = .ok (.aload_n 0, 1) := by decide +kernel
theorem dX11_wish_56 : decode cX11_wish 56 = .ok (.bipush (-2), 2) := by decide +kernel
theorem dX11_wish_58 : decode cX11_wish 58 = .ok (.invokevirtual 158, 3) := by decide +kernel
theorem dX11_wish_61 : decode cX11_wish 61 = .ok (.ireturn, 1) := by decide +kernel
theorem dX11_terms_0 : decode cX11_terms 0 = .ok (.aload_n 0, 1) := by decide +kernel
theorem dX11_terms_1 : decode cX11_terms 1 = .ok (.iconst 0, 1) := by decide +kernel
theorem dX11_terms_2 : decode cX11_terms 2 = .ok (.putfield 149, 3) := by decide +kernel
theorem dX11_terms_5 : decode cX11_terms 5 = .ok (.iload_n 1, 1) := by decide +kernel
theorem dX11_terms_6 : decode cX11_terms 6 = .ok (.ifCond .ne 15, 3) := by decide +kernel
theorem dX11_terms_9 : decode cX11_terms 9 = .ok (.iload_n 2, 1) := by decide +kernel
theorem dX11_terms_10 : decode cX11_terms 10 = .ok (.i2l, 1) := by decide +kernel
theorem dX11_terms_11 : decode cX11_terms 11 = .ok (.lconst 0, 1) := by decide +kernel
theorem dX11_terms_12 : decode cX11_terms 12 = .ok (.ldc2_w 194, 3) := by decide +kernel
theorem dX11_terms_15 : decode cX11_terms 15 = .ok (.invokestatic 169, 3) := by decide +kernel
theorem dX11_terms_18 : decode cX11_terms 18 = .ok (.goto 42, 3) := by decide +kernel
theorem dX11_terms_21 : decode cX11_terms 21 = .ok (.iload_n 1, 1) := by decide +kernel
theorem dX11_terms_22 : decode cX11_terms 22 = .ok (.iconst 1, 1) := by decide +kernel
theorem dX11_terms_23 : decode cX11_terms 23 = .ok (.if_icmp .ne 15, 3) := by decide +kernel
theorem dX11_terms_26 : decode cX11_terms 26 = .ok (.iload_n 2, 1) := by decide +kernel
theorem dX11_terms_27 : decode cX11_terms 27 = .ok (.i2l, 1) := by decide +kernel
theorem dX11_terms_28 : decode cX11_terms 28 = .ok (.lconst 0, 1) := by decide +kernel
theorem dX11_terms_29 : decode cX11_terms 29 = .ok (.ldc2_w 230, 3) := by decide +kernel
theorem dX11_terms_32 : decode cX11_terms 32 = .ok (.invokestatic 169, 3) := by decide +kernel
theorem dX11_terms_35 : decode cX11_terms 35 = .ok (.goto 25, 3) := by decide +kernel
theorem dX11_terms_38 : decode cX11_terms 38 = .ok (.iload_n 1, 1) := by decide +kernel
theorem dX11_terms_39 : decode cX11_terms 39 = .ok (.iconst 2, 1) := by decide +kernel
theorem dX11_terms_40 : decode cX11_terms 40 = .ok (.if_icmp .ne 19, 3) := by decide +kernel
theorem dX11_terms_43 : decode cX11_terms 43 = .ok (.iload_n 2, 1) := by decide +kernel
theorem dX11_terms_44 : decode cX11_terms 44 = .ok (.i2l, 1) := by decide +kernel
theorem dX11_terms_45 : decode cX11_terms 45 = .ok (.lconst 0, 1) := by decide +kernel
theorem dX11_terms_46 : decode cX11_terms 46 = .ok (.ldc2_w 224, 3) := by decide +kernel
theorem dX11_terms_49 : decode cX11_terms 49 = .ok (.invokestatic 169, 3) := by decide +kernel
theorem dX11_terms_52 : decode cX11_terms 52 = .ok (.ifCond .eq 7, 3) := by decide +kernel
theorem dX11_terms_55 : decode cX11_terms 55 = .ok (.iconst 1, 1) := by decide +kernel
theorem dX11_terms_56 : decode cX11_terms 56 = .ok (.goto 4, 3) := by decide +kernel
theorem dX11_terms_59 : decode cX11_terms 59 = .ok (.iconst 0, 1) := by decide +kernel
theorem dX11_terms_60 : decode cX11_terms 60 = .ok (.istore_n 3, 1) := by decide +kernel
theorem dX11_terms_61 : decode cX11_terms 61 = .ok (.iload_n 3, 1) := by decide +kernel
theorem dX11_terms_62 : decode cX11_terms 62 = .ok (.ifCond .ne 9, 3) := by decide +kernel
theorem dX11_terms_65 : decode cX11_terms 65 = .ok (.aload_n 0, 1) := by decide +kernel
theorem dX11_terms_66 : decode cX11_terms 66 = .ok (.iconst (-1), 1) := by decide +kernel
theorem dX11_terms_67 : decode cX11_terms 67 = .ok (.invokevirtual 158, 3) := by decide +kernel
theorem dX11_terms_70 : decode cX11_terms 70 = .ok (.ireturn, 1) := by decide +kernel
theorem dX11_terms_71 : decode cX11_terms 71 = .ok (.aload_n 0, 1) := by decide +kernel
theorem dX11_terms_72 : decode cX11_terms 72 = .ok (.iconst 0, 1) := by decide +kernel
theorem dX11_terms_73 : decode cX11_terms 73 = .ok (.putfield 155, 3) := by decide +kernel
theorem dX11_terms_76 : decode cX11_terms 76 = .ok (.aload_n 0, 1) := by decide +kernel
theorem dX11_terms_77 : decode cX11_terms 77 = .ok (.bipush 6, 2) := by decide +kernel
theorem dX11_terms_79 : decode cX11_terms 79 = .ok (.iload_n 1, 1) := by decide +kernel
theorem dX11_terms_80 : decode cX11_terms 80 = .ok (.iadd, 1) := by decide +kernel
theorem dX11_terms_81 : decode cX11_terms 81 = .ok (.iload_n 2, 1) := by decide +kernel
theorem dX11_terms_82 : decode cX11_terms 82 = .ok (.invokevirtual 226, 3) := by decide +kernel
theorem dX11_terms_85 : decode cX11_terms 85 = .ok (.ireturn, 1) := by decide +kernel
theorem dX11_row_0 : decode cX11_row 0 = .ok (.aload_n 0, 1) := by decide +kernel
theorem dX11_row_1 : decode cX11_row 1 = .ok (.iconst 0, 1) := by decide +kernel
theorem dX11_row_2 : decode cX11_row 2 = .ok (.putfield 149, 3) := by decide +kernel
theorem dX11_row_5 : decode cX11_row 5 = .ok (.aload_n 0, 1) := by decide +kernel
theorem dX11_row_6 : decode cX11_row 6 = .ok (.getfield 232, 3) := by decide +kernel
theorem dX11_row_9 : decode cX11_row 9 = .ok (.istore_n 1, 1) := by decide +kernel
theorem dX11_row_10 : decode cX11_row 10 = .ok (.aload_n 0, 1) := by decide +kernel
theorem dX11_row_11 : decode cX11_row 11 = .ok (.iconst 0, 1) := by decide +kernel
theorem dX11_row_12 : decode cX11_row 12 = .ok (.putfield 232, 3) := by decide +kernel
theorem dX11_row_15 : decode cX11_row 15 = .ok (.iload_n 1, 1) := by decide +kernel
theorem dX11_row_16 : decode cX11_row 16 = .ok (.ifCond .ne 10, 3) := by decide +kernel
theorem dX11_row_19 : decode cX11_row 19 = .ok (.aload_n 0, 1) := by decide +kernel
theorem dX11_row_20 : decode cX11_row 20 = .ok (.bipush (-6), 2) := by decide +kernel
theorem dX11_row_22 : decode cX11_row 22 = .ok (.invokevirtual 158, 3) := by decide +kernel
theorem dX11_row_25 : decode cX11_row 25 = .ok (.ireturn, 1) := by decide +kernel
theorem dX11_row_26 : decode cX11_row 26 = .ok (.aload_n 0, 1) := by decide +kernel
theorem dX11_row_27 : decode cX11_row 27 = .ok (.iconst 0, 1) := by decide +kernel
theorem dX11_row_28 : decode cX11_row 28 = .ok (.putfield 235, 3) := by decide +kernel
theorem dX11_row_31 : decode cX11_row 31 = .ok (.iconst 0, 1) := by decide +kernel
theorem dX11_row_32 : decode cX11_row 32 = .ok (.istore_n 2, 1) := by decide +kernel
theorem dX11_row_33 : decode cX11_row 33 = .ok (.iconst 0, 1) := by decide +kernel
theorem dX11_row_34 : decode cX11_row 34 = .ok (.istore_n 3, 1) := by decide +kernel
theorem dX11_row_35 : decode cX11_row 35 = .ok (.iload_n 3, 1) := by decide +kernel
theorem dX11_row_36 : decode cX11_row 36 = .ok (.iload_n 1, 1) := by decide +kernel
theorem dX11_row_37 : decode cX11_row 37 = .ok (.if_icmp .ge 61, 3) := by decide +kernel
theorem dX11_row_40 : decode cX11_row 40 = .ok (.iload_n 3, 1) := by decide +kernel
theorem dX11_row_41 : decode cX11_row 41 = .ok (.iconst 2, 1) := by decide +kernel
theorem dX11_row_42 : decode cX11_row 42 = .ok (.iadd, 1) := by decide +kernel
theorem dX11_row_43 : decode cX11_row 43 = .ok (.iload_n 1, 1) := by decide +kernel
theorem dX11_row_44 : decode cX11_row 44 = .ok (.if_icmp .ge 38, 3) := by decide +kernel
theorem dX11_row_47 : decode cX11_row 47 = .ok (.aload_n 0, 1) := by decide +kernel
theorem dX11_row_48 : decode cX11_row 48 = .ok (.aload_n 0, 1) := by decide +kernel
theorem dX11_row_49 : decode cX11_row 49 = .ok (.getfield 35, 3) := by decide +kernel
theorem dX11_row_52 : decode cX11_row 52 = .ok (.iload_n 3, 1) := by decide +kernel
theorem dX11_row_53 : decode cX11_row 53 = .ok (.iaload, 1) := by decide +kernel
theorem dX11_row_54 : decode cX11_row 54 = .ok (.aload_n 0, 1) := by decide +kernel
theorem dX11_row_55 : decode cX11_row 55 = .ok (.getfield 35, 3) := by decide +kernel
theorem dX11_row_58 : decode cX11_row 58 = .ok (.iload_n 3, 1) := by decide +kernel
theorem dX11_row_59 : decode cX11_row 59 = .ok (.iconst 1, 1) := by decide +kernel
theorem dX11_row_60 : decode cX11_row 60 = .ok (.iadd, 1) := by decide +kernel
theorem dX11_row_61 : decode cX11_row 61 = .ok (.iaload, 1) := by decide +kernel
theorem dX11_row_62 : decode cX11_row 62 = .ok (.aload_n 0, 1) := by decide +kernel
theorem dX11_row_63 : decode cX11_row 63 = .ok (.getfield 35, 3) := by decide +kernel
theorem dX11_row_66 : decode cX11_row 66 = .ok (.iload_n 3, 1) := by decide +kernel
theorem dX11_row_67 : decode cX11_row 67 = .ok (.iconst 2, 1) := by decide +kernel
theorem dX11_row_68 : decode cX11_row 68 = .ok (.iadd, 1) := by decide +kernel
theorem dX11_row_69 : decode cX11_row 69 = .ok (.iaload, 1) := by decide +kernel
theorem dX11_row_70 : decode cX11_row 70 = .ok (.invokevirtual 210, 3) := by decide +kernel
theorem dX11_row_73 : decode cX11_row 73 = .ok (.ifCond .lt 9, 3) := by decide +kernel
theorem dX11_row_76 : decode cX11_row 76 = .ok (.iinc 2 1, 3) := by decide +kernel
theorem dX11_row_79 : decode cX11_row 79 = .ok (.goto 13, 3) := by decide +kernel
theorem dX11_row_82 : decode cX11_row 82 = .ok (.aload_n 0, 1) := by decide +kernel
theorem dX11_row_83 : decode cX11_row 83 = .ok (.dup, 1) := by decide +kernel
theorem dX11_row_84 : decode cX11_row 84 = .ok (.getfield 235, 3) := by decide +kernel
theorem dX11_row_87 : decode cX11_row 87 = .ok (.iconst 1, 1) := by decide +kernel
theorem dX11_row_88 : decode cX11_row 88 = .ok (.iadd, 1) := by decide +kernel
theorem dX11_row_89 : decode cX11_row 89 = .ok (.putfield 235, 3) := by decide +kernel
theorem dX11_row_92 : decode cX11_row 92 = .ok (.iinc 3 3, 3) := by decide +kernel
theorem dX11_row_95 : decode cX11_row 95 = .ok (.goto (-60), 3) := by decide +kernel
theorem dX11_row_98 : decode cX11_row 98 = .ok (.aload_n 0, 1) := by decide +kernel
theorem dX11_row_99 : decode cX11_row 99 = .ok (.iload_n 2, 1) := by decide +kernel
theorem dX11_row_100 : decode cX11_row 100 = .ok (.invokevirtual 173, 3) := by decide +kernel
theorem dX11_row_103 : decode cX11_row 103 = .ok (.ireturn, 1) := by decide +kernel
theorem dX11_draughts_0 : decode cX11_draughts 0 = .ok (.aload_n 0, 1) := by decide +kernel
theorem dX11_draughts_1 : decode cX11_draughts 1 = .ok (.iconst 0, 1) := by decide +kernel
theorem dX11_draughts_2 : decode cX11_draughts 2 = .ok (.putfield 149, 3) := by decide +kernel
theorem dX11_draughts_5 : decode cX11_draughts 5 = .ok (.aload_n 0, 1) := by decide +kernel
theorem dX11_draughts_6 : decode cX11_draughts 6 = .ok (.getfield 235, 3) := by decide +kernel
theorem dX11_draughts_9 : decode cX11_draughts 9 = .ok (.ireturn, 1) := by decide +kernel
theorem dX11_four_0 : decode cX11_four 0 = .ok (.bipush 24, 2) := by decide +kernel
theorem dX11_four_2 : decode cX11_four 2 = .ok (.istore_n 2, 1) := by decide +kernel
theorem dX11_four_3 : decode cX11_four 3 = .ok (.iload_n 2, 1) := by decide +kernel
theorem dX11_four_4 : decode cX11_four 4 = .ok (.ifCond .lt 35, 3) := by decide +kernel
theorem dX11_four_7 : decode cX11_four 7 = .ok (.aload_n 0, 1) := by decide +kernel
theorem dX11_four_8 : decode cX11_four 8 = .ok (.getfield 35, 3) := by decide +kernel
theorem dX11_four_11 : decode cX11_four 11 = .ok (.aload_n 0, 1) := by decide +kernel
theorem dX11_four_12 : decode cX11_four 12 = .ok (.getfield 232, 3) := by decide +kernel
theorem dX11_four_15 : decode cX11_four 15 = .ok (.iload_n 1, 1) := by decide +kernel
theorem dX11_four_16 : decode cX11_four 16 = .ok (.iload_n 2, 1) := by decide +kernel
theorem dX11_four_17 : decode cX11_four 17 = .ok (.ishr, 1) := by decide +kernel
theorem dX11_four_18 : decode cX11_four 18 = .ok (.sipush 255, 3) := by decide +kernel
theorem dX11_four_21 : decode cX11_four 21 = .ok (.iand, 1) := by decide +kernel
theorem dX11_four_22 : decode cX11_four 22 = .ok (.iastore, 1) := by decide +kernel
theorem dX11_four_23 : decode cX11_four 23 = .ok (.aload_n 0, 1) := by decide +kernel
theorem dX11_four_24 : decode cX11_four 24 = .ok (.dup, 1) := by decide +kernel
theorem dX11_four_25 : decode cX11_four 25 = .ok (.getfield 232, 3) := by decide +kernel
theorem dX11_four_28 : decode cX11_four 28 = .ok (.iconst 1, 1) := by decide +kernel
theorem dX11_four_29 : decode cX11_four 29 = .ok (.iadd, 1) := by decide +kernel
theorem dX11_four_30 : decode cX11_four 30 = .ok (.putfield 232, 3) := by decide +kernel
theorem dX11_four_33 : decode cX11_four 33 = .ok (.iinc 2 (-8), 3) := by decide +kernel
theorem dX11_four_36 : decode cX11_four 36 = .ok (.goto (-33), 3) := by decide +kernel
theorem dX11_four_39 : decode cX11_four 39 = .ok (.return_, 1) := by decide +kernel
theorem dX11_feed_0 : decode cX11_feed 0 = .ok (.aload_n 0, 1) := by decide +kernel
theorem dX11_feed_1 : decode cX11_feed 1 = .ok (.iconst 0, 1) := by decide +kernel
theorem dX11_feed_2 : decode cX11_feed 2 = .ok (.putfield 149, 3) := by decide +kernel
theorem dX11_feed_5 : decode cX11_feed 5 = .ok (.aload_n 0, 1) := by decide +kernel
theorem dX11_feed_6 : decode cX11_feed 6 = .ok (.getfield 232, 3) := by decide +kernel
theorem dX11_feed_9 : decode cX11_feed 9 = .ok (.bipush 20, 2) := by decide +kernel
theorem dX11_feed_11 : decode cX11_feed 11 = .ok (.iadd, 1) := by decide +kernel
theorem dX11_feed_12 : decode cX11_feed 12 = .ok (.sipush 400, 3) := by decide +kernel
theorem dX11_feed_15 : decode cX11_feed 15 = .ok (.if_icmp .le 5, 3) := by decide +kernel
theorem dX11_feed_18 : decode cX11_feed 18 = .ok (.iconst (-1), 1) := by decide +kernel
theorem dX11_feed_19 : decode cX11_feed 19 = .ok (.ireturn, 1) := by decide +kernel
theorem dX11_feed_20 : decode cX11_feed 20 = .ok (.aload_n 0, 1) := by decide +kernel
theorem dX11_feed_21 : decode cX11_feed 21 = .ok (.iload_n 1, 1) := by decide +kernel
theorem dX11_feed_22 : decode cX11_feed 22 = .ok (.invokevirtual 238, 3) := by decide +kernel
theorem dX11_feed_25 : decode cX11_feed 25 = .ok (.aload_n 0, 1) := by decide +kernel
theorem dX11_feed_26 : decode cX11_feed 26 = .ok (.iload_n 2, 1) := by decide +kernel
theorem dX11_feed_27 : decode cX11_feed 27 = .ok (.invokevirtual 238, 3) := by decide +kernel
theorem dX11_feed_30 : decode cX11_feed 30 = .ok (.aload_n 0, 1) := by decide +kernel
theorem dX11_feed_31 : decode cX11_feed 31 = .ok (.iload_n 3, 1) := by decide +kernel
theorem dX11_feed_32 : decode cX11_feed 32 = .ok (.invokevirtual 238, 3) := by decide +kernel
theorem dX11_feed_35 : decode cX11_feed 35 = .ok (.aload_n 0, 1) := by decide +kernel
theorem dX11_feed_36 : decode cX11_feed 36 = .ok (.iload 4, 2) := by decide +kernel
theorem dX11_feed_38 : decode cX11_feed 38 = .ok (.invokevirtual 238, 3) := by decide +kernel
theorem dX11_feed_41 : decode cX11_feed 41 = .ok (.aload_n 0, 1) := by decide +kernel
theorem dX11_feed_42 : decode cX11_feed 42 = .ok (.iload 5, 2) := by decide +kernel
theorem dX11_feed_44 : decode cX11_feed 44 = .ok (.invokevirtual 238, 3) := by decide +kernel
theorem dX11_feed_47 : decode cX11_feed 47 = .ok (.aload_n 0, 1) := by decide +kernel
theorem dX11_feed_48 : decode cX11_feed 48 = .ok (.getfield 232, 3) := by decide +kernel
theorem dX11_feed_51 : decode cX11_feed 51 = .ok (.ireturn, 1) := by decide +kernel
theorem dX11_end_0 : decode cX11_end 0 = .ok (.aload_n 0, 1) := by decide +kernel
theorem dX11_end_1 : decode cX11_end 1 = .ok (.iconst 0, 1) := by decide +kernel
theorem dX11_end_2 : decode cX11_end 2 = .ok (.putfield 149, 3) := by decide +kernel
theorem dX11_end_5 : decode cX11_end 5 = .ok (.iload_n 1, 1) := by decide +kernel
theorem dX11_end_6 : decode cX11_end 6 = .ok (.ifCond .lt 11, 3) := by decide +kernel
theorem dX11_end_9 : decode cX11_end 9 = .ok (.iload_n 1, 1) := by decide +kernel
theorem dX11_end_10 : decode cX11_end 10 = .ok (.aload_n 0, 1) := by decide +kernel
theorem dX11_end_11 : decode cX11_end 11 = .ok (.getfield 232, 3) := by decide +kernel
theorem dX11_end_14 : decode cX11_end 14 = .ok (.if_icmp .le 5, 3) := by decide +kernel
theorem dX11_end_17 : decode cX11_end 17 = .ok (.iconst (-1), 1) := by decide +kernel
theorem dX11_end_18 : decode cX11_end 18 = .ok (.ireturn, 1) := by decide +kernel
theorem dX11_end_19 : decode cX11_end 19 = .ok (.aload_n 0, 1) := by decide +kernel
theorem dX11_end_20 : decode cX11_end 20 = .ok (.iload_n 1, 1) := by decide +kernel
theorem dX11_end_21 : decode cX11_end 21 = .ok (.putfield 232, 3) := by decide +kernel
theorem dX11_end_24 : decode cX11_end 24 = .ok (.iload_n 1, 1) := by decide +kernel
theorem dX11_end_25 : decode cX11_end 25 = .ok (.ireturn, 1) := by decide +kernel
theorem dX11_isSmall_0 : decode cX11_isSmall 0 = .ok (.iload_n 0, 1) := by decide +kernel
theorem dX11_isSmall_1 : decode cX11_isSmall 1 = .ok (.bipush 97, 2) := by decide +kernel
theorem dX11_isSmall_3 : decode cX11_isSmall 3 = .ok (.if_icmp .lt 13, 3) := by decide +kernel
theorem dX11_isSmall_6 : decode cX11_isSmall 6 = .ok (.iload_n 0, 1) := by decide +kernel
theorem dX11_isSmall_7 : decode cX11_isSmall 7 = .ok (.bipush 122, 2) := by decide +kernel
theorem dX11_isSmall_9 : decode cX11_isSmall 9 = .ok (.if_icmp .gt 7, 3) := by decide +kernel
theorem dX11_isSmall_12 : decode cX11_isSmall 12 = .ok (.iconst 1, 1) := by decide +kernel
theorem dX11_isSmall_13 : decode cX11_isSmall 13 = .ok (.goto 4, 3) := by decide +kernel
theorem dX11_isSmall_16 : decode cX11_isSmall 16 = .ok (.iconst 0, 1) := by decide +kernel
theorem dX11_isSmall_17 : decode cX11_isSmall 17 = .ok (.ireturn, 1) := by decide +kernel
theorem dX11_isDigit_0 : decode cX11_isDigit 0 = .ok (.iload_n 0, 1) := by decide +kernel
theorem dX11_isDigit_1 : decode cX11_isDigit 1 = .ok (.bipush 48, 2) := by decide +kernel
theorem dX11_isDigit_3 : decode cX11_isDigit 3 = .ok (.if_icmp .lt 13, 3) := by decide +kernel
theorem dX11_isDigit_6 : decode cX11_isDigit 6 = .ok (.iload_n 0, 1) := by decide +kernel
theorem dX11_isDigit_7 : decode cX11_isDigit 7 = .ok (.bipush 57, 2) := by decide +kernel
theorem dX11_isDigit_9 : decode cX11_isDigit 9 = .ok (.if_icmp .gt 7, 3) := by decide +kernel
theorem dX11_isDigit_12 : decode cX11_isDigit 12 = .ok (.iconst 1, 1) := by decide +kernel
theorem dX11_isDigit_13 : decode cX11_isDigit 13 = .ok (.goto 4, 3) := by decide +kernel
theorem dX11_isDigit_16 : decode cX11_isDigit 16 = .ok (.iconst 0, 1) := by decide +kernel
theorem dX11_isDigit_17 : decode cX11_isDigit 17 = .ok (.ireturn, 1) := by decide +kernel
theorem dX11_begin_0 : decode cX11_begin 0 = .ok (.aload_n 0, 1) := by decide +kernel
theorem dX11_begin_1 : decode cX11_begin 1 = .ok (.iconst 0, 1) := by decide +kernel
theorem dX11_begin_2 : decode cX11_begin 2 = .ok (.putfield 241, 3) := by decide +kernel
theorem dX11_begin_5 : decode cX11_begin 5 = .ok (.aload_n 0, 1) := by decide +kernel
theorem dX11_begin_6 : decode cX11_begin 6 = .ok (.iconst 0, 1) := by decide +kernel
theorem dX11_begin_7 : decode cX11_begin 7 = .ok (.putfield 244, 3) := by decide +kernel
theorem dX11_begin_10 : decode cX11_begin 10 = .ok (.aload_n 0, 1) := by decide +kernel
theorem dX11_begin_11 : decode cX11_begin 11 = .ok (.iconst (-1), 1) := by decide +kernel
theorem dX11_begin_12 : decode cX11_begin 12 = .ok (.putfield 38, 3) := by decide +kernel
theorem dX11_begin_15 : decode cX11_begin 15 = .ok (.aload_n 0, 1) := by decide +kernel
theorem dX11_begin_16 : decode cX11_begin 16 = .ok (.invokevirtual 248, 3) := by decide +kernel
theorem dX11_begin_19 : decode cX11_begin 19 = .ok (.return_, 1) := by decide +kernel
theorem dX11_next_0 : decode cX11_next 0 = .ok (.aload_n 0, 1) := by decide +kernel
theorem dX11_next_1 : decode cX11_next 1 = .ok (.aload_n 0, 1) := by decide +kernel
theorem dX11_next_2 : decode cX11_next 2 = .ok (.getfield 241, 3) := by decide +kernel
theorem dX11_next_5 : decode cX11_next 5 = .ok (.putfield 251, 3) := by decide +kernel
theorem dX11_next_8 : decode cX11_next 8 = .ok (.aload_n 0, 1) := by decide +kernel
theorem dX11_next_9 : decode cX11_next 9 = .ok (.getfield 251, 3) := by decide +kernel
theorem dX11_next_12 : decode cX11_next 12 = .ok (.aload_n 0, 1) := by decide +kernel
theorem dX11_next_13 : decode cX11_next 13 = .ok (.getfield 232, 3) := by decide +kernel
theorem dX11_next_16 : decode cX11_next 16 = .ok (.if_icmp .ge 30, 3) := by decide +kernel
theorem dX11_next_19 : decode cX11_next 19 = .ok (.aload_n 0, 1) := by decide +kernel
theorem dX11_next_20 : decode cX11_next 20 = .ok (.getfield 35, 3) := by decide +kernel
theorem dX11_next_23 : decode cX11_next 23 = .ok (.aload_n 0, 1) := by decide +kernel
theorem dX11_next_24 : decode cX11_next 24 = .ok (.getfield 251, 3) := by decide +kernel
theorem dX11_next_27 : decode cX11_next 27 = .ok (.iaload, 1) := by decide +kernel
theorem dX11_next_28 : decode cX11_next 28 = .ok (.bipush 32, 2) := by decide +kernel
theorem dX11_next_30 : decode cX11_next 30 = .ok (.if_icmp .ne 16, 3) := by decide +kernel
theorem dX11_next_33 : decode cX11_next 33 = .ok (.aload_n 0, 1) := by decide +kernel
theorem dX11_next_34 : decode cX11_next 34 = .ok (.dup, 1) := by decide +kernel
theorem dX11_next_35 : decode cX11_next 35 = .ok (.getfield 251, 3) := by decide +kernel
theorem dX11_next_38 : decode cX11_next 38 = .ok (.iconst 1, 1) := by decide +kernel
theorem dX11_next_39 : decode cX11_next 39 = .ok (.iadd, 1) := by decide +kernel
theorem dX11_next_40 : decode cX11_next 40 = .ok (.putfield 251, 3) := by decide +kernel
theorem dX11_next_43 : decode cX11_next 43 = .ok (.goto (-35), 3) := by decide +kernel
theorem dX11_next_46 : decode cX11_next 46 = .ok (.aload_n 0, 1) := by decide +kernel
theorem dX11_next_47 : decode cX11_next 47 = .ok (.aload_n 0, 1) := by decide +kernel
theorem dX11_next_48 : decode cX11_next 48 = .ok (.getfield 251, 3) := by decide +kernel
theorem dX11_next_51 : decode cX11_next 51 = .ok (.putfield 241, 3) := by decide +kernel
theorem dX11_next_54 : decode cX11_next 54 = .ok (.aload_n 0, 1) := by decide +kernel
theorem dX11_next_55 : decode cX11_next 55 = .ok (.lconst 0, 1) := by decide +kernel
theorem dX11_next_56 : decode cX11_next 56 = .ok (.putfield 254, 3) := by decide +kernel
theorem dX11_next_59 : decode cX11_next 59 = .ok (.aload_n 0, 1) := by decide +kernel
theorem dX11_next_60 : decode cX11_next 60 = .ok (.aload_n 0, 1) := by decide +kernel
theorem dX11_next_61 : decode cX11_next 61 = .ok (.getfield 251, 3) := by decide +kernel
theorem dX11_next_64 : decode cX11_next 64 = .ok (.aload_n 0, 1) := by decide +kernel
theorem dX11_next_65 : decode cX11_next 65 = .ok (.getfield 232, 3) := by decide +kernel
theorem dX11_next_68 : decode cX11_next 68 = .ok (.if_icmp .ne 7, 3) := by decide +kernel
theorem dX11_next_71 : decode cX11_next 71 = .ok (.iconst 0, 1) := by decide +kernel
theorem dX11_next_72 : decode cX11_next 72 = .ok (.goto 42, 3) := by decide +kernel
theorem dX11_next_75 : decode cX11_next 75 = .ok (.aload_n 0, 1) := by decide +kernel
theorem dX11_next_76 : decode cX11_next 76 = .ok (.getfield 35, 3) := by decide +kernel
theorem dX11_next_79 : decode cX11_next 79 = .ok (.aload_n 0, 1) := by decide +kernel
theorem dX11_next_80 : decode cX11_next 80 = .ok (.getfield 251, 3) := by decide +kernel
theorem dX11_next_83 : decode cX11_next 83 = .ok (.iaload, 1) := by decide +kernel
theorem dX11_next_84 : decode cX11_next 84 = .ok (.invokestatic 258, 3) := by decide +kernel
theorem dX11_next_87 : decode cX11_next 87 = .ok (.ifCond .eq 7, 3) := by decide +kernel
theorem dX11_next_90 : decode cX11_next 90 = .ok (.iconst 1, 1) := by decide +kernel
theorem dX11_next_91 : decode cX11_next 91 = .ok (.goto 23, 3) := by decide +kernel
theorem dX11_next_94 : decode cX11_next 94 = .ok (.aload_n 0, 1) := by decide +kernel
theorem dX11_next_95 : decode cX11_next 95 = .ok (.getfield 35, 3) := by decide +kernel
theorem dX11_next_98 : decode cX11_next 98 = .ok (.aload_n 0, 1) := by decide +kernel
theorem dX11_next_99 : decode cX11_next 99 = .ok (.getfield 251, 3) := by decide +kernel
theorem dX11_next_102 : decode cX11_next 102 = .ok (.iaload, 1) := by decide +kernel
theorem dX11_next_103 : decode cX11_next 103 = .ok (.invokestatic 261, 3) := by decide +kernel
theorem dX11_next_106 : decode cX11_next 106 = .ok (.ifCond .eq 7, 3) := by decide +kernel
theorem dX11_next_109 : decode cX11_next 109 = .ok (.iconst 2, 1) := by decide +kernel
theorem dX11_next_110 : decode cX11_next 110 = .ok (.goto 4, 3) := by decide +kernel
theorem dX11_next_113 : decode cX11_next 113 = .ok (.iconst 3, 1) := by decide +kernel
theorem dX11_next_114 : decode cX11_next 114 = .ok (.putfield 264, 3) := by decide +kernel
theorem dX11_next_117 : decode cX11_next 117 = .ok (.aload_n 0, 1) := by decide +kernel
theorem dX11_next_118 : decode cX11_next 118 = .ok (.getfield 264, 3) := by decide +kernel
theorem dX11_next_121 : decode cX11_next 121 = .ok (.iconst 3, 1) := by decide +kernel
theorem dX11_next_122 : decode cX11_next 122 = .ok (.if_icmp .ne 27, 3) := by decide +kernel
theorem dX11_next_125 : decode cX11_next 125 = .ok (.aload_n 0, 1) := by decide +kernel
theorem dX11_next_126 : decode cX11_next 126 = .ok (.aload_n 0, 1) := by decide +kernel
theorem dX11_next_127 : decode cX11_next 127 = .ok (.getfield 35, 3) := by decide +kernel
theorem dX11_next_130 : decode cX11_next 130 = .ok (.aload_n 0, 1) := by decide +kernel
theorem dX11_next_131 : decode cX11_next 131 = .ok (.getfield 251, 3) := by decide +kernel
theorem dX11_next_134 : decode cX11_next 134 = .ok (.iaload, 1) := by decide +kernel
theorem dX11_next_135 : decode cX11_next 135 = .ok (.i2l, 1) := by decide +kernel
theorem dX11_next_136 : decode cX11_next 136 = .ok (.putfield 254, 3) := by decide +kernel
theorem dX11_next_139 : decode cX11_next 139 = .ok (.aload_n 0, 1) := by decide +kernel
theorem dX11_next_140 : decode cX11_next 140 = .ok (.dup, 1) := by decide +kernel
theorem dX11_next_141 : decode cX11_next 141 = .ok (.getfield 241, 3) := by decide +kernel
theorem dX11_next_144 : decode cX11_next 144 = .ok (.iconst 1, 1) := by decide +kernel
theorem dX11_next_145 : decode cX11_next 145 = .ok (.iadd, 1) := by decide +kernel
theorem dX11_next_146 : decode cX11_next 146 = .ok (.putfield 241, 3) := by decide +kernel
theorem dX11_next_149 : decode cX11_next 149 = .ok (.aload_n 0, 1) := by decide +kernel
theorem dX11_next_150 : decode cX11_next 150 = .ok (.getfield 264, 3) := by decide +kernel
theorem dX11_next_153 : decode cX11_next 153 = .ok (.iconst 1, 1) := by decide +kernel
theorem dX11_next_154 : decode cX11_next 154 = .ok (.if_icmp .ne 89, 3) := by decide +kernel
theorem dX11_next_157 : decode cX11_next 157 = .ok (.aload_n 0, 1) := by decide +kernel
theorem dX11_next_158 : decode cX11_next 158 = .ok (.getfield 241, 3) := by decide +kernel
theorem dX11_next_161 : decode cX11_next 161 = .ok (.aload_n 0, 1) := by decide +kernel
theorem dX11_next_162 : decode cX11_next 162 = .ok (.getfield 232, 3) := by decide +kernel
theorem dX11_next_165 : decode cX11_next 165 = .ok (.if_icmp .ge 78, 3) := by decide +kernel
theorem dX11_next_168 : decode cX11_next 168 = .ok (.aload_n 0, 1) := by decide +kernel
theorem dX11_next_169 : decode cX11_next 169 = .ok (.getfield 35, 3) := by decide +kernel
theorem dX11_next_172 : decode cX11_next 172 = .ok (.aload_n 0, 1) := by decide +kernel
theorem dX11_next_173 : decode cX11_next 173 = .ok (.getfield 241, 3) := by decide +kernel
theorem dX11_next_176 : decode cX11_next 176 = .ok (.iaload, 1) := by decide +kernel
theorem dX11_next_177 : decode cX11_next 177 = .ok (.invokestatic 258, 3) := by decide +kernel
theorem dX11_next_180 : decode cX11_next 180 = .ok (.ifCond .eq 63, 3) := by decide +kernel
theorem dX11_next_183 : decode cX11_next 183 = .ok (.aload_n 0, 1) := by decide +kernel
theorem dX11_next_184 : decode cX11_next 184 = .ok (.aload_n 0, 1) := by decide +kernel
theorem dX11_next_185 : decode cX11_next 185 = .ok (.getfield 241, 3) := by decide +kernel
theorem dX11_next_188 : decode cX11_next 188 = .ok (.aload_n 0, 1) := by decide +kernel
theorem dX11_next_189 : decode cX11_next 189 = .ok (.getfield 251, 3) := by decide +kernel
theorem dX11_next_192 : decode cX11_next 192 = .ok (.isub, 1) := by decide +kernel
theorem dX11_next_193 : decode cX11_next 193 = .ok (.bipush 10, 2) := by decide +kernel
theorem dX11_next_195 : decode cX11_next 195 = .ok (.if_icmp .ge 29, 3) := by decide +kernel
theorem dX11_next_198 : decode cX11_next 198 = .ok (.aload_n 0, 1) := by decide +kernel
theorem dX11_next_199 : decode cX11_next 199 = .ok (.getfield 254, 3) := by decide +kernel
theorem dX11_next_202 : decode cX11_next 202 = .ok (.ldc2_w 267, 3) := by decide +kernel
theorem dX11_next_205 : decode cX11_next 205 = .ok (.lmul, 1) := by decide +kernel
theorem dX11_next_206 : decode cX11_next 206 = .ok (.aload_n 0, 1) := by decide +kernel
theorem dX11_next_207 : decode cX11_next 207 = .ok (.getfield 35, 3) := by decide +kernel
theorem dX11_next_210 : decode cX11_next 210 = .ok (.aload_n 0, 1) := by decide +kernel
theorem dX11_next_211 : decode cX11_next 211 = .ok (.getfield 241, 3) := by decide +kernel
theorem dX11_next_214 : decode cX11_next 214 = .ok (.iaload, 1) := by decide +kernel
theorem dX11_next_215 : decode cX11_next 215 = .ok (.i2l, 1) := by decide +kernel
theorem dX11_next_216 : decode cX11_next 216 = .ok (.ladd, 1) := by decide +kernel
theorem dX11_next_217 : decode cX11_next 217 = .ok (.ldc2_w 269, 3) := by decide +kernel
theorem dX11_next_220 : decode cX11_next 220 = .ok (.lsub, 1) := by decide +kernel
theorem dX11_next_221 : decode cX11_next 221 = .ok (.goto 6, 3) := by decide +kernel
theorem dX11_next_224 : decode cX11_next 224 = .ok (.ldc2_w 271, 3) := by decide +kernel
theorem dX11_next_227 : decode cX11_next 227 = .ok (.putfield 254, 3) := by decide +kernel
theorem dX11_next_230 : decode cX11_next 230 = .ok (.aload_n 0, 1) := by decide +kernel
theorem dX11_next_231 : decode cX11_next 231 = .ok (.dup, 1) := by decide +kernel
theorem dX11_next_232 : decode cX11_next 232 = .ok (.getfield 241, 3) := by decide +kernel
theorem dX11_next_235 : decode cX11_next 235 = .ok (.iconst 1, 1) := by decide +kernel
theorem dX11_next_236 : decode cX11_next 236 = .ok (.iadd, 1) := by decide +kernel
theorem dX11_next_237 : decode cX11_next 237 = .ok (.putfield 241, 3) := by decide +kernel
theorem dX11_next_240 : decode cX11_next 240 = .ok (.goto (-91), 3) := by decide +kernel
theorem dX11_next_243 : decode cX11_next 243 = .ok (.aload_n 0, 1) := by decide +kernel
theorem dX11_next_244 : decode cX11_next 244 = .ok (.getfield 264, 3) := by decide +kernel
theorem dX11_next_247 : decode cX11_next 247 = .ok (.iconst 2, 1) := by decide +kernel
theorem dX11_next_248 : decode cX11_next 248 = .ok (.if_icmp .ne 87, 3) := by decide +kernel
theorem dX11_next_251 : decode cX11_next 251 = .ok (.aload_n 0, 1) := by decide +kernel
theorem dX11_next_252 : decode cX11_next 252 = .ok (.getfield 241, 3) := by decide +kernel
theorem dX11_next_255 : decode cX11_next 255 = .ok (.aload_n 0, 1) := by decide +kernel
theorem dX11_next_256 : decode cX11_next 256 = .ok (.getfield 232, 3) := by decide +kernel
theorem dX11_next_259 : decode cX11_next 259 = .ok (.if_icmp .ge 76, 3) := by decide +kernel
theorem dX11_next_262 : decode cX11_next 262 = .ok (.aload_n 0, 1) := by decide +kernel
theorem dX11_next_263 : decode cX11_next 263 = .ok (.getfield 35, 3) := by decide +kernel
theorem dX11_next_266 : decode cX11_next 266 = .ok (.aload_n 0, 1) := by decide +kernel
theorem dX11_next_267 : decode cX11_next 267 = .ok (.getfield 241, 3) := by decide +kernel
theorem dX11_next_270 : decode cX11_next 270 = .ok (.iaload, 1) := by decide +kernel
theorem dX11_next_271 : decode cX11_next 271 = .ok (.invokestatic 261, 3) := by decide +kernel
theorem dX11_next_274 : decode cX11_next 274 = .ok (.ifCond .eq 61, 3) := by decide +kernel
theorem dX11_next_277 : decode cX11_next 277 = .ok (.aload_n 0, 1) := by decide +kernel
theorem dX11_next_278 : decode cX11_next 278 = .ok (.aload_n 0, 1) := by decide +kernel
theorem dX11_next_279 : decode cX11_next 279 = .ok (.getfield 254, 3) := by decide +kernel
theorem dX11_next_282 : decode cX11_next 282 = .ok (.ldc2_w 273, 3) := by decide +kernel
theorem dX11_next_285 : decode cX11_next 285 = .ok (.lcmp, 1) := by decide +kernel
theorem dX11_next_286 : decode cX11_next 286 = .ok (.ifCond .le 10, 3) := by decide +kernel
theorem dX11_next_289 : decode cX11_next 289 = .ok (.aload_n 0, 1) := by decide +kernel
theorem dX11_next_290 : decode cX11_next 290 = .ok (.getfield 254, 3) := by decide +kernel
theorem dX11_next_293 : decode cX11_next 293 = .ok (.goto 26, 3) := by decide +kernel
theorem dX11_next_296 : decode cX11_next 296 = .ok (.aload_n 0, 1) := by decide +kernel
theorem dX11_next_297 : decode cX11_next 297 = .ok (.getfield 254, 3) := by decide +kernel
theorem dX11_next_300 : decode cX11_next 300 = .ok (.ldc2_w 230, 3) := by decide +kernel
theorem dX11_next_303 : decode cX11_next 303 = .ok (.lmul, 1) := by decide +kernel
theorem dX11_next_304 : decode cX11_next 304 = .ok (.aload_n 0, 1) := by decide +kernel
theorem dX11_next_305 : decode cX11_next 305 = .ok (.getfield 35, 3) := by decide +kernel
theorem dX11_next_308 : decode cX11_next 308 = .ok (.aload_n 0, 1) := by decide +kernel
theorem dX11_next_309 : decode cX11_next 309 = .ok (.getfield 241, 3) := by decide +kernel
theorem dX11_next_312 : decode cX11_next 312 = .ok (.iaload, 1) := by decide +kernel
theorem dX11_next_313 : decode cX11_next 313 = .ok (.i2l, 1) := by decide +kernel
theorem dX11_next_314 : decode cX11_next 314 = .ok (.ladd, 1) := by decide +kernel
theorem dX11_next_315 : decode cX11_next 315 = .ok (.ldc2_w 275, 3) := by decide +kernel
theorem dX11_next_318 : decode cX11_next 318 = .ok (.lsub, 1) := by decide +kernel
theorem dX11_next_319 : decode cX11_next 319 = .ok (.putfield 254, 3) := by decide +kernel
theorem dX11_next_322 : decode cX11_next 322 = .ok (.aload_n 0, 1) := by decide +kernel
theorem dX11_next_323 : decode cX11_next 323 = .ok (.dup, 1) := by decide +kernel
theorem dX11_next_324 : decode cX11_next 324 = .ok (.getfield 241, 3) := by decide +kernel
theorem dX11_next_327 : decode cX11_next 327 = .ok (.iconst 1, 1) := by decide +kernel
theorem dX11_next_328 : decode cX11_next 328 = .ok (.iadd, 1) := by decide +kernel
theorem dX11_next_329 : decode cX11_next 329 = .ok (.putfield 241, 3) := by decide +kernel
theorem dX11_next_332 : decode cX11_next 332 = .ok (.goto (-89), 3) := by decide +kernel
theorem dX11_next_335 : decode cX11_next 335 = .ok (.return_, 1) := by decide +kernel
theorem dX11_isWord_0 : decode cX11_isWord 0 = .ok (.aload_n 0, 1) := by decide +kernel
theorem dX11_isWord_1 : decode cX11_isWord 1 = .ok (.getfield 264, 3) := by decide +kernel
theorem dX11_isWord_4 : decode cX11_isWord 4 = .ok (.iconst 1, 1) := by decide +kernel
theorem dX11_isWord_5 : decode cX11_isWord 5 = .ok (.if_icmp .ne 16, 3) := by decide +kernel
theorem dX11_isWord_8 : decode cX11_isWord 8 = .ok (.aload_n 0, 1) := by decide +kernel
theorem dX11_isWord_9 : decode cX11_isWord 9 = .ok (.getfield 254, 3) := by decide +kernel
theorem dX11_isWord_12 : decode cX11_isWord 12 = .ok (.lload_n 1, 1) := by decide +kernel
theorem dX11_isWord_13 : decode cX11_isWord 13 = .ok (.lcmp, 1) := by decide +kernel
theorem dX11_isWord_14 : decode cX11_isWord 14 = .ok (.ifCond .ne 7, 3) := by decide +kernel
theorem dX11_isWord_17 : decode cX11_isWord 17 = .ok (.iconst 1, 1) := by decide +kernel
theorem dX11_isWord_18 : decode cX11_isWord 18 = .ok (.goto 4, 3) := by decide +kernel
theorem dX11_isWord_21 : decode cX11_isWord 21 = .ok (.iconst 0, 1) := by decide +kernel
theorem dX11_isWord_22 : decode cX11_isWord 22 = .ok (.ireturn, 1) := by decide +kernel
theorem dX11_isSign_0 : decode cX11_isSign 0 = .ok (.aload_n 0, 1) := by decide +kernel
theorem dX11_isSign_1 : decode cX11_isSign 1 = .ok (.getfield 264, 3) := by decide +kernel
theorem dX11_isSign_4 : decode cX11_isSign 4 = .ok (.iconst 3, 1) := by decide +kernel
theorem dX11_isSign_5 : decode cX11_isSign 5 = .ok (.if_icmp .ne 17, 3) := by decide +kernel
theorem dX11_isSign_8 : decode cX11_isSign 8 = .ok (.aload_n 0, 1) := by decide +kernel
theorem dX11_isSign_9 : decode cX11_isSign 9 = .ok (.getfield 254, 3) := by decide +kernel
theorem dX11_isSign_12 : decode cX11_isSign 12 = .ok (.iload_n 1, 1) := by decide +kernel
theorem dX11_isSign_13 : decode cX11_isSign 13 = .ok (.i2l, 1) := by decide +kernel
theorem dX11_isSign_14 : decode cX11_isSign 14 = .ok (.lcmp, 1) := by decide +kernel
theorem dX11_isSign_15 : decode cX11_isSign 15 = .ok (.ifCond .ne 7, 3) := by decide +kernel
theorem dX11_isSign_18 : decode cX11_isSign 18 = .ok (.iconst 1, 1) := by decide +kernel
theorem dX11_isSign_19 : decode cX11_isSign 19 = .ok (.goto 4, 3) := by decide +kernel
theorem dX11_isSign_22 : decode cX11_isSign 22 = .ok (.iconst 0, 1) := by decide +kernel
theorem dX11_isSign_23 : decode cX11_isSign 23 = .ok (.ireturn, 1) := by decide +kernel
theorem dX11_must_0 : decode cX11_must 0 = .ok (.aload_n 0, 1) := by decide +kernel
theorem dX11_must_1 : decode cX11_must 1 = .ok (.getfield 244, 3) := by decide +kernel
theorem dX11_must_4 : decode cX11_must 4 = .ok (.ifCond .ne 20, 3) := by decide +kernel
theorem dX11_must_7 : decode cX11_must 7 = .ok (.iload_n 1, 1) := by decide +kernel
theorem dX11_must_8 : decode cX11_must 8 = .ok (.ifCond .ne 16, 3) := by decide +kernel
theorem dX11_must_11 : decode cX11_must 11 = .ok (.aload_n 0, 1) := by decide +kernel
theorem dX11_must_12 : decode cX11_must 12 = .ok (.iconst 1, 1) := by decide +kernel
theorem dX11_must_13 : decode cX11_must 13 = .ok (.putfield 244, 3) := by decide +kernel
theorem dX11_must_16 : decode cX11_must 16 = .ok (.aload_n 0, 1) := by decide +kernel
theorem dX11_must_17 : decode cX11_must 17 = .ok (.aload_n 0, 1) := by decide +kernel
theorem dX11_must_18 : decode cX11_must 18 = .ok (.getfield 251, 3) := by decide +kernel
theorem dX11_must_21 : decode cX11_must 21 = .ok (.putfield 38, 3) := by decide +kernel
theorem dX11_must_24 : decode cX11_must 24 = .ok (.aload_n 0, 1) := by decide +kernel
theorem dX11_must_25 : decode cX11_must 25 = .ok (.getfield 244, 3) := by decide +kernel
theorem dX11_must_28 : decode cX11_must 28 = .ok (.ifCond .ne 7, 3) := by decide +kernel
theorem dX11_must_31 : decode cX11_must 31 = .ok (.aload_n 0, 1) := by decide +kernel
theorem dX11_must_32 : decode cX11_must 32 = .ok (.invokevirtual 248, 3) := by decide +kernel
theorem dX11_must_35 : decode cX11_must 35 = .ok (.return_, 1) := by decide +kernel
theorem dX11_number_0 : decode cX11_number 0 = .ok (.aload_n 0, 1) := by decide +kernel
theorem dX11_number_1 : decode cX11_number 1 = .ok (.getfield 254, 3) := by decide +kernel
theorem dX11_number_4 : decode cX11_number 4 = .ok (.l2i, 1) := by decide +kernel
theorem dX11_number_5 : decode cX11_number 5 = .ok (.istore 5, 2) := by decide +kernel
theorem dX11_number_7 : decode cX11_number 7 = .ok (.aload_n 0, 1) := by decide +kernel
theorem dX11_number_8 : decode cX11_number 8 = .ok (.aload_n 0, 1) := by decide +kernel
theorem dX11_number_9 : decode cX11_number 9 = .ok (.getfield 264, 3) := by decide +kernel
theorem dX11_number_12 : decode cX11_number 12 = .ok (.iconst 2, 1) := by decide +kernel
theorem dX11_number_13 : decode cX11_number 13 = .ok (.if_icmp .ne 19, 3) := by decide +kernel
theorem dX11_number_16 : decode cX11_number 16 = .ok (.aload_n 0, 1) := by decide +kernel
theorem dX11_number_17 : decode cX11_number 17 = .ok (.getfield 254, 3) := by decide +kernel
theorem dX11_number_20 : decode cX11_number 20 = .ok (.lload_n 1, 1) := by decide +kernel
theorem dX11_number_21 : decode cX11_number 21 = .ok (.lload_n 3, 1) := by decide +kernel
theorem dX11_number_22 : decode cX11_number 22 = .ok (.invokestatic 169, 3) := by decide +kernel
theorem dX11_number_25 : decode cX11_number 25 = .ok (.ifCond .eq 7, 3) := by decide +kernel
theorem dX11_number_28 : decode cX11_number 28 = .ok (.iconst 1, 1) := by decide +kernel
theorem dX11_number_29 : decode cX11_number 29 = .ok (.goto 4, 3) := by decide +kernel
theorem dX11_number_32 : decode cX11_number 32 = .ok (.iconst 0, 1) := by decide +kernel
theorem dX11_number_33 : decode cX11_number 33 = .ok (.invokevirtual 277, 3) := by decide +kernel
theorem dX11_number_36 : decode cX11_number 36 = .ok (.iload 5, 2) := by decide +kernel
theorem dX11_number_38 : decode cX11_number 38 = .ok (.ireturn, 1) := by decide +kernel
theorem dX11_fault_0 : decode cX11_fault 0 = .ok (.aload_n 0, 1) := by decide +kernel
theorem dX11_fault_1 : decode cX11_fault 1 = .ok (.iconst 0, 1) := by decide +kernel
theorem dX11_fault_2 : decode cX11_fault 2 = .ok (.putfield 149, 3) := by decide +kernel
theorem dX11_fault_5 : decode cX11_fault 5 = .ok (.aload_n 0, 1) := by decide +kernel
theorem dX11_fault_6 : decode cX11_fault 6 = .ok (.getfield 38, 3) := by decide +kernel
theorem dX11_fault_9 : decode cX11_fault 9 = .ok (.ireturn, 1) := by decide +kernel
theorem dX11_emit_0 : decode cX11_emit 0 = .ok (.aload_n 0, 1) := by decide +kernel
theorem dX11_emit_1 : decode cX11_emit 1 = .ok (.getfield 45, 3) := by decide +kernel
theorem dX11_emit_4 : decode cX11_emit 4 = .ok (.aload_n 0, 1) := by decide +kernel
theorem dX11_emit_5 : decode cX11_emit 5 = .ok (.getfield 281, 3) := by decide +kernel
theorem dX11_emit_8 : decode cX11_emit 8 = .ok (.iload_n 1, 1) := by decide +kernel
theorem dX11_emit_9 : decode cX11_emit 9 = .ok (.iastore, 1) := by decide +kernel
theorem dX11_emit_10 : decode cX11_emit 10 = .ok (.aload_n 0, 1) := by decide +kernel
theorem dX11_emit_11 : decode cX11_emit 11 = .ok (.getfield 48, 3) := by decide +kernel
theorem dX11_emit_14 : decode cX11_emit 14 = .ok (.aload_n 0, 1) := by decide +kernel
theorem dX11_emit_15 : decode cX11_emit 15 = .ok (.getfield 281, 3) := by decide +kernel
theorem dX11_emit_18 : decode cX11_emit 18 = .ok (.iload_n 2, 1) := by decide +kernel
theorem dX11_emit_19 : decode cX11_emit 19 = .ok (.iastore, 1) := by decide +kernel
theorem dX11_emit_20 : decode cX11_emit 20 = .ok (.aload_n 0, 1) := by decide +kernel
theorem dX11_emit_21 : decode cX11_emit 21 = .ok (.dup, 1) := by decide +kernel
theorem dX11_emit_22 : decode cX11_emit 22 = .ok (.getfield 281, 3) := by decide +kernel
theorem dX11_emit_25 : decode cX11_emit 25 = .ok (.iconst 1, 1) := by decide +kernel
theorem dX11_emit_26 : decode cX11_emit 26 = .ok (.iadd, 1) := by decide +kernel
theorem dX11_emit_27 : decode cX11_emit 27 = .ok (.putfield 281, 3) := by decide +kernel
theorem dX11_emit_30 : decode cX11_emit 30 = .ok (.return_, 1) := by decide +kernel
theorem dX11_push_0 : decode cX11_push 0 = .ok (.aload_n 0, 1) := by decide +kernel
theorem dX11_push_1 : decode cX11_push 1 = .ok (.getfield 51, 3) := by decide +kernel
theorem dX11_push_4 : decode cX11_push 4 = .ok (.aload_n 0, 1) := by decide +kernel
theorem dX11_push_5 : decode cX11_push 5 = .ok (.getfield 284, 3) := by decide +kernel
theorem dX11_push_8 : decode cX11_push 8 = .ok (.iload_n 1, 1) := by decide +kernel
theorem dX11_push_9 : decode cX11_push 9 = .ok (.iastore, 1) := by decide +kernel
theorem dX11_push_10 : decode cX11_push 10 = .ok (.aload_n 0, 1) := by decide +kernel
theorem dX11_push_11 : decode cX11_push 11 = .ok (.getfield 54, 3) := by decide +kernel
theorem dX11_push_14 : decode cX11_push 14 = .ok (.aload_n 0, 1) := by decide +kernel
theorem dX11_push_15 : decode cX11_push 15 = .ok (.getfield 284, 3) := by decide +kernel
theorem dX11_push_18 : decode cX11_push 18 = .ok (.iload_n 2, 1) := by decide +kernel
theorem dX11_push_19 : decode cX11_push 19 = .ok (.iastore, 1) := by decide +kernel
theorem dX11_push_20 : decode cX11_push 20 = .ok (.aload_n 0, 1) := by decide +kernel
theorem dX11_push_21 : decode cX11_push 21 = .ok (.dup, 1) := by decide +kernel
theorem dX11_push_22 : decode cX11_push 22 = .ok (.getfield 284, 3) := by decide +kernel
theorem dX11_push_25 : decode cX11_push 25 = .ok (.iconst 1, 1) := by decide +kernel
theorem dX11_push_26 : decode cX11_push 26 = .ok (.iadd, 1) := by decide +kernel
theorem dX11_push_27 : decode cX11_push 27 = .ok (.putfield 284, 3) := by decide +kernel
theorem dX11_push_30 : decode cX11_push 30 = .ok (.return_, 1) := by decide +kernel
theorem dX11_binds_0 : decode cX11_binds 0 = .ok (.iload_n 0, 1) := by decide +kernel
theorem dX11_binds_1 : decode cX11_binds 1 = .ok (.bipush 31, 2) := by decide +kernel
theorem dX11_binds_3 : decode cX11_binds 3 = .ok (.if_icmp .lt 7, 3) := by decide +kernel
theorem dX11_binds_6 : decode cX11_binds 6 = .ok (.iconst 0, 1) := by decide +kernel
theorem dX11_binds_7 : decode cX11_binds 7 = .ok (.goto 55, 3) := by decide +kernel
theorem dX11_binds_10 : decode cX11_binds 10 = .ok (.iload_n 0, 1) := by decide +kernel
theorem dX11_binds_11 : decode cX11_binds 11 = .ok (.bipush 30, 2) := by decide +kernel
theorem dX11_binds_13 : decode cX11_binds 13 = .ok (.if_icmp .ne 7, 3) := by decide +kernel
theorem dX11_binds_16 : decode cX11_binds 16 = .ok (.iconst 1, 1) := by decide +kernel
theorem dX11_binds_17 : decode cX11_binds 17 = .ok (.goto 45, 3) := by decide +kernel
theorem dX11_binds_20 : decode cX11_binds 20 = .ok (.iload_n 0, 1) := by decide +kernel
theorem dX11_binds_21 : decode cX11_binds 21 = .ok (.bipush 29, 2) := by decide +kernel
theorem dX11_binds_23 : decode cX11_binds 23 = .ok (.if_icmp .ne 7, 3) := by decide +kernel
theorem dX11_binds_26 : decode cX11_binds 26 = .ok (.iconst 2, 1) := by decide +kernel
theorem dX11_binds_27 : decode cX11_binds 27 = .ok (.goto 35, 3) := by decide +kernel
theorem dX11_binds_30 : decode cX11_binds 30 = .ok (.iload_n 0, 1) := by decide +kernel
theorem dX11_binds_31 : decode cX11_binds 31 = .ok (.bipush 28, 2) := by decide +kernel
theorem dX11_binds_33 : decode cX11_binds 33 = .ok (.if_icmp .ne 7, 3) := by decide +kernel
theorem dX11_binds_36 : decode cX11_binds 36 = .ok (.iconst 3, 1) := by decide +kernel
theorem dX11_binds_37 : decode cX11_binds 37 = .ok (.goto 25, 3) := by decide +kernel
theorem dX11_binds_40 : decode cX11_binds 40 = .ok (.iload_n 0, 1) := by decide +kernel
theorem dX11_binds_41 : decode cX11_binds 41 = .ok (.bipush 25, 2) := by decide +kernel
theorem dX11_binds_43 : decode cX11_binds 43 = .ok (.if_icmp .lt 7, 3) := by decide +kernel
theorem dX11_binds_46 : decode cX11_binds 46 = .ok (.iconst 4, 1) := by decide +kernel
theorem dX11_binds_47 : decode cX11_binds 47 = .ok (.goto 15, 3) := by decide +kernel
theorem dX11_binds_50 : decode cX11_binds 50 = .ok (.iload_n 0, 1) := by decide +kernel
theorem dX11_binds_51 : decode cX11_binds 51 = .ok (.bipush 22, 2) := by decide +kernel
theorem dX11_binds_53 : decode cX11_binds 53 = .ok (.if_icmp .lt 8, 3) := by decide +kernel
theorem dX11_binds_56 : decode cX11_binds 56 = .ok (.bipush 6, 2) := by decide +kernel
theorem dX11_binds_58 : decode cX11_binds 58 = .ok (.goto 4, 3) := by decide +kernel
theorem dX11_binds_61 : decode cX11_binds 61 = .ok (.iconst 5, 1) := by decide +kernel
theorem dX11_binds_62 : decode cX11_binds 62 = .ok (.ireturn, 1) := by decide +kernel
theorem dX11_settle_0 : decode cX11_settle 0 = .ok (.aload_n 0, 1) := by decide +kernel
theorem dX11_settle_1 : decode cX11_settle 1 = .ok (.getfield 284, 3) := by decide +kernel
theorem dX11_settle_4 : decode cX11_settle 4 = .ok (.ifCond .le 97, 3) := by decide +kernel
theorem dX11_settle_7 : decode cX11_settle 7 = .ok (.aload_n 0, 1) := by decide +kernel
theorem dX11_settle_8 : decode cX11_settle 8 = .ok (.getfield 51, 3) := by decide +kernel
theorem dX11_settle_11 : decode cX11_settle 11 = .ok (.aload_n 0, 1) := by decide +kernel
theorem dX11_settle_12 : decode cX11_settle 12 = .ok (.getfield 284, 3) := by decide +kernel
theorem dX11_settle_15 : decode cX11_settle 15 = .ok (.iconst 1, 1) := by decide +kernel
theorem dX11_settle_16 : decode cX11_settle 16 = .ok (.isub, 1) := by decide +kernel
theorem dX11_settle_17 : decode cX11_settle 17 = .ok (.iaload, 1) := by decide +kernel
theorem dX11_settle_18 : decode cX11_settle 18 = .ok (.invokestatic 287, 3) := by decide +kernel
theorem dX11_settle_21 : decode cX11_settle 21 = .ok (.iload_n 1, 1) := by decide +kernel
theorem dX11_settle_22 : decode cX11_settle 22 = .ok (.if_icmp .lt 79, 3) := by decide +kernel
theorem dX11_settle_25 : decode cX11_settle 25 = .ok (.aload_n 0, 1) := by decide +kernel
theorem dX11_settle_26 : decode cX11_settle 26 = .ok (.dup, 1) := by decide +kernel
theorem dX11_settle_27 : decode cX11_settle 27 = .ok (.getfield 284, 3) := by decide +kernel
theorem dX11_settle_30 : decode cX11_settle 30 = .ok (.iconst 1, 1) := by decide +kernel
theorem dX11_settle_31 : decode cX11_settle 31 = .ok (.isub, 1) := by decide +kernel
theorem dX11_settle_32 : decode cX11_settle 32 = .ok (.putfield 284, 3) := by decide +kernel
theorem dX11_settle_35 : decode cX11_settle 35 = .ok (.aload_n 0, 1) := by decide +kernel
theorem dX11_settle_36 : decode cX11_settle 36 = .ok (.getfield 51, 3) := by decide +kernel
theorem dX11_settle_39 : decode cX11_settle 39 = .ok (.aload_n 0, 1) := by decide +kernel
theorem dX11_settle_40 : decode cX11_settle 40 = .ok (.getfield 284, 3) := by decide +kernel
theorem dX11_settle_43 : decode cX11_settle 43 = .ok (.iaload, 1) := by decide +kernel
theorem dX11_settle_44 : decode cX11_settle 44 = .ok (.bipush 29, 2) := by decide +kernel
theorem dX11_settle_46 : decode cX11_settle 46 = .ok (.if_icmp .eq 17, 3) := by decide +kernel
theorem dX11_settle_49 : decode cX11_settle 49 = .ok (.aload_n 0, 1) := by decide +kernel
theorem dX11_settle_50 : decode cX11_settle 50 = .ok (.getfield 51, 3) := by decide +kernel
theorem dX11_settle_53 : decode cX11_settle 53 = .ok (.aload_n 0, 1) := by decide +kernel
theorem dX11_settle_54 : decode cX11_settle 54 = .ok (.getfield 284, 3) := by decide +kernel
theorem dX11_settle_57 : decode cX11_settle 57 = .ok (.iaload, 1) := by decide +kernel
theorem dX11_settle_58 : decode cX11_settle 58 = .ok (.bipush 30, 2) := by decide +kernel
theorem dX11_settle_60 : decode cX11_settle 60 = .ok (.if_icmp .ne 24, 3) := by decide +kernel
theorem dX11_settle_63 : decode cX11_settle 63 = .ok (.aload_n 0, 1) := by decide +kernel
theorem dX11_settle_64 : decode cX11_settle 64 = .ok (.getfield 48, 3) := by decide +kernel
theorem dX11_settle_67 : decode cX11_settle 67 = .ok (.aload_n 0, 1) := by decide +kernel
theorem dX11_settle_68 : decode cX11_settle 68 = .ok (.getfield 54, 3) := by decide +kernel
theorem dX11_settle_71 : decode cX11_settle 71 = .ok (.aload_n 0, 1) := by decide +kernel
theorem dX11_settle_72 : decode cX11_settle 72 = .ok (.getfield 284, 3) := by decide +kernel
theorem dX11_settle_75 : decode cX11_settle 75 = .ok (.iaload, 1) := by decide +kernel
theorem dX11_settle_76 : decode cX11_settle 76 = .ok (.aload_n 0, 1) := by decide +kernel
theorem dX11_settle_77 : decode cX11_settle 77 = .ok (.getfield 281, 3) := by decide +kernel
theorem dX11_settle_80 : decode cX11_settle 80 = .ok (.iastore, 1) := by decide +kernel
theorem dX11_settle_81 : decode cX11_settle 81 = .ok (.goto (-81), 3) := by decide +kernel
theorem dX11_settle_84 : decode cX11_settle 84 = .ok (.aload_n 0, 1) := by decide +kernel
theorem dX11_settle_85 : decode cX11_settle 85 = .ok (.aload_n 0, 1) := by decide +kernel
theorem dX11_settle_86 : decode cX11_settle 86 = .ok (.getfield 51, 3) := by decide +kernel
theorem dX11_settle_89 : decode cX11_settle 89 = .ok (.aload_n 0, 1) := by decide +kernel
theorem dX11_settle_90 : decode cX11_settle 90 = .ok (.getfield 284, 3) := by decide +kernel
theorem dX11_settle_93 : decode cX11_settle 93 = .ok (.iaload, 1) := by decide +kernel
theorem dX11_settle_94 : decode cX11_settle 94 = .ok (.iconst 0, 1) := by decide +kernel
theorem dX11_settle_95 : decode cX11_settle 95 = .ok (.invokevirtual 290, 3) := by decide +kernel
theorem dX11_settle_98 : decode cX11_settle 98 = .ok (.goto (-98), 3) := by decide +kernel
theorem dX11_settle_101 : decode cX11_settle 101 = .ok (.return_, 1) := by decide +kernel
theorem dX11_inner_0 : decode cX11_inner 0 = .ok (.iconst (-1), 1) := by decide +kernel
theorem dX11_inner_1 : decode cX11_inner 1 = .ok (.istore_n 1, 1) := by decide +kernel
theorem dX11_inner_2 : decode cX11_inner 2 = .ok (.iconst 0, 1) := by decide +kernel
theorem dX11_inner_3 : decode cX11_inner 3 = .ok (.istore_n 2, 1) := by decide +kernel
theorem dX11_inner_4 : decode cX11_inner 4 = .ok (.iload_n 2, 1) := by decide +kernel
theorem dX11_inner_5 : decode cX11_inner 5 = .ok (.aload_n 0, 1) := by decide +kernel
theorem dX11_inner_6 : decode cX11_inner 6 = .ok (.getfield 284, 3) := by decide +kernel
theorem dX11_inner_9 : decode cX11_inner 9 = .ok (.if_icmp .ge 31, 3) := by decide +kernel
theorem dX11_inner_12 : decode cX11_inner 12 = .ok (.aload_n 0, 1) := by decide +kernel
theorem dX11_inner_13 : decode cX11_inner 13 = .ok (.getfield 51, 3) := by decide +kernel
theorem dX11_inner_16 : decode cX11_inner 16 = .ok (.iload_n 2, 1) := by decide +kernel
theorem dX11_inner_17 : decode cX11_inner 17 = .ok (.iaload, 1) := by decide +kernel
theorem dX11_inner_18 : decode cX11_inner 18 = .ok (.bipush 31, 2) := by decide +kernel
theorem dX11_inner_20 : decode cX11_inner 20 = .ok (.if_icmp .lt 12, 3) := by decide +kernel
theorem dX11_inner_23 : decode cX11_inner 23 = .ok (.aload_n 0, 1) := by decide +kernel
theorem dX11_inner_24 : decode cX11_inner 24 = .ok (.getfield 51, 3) := by decide +kernel
theorem dX11_inner_27 : decode cX11_inner 27 = .ok (.iload_n 2, 1) := by decide +kernel
theorem dX11_inner_28 : decode cX11_inner 28 = .ok (.iaload, 1) := by decide +kernel
theorem dX11_inner_29 : decode cX11_inner 29 = .ok (.goto 4, 3) := by decide +kernel
theorem dX11_inner_32 : decode cX11_inner 32 = .ok (.iload_n 1, 1) := by decide +kernel
theorem dX11_inner_33 : decode cX11_inner 33 = .ok (.istore_n 1, 1) := by decide +kernel
theorem dX11_inner_34 : decode cX11_inner 34 = .ok (.iinc 2 1, 3) := by decide +kernel
theorem dX11_inner_37 : decode cX11_inner 37 = .ok (.goto (-33), 3) := by decide +kernel
theorem dX11_inner_40 : decode cX11_inner 40 = .ok (.iload_n 1, 1) := by decide +kernel
theorem dX11_inner_41 : decode cX11_inner 41 = .ok (.ireturn, 1) := by decide +kernel
theorem dX11_isCompared_0 : decode cX11_isCompared 0 = .ok (.aload_n 0, 1) := by decide +kernel
theorem dX11_isCompared_1 : decode cX11_isCompared 1 = .ok (.getfield 284, 3) := by decide +kernel
theorem dX11_isCompared_4 : decode cX11_isCompared 4 = .ok (.iconst 1, 1) := by decide +kernel
theorem dX11_isCompared_5 : decode cX11_isCompared 5 = .ok (.isub, 1) := by decide +kernel
theorem dX11_isCompared_6 : decode cX11_isCompared 6 = .ok (.istore_n 1, 1) := by decide +kernel
theorem dX11_isCompared_7 : decode cX11_isCompared 7 = .ok (.iload_n 1, 1) := by decide +kernel
theorem dX11_isCompared_8 : decode cX11_isCompared 8 = .ok (.ifCond .lt 28, 3) := by decide +kernel
theorem dX11_isCompared_11 : decode cX11_isCompared 11 = .ok (.aload_n 0, 1) := by decide +kernel
theorem dX11_isCompared_12 : decode cX11_isCompared 12 = .ok (.getfield 51, 3) := by decide +kernel
theorem dX11_isCompared_15 : decode cX11_isCompared 15 = .ok (.iload_n 1, 1) := by decide +kernel
theorem dX11_isCompared_16 : decode cX11_isCompared 16 = .ok (.iaload, 1) := by decide +kernel
theorem dX11_isCompared_17 : decode cX11_isCompared 17 = .ok (.i2l, 1) := by decide +kernel
theorem dX11_isCompared_18 : decode cX11_isCompared 18 = .ok (.ldc2_w 294, 3) := by decide +kernel
theorem dX11_isCompared_21 : decode cX11_isCompared 21 = .ok (.ldc2_w 296, 3) := by decide +kernel
theorem dX11_isCompared_24 : decode cX11_isCompared 24 = .ok (.invokestatic 169, 3) := by decide +kernel
theorem dX11_isCompared_27 : decode cX11_isCompared 27 = .ok (.ifCond .eq 9, 3) := by decide +kernel
theorem dX11_isCompared_30 : decode cX11_isCompared 30 = .ok (.iinc 1 (-1), 3) := by decide +kernel
theorem dX11_isCompared_33 : decode cX11_isCompared 33 = .ok (.goto (-26), 3) := by decide +kernel
theorem dX11_isCompared_36 : decode cX11_isCompared 36 = .ok (.iload_n 1, 1) := by decide +kernel
theorem dX11_isCompared_37 : decode cX11_isCompared 37 = .ok (.ifCond .lt 26, 3) := by decide +kernel
theorem dX11_isCompared_40 : decode cX11_isCompared 40 = .ok (.aload_n 0, 1) := by decide +kernel
theorem dX11_isCompared_41 : decode cX11_isCompared 41 = .ok (.getfield 51, 3) := by decide +kernel
theorem dX11_isCompared_44 : decode cX11_isCompared 44 = .ok (.iload_n 1, 1) := by decide +kernel
theorem dX11_isCompared_45 : decode cX11_isCompared 45 = .ok (.iaload, 1) := by decide +kernel
theorem dX11_isCompared_46 : decode cX11_isCompared 46 = .ok (.i2l, 1) := by decide +kernel
theorem dX11_isCompared_47 : decode cX11_isCompared 47 = .ok (.ldc2_w 298, 3) := by decide +kernel
theorem dX11_isCompared_50 : decode cX11_isCompared 50 = .ok (.ldc2_w 300, 3) := by decide +kernel
theorem dX11_isCompared_53 : decode cX11_isCompared 53 = .ok (.invokestatic 169, 3) := by decide +kernel
theorem dX11_isCompared_56 : decode cX11_isCompared 56 = .ok (.ifCond .eq 7, 3) := by decide +kernel
theorem dX11_isCompared_59 : decode cX11_isCompared 59 = .ok (.iconst 1, 1) := by decide +kernel
theorem dX11_isCompared_60 : decode cX11_isCompared 60 = .ok (.goto 4, 3) := by decide +kernel
theorem dX11_isCompared_63 : decode cX11_isCompared 63 = .ok (.iconst 0, 1) := by decide +kernel
theorem dX11_isCompared_64 : decode cX11_isCompared 64 = .ok (.ireturn, 1) := by decide +kernel
theorem dX11_partAt_0 : decode cX11_partAt 0 = .ok (.iconst (-1), 1) := by decide +kernel
theorem dX11_partAt_1 : decode cX11_partAt 1 = .ok (.istore_n 1, 1) := by decide +kernel
theorem dX11_partAt_2 : decode cX11_partAt 2 = .ok (.iconst 0, 1) := by decide +kernel
theorem dX11_partAt_3 : decode cX11_partAt 3 = .ok (.istore_n 2, 1) := by decide +kernel
theorem dX11_partAt_4 : decode cX11_partAt 4 = .ok (.iload_n 2, 1) := by decide +kernel
theorem dX11_partAt_5 : decode cX11_partAt 5 = .ok (.bipush 9, 2) := by decide +kernel
theorem dX11_partAt_7 : decode cX11_partAt 7 = .ok (.if_icmp .ge 30, 3) := by decide +kernel
theorem dX11_partAt_10 : decode cX11_partAt 10 = .ok (.aload_n 0, 1) := by decide +kernel
theorem dX11_partAt_11 : decode cX11_partAt 11 = .ok (.aload_n 0, 1) := by decide +kernel
theorem dX11_partAt_12 : decode cX11_partAt 12 = .ok (.getfield 75, 3) := by decide +kernel
theorem dX11_partAt_15 : decode cX11_partAt 15 = .ok (.iload_n 2, 1) := by decide +kernel
theorem dX11_partAt_16 : decode cX11_partAt 16 = .ok (.laload, 1) := by decide +kernel
theorem dX11_partAt_17 : decode cX11_partAt 17 = .ok (.invokevirtual 302, 3) := by decide +kernel
theorem dX11_partAt_20 : decode cX11_partAt 20 = .ok (.ifCond .eq 9, 3) := by decide +kernel
theorem dX11_partAt_23 : decode cX11_partAt 23 = .ok (.iload_n 2, 1) := by decide +kernel
theorem dX11_partAt_24 : decode cX11_partAt 24 = .ok (.iconst 1, 1) := by decide +kernel
theorem dX11_partAt_25 : decode cX11_partAt 25 = .ok (.iadd, 1) := by decide +kernel
theorem dX11_partAt_26 : decode cX11_partAt 26 = .ok (.goto 4, 3) := by decide +kernel
theorem dX11_partAt_29 : decode cX11_partAt 29 = .ok (.iload_n 1, 1) := by decide +kernel
theorem dX11_partAt_30 : decode cX11_partAt 30 = .ok (.istore_n 1, 1) := by decide +kernel
theorem dX11_partAt_31 : decode cX11_partAt 31 = .ok (.iinc 2 1, 3) := by decide +kernel
theorem dX11_partAt_34 : decode cX11_partAt 34 = .ok (.goto (-30), 3) := by decide +kernel
theorem dX11_partAt_37 : decode cX11_partAt 37 = .ok (.iload_n 1, 1) := by decide +kernel
theorem dX11_partAt_38 : decode cX11_partAt 38 = .ok (.ireturn, 1) := by decide +kernel
theorem dX11_orderPartAt_0 : decode cX11_orderPartAt 0 = .ok (.iconst (-1), 1) := by decide +kernel
theorem dX11_orderPartAt_1 : decode cX11_orderPartAt 1 = .ok (.istore_n 1, 1) := by decide +kernel
theorem dX11_orderPartAt_2 : decode cX11_orderPartAt 2 = .ok (.iconst 0, 1) := by decide +kernel
theorem dX11_orderPartAt_3 : decode cX11_orderPartAt 3 = .ok (.istore_n 2, 1) := by decide +kernel
theorem dX11_orderPartAt_4 : decode cX11_orderPartAt 4 = .ok (.iload_n 2, 1) := by decide +kernel
theorem dX11_orderPartAt_5 : decode cX11_orderPartAt 5 = .ok (.bipush 6, 2) := by decide +kernel
theorem dX11_orderPartAt_7 : decode cX11_orderPartAt 7 = .ok (.if_icmp .ge 30, 3) := by decide +kernel
theorem dX11_orderPartAt_10 : decode cX11_orderPartAt 10 = .ok (.aload_n 0, 1) := by decide +kernel
theorem dX11_orderPartAt_11 : decode cX11_orderPartAt 11 = .ok (.aload_n 0, 1) := by decide +kernel
theorem dX11_orderPartAt_12 : decode cX11_orderPartAt 12 = .ok (.getfield 85, 3) := by decide +kernel
theorem dX11_orderPartAt_15 : decode cX11_orderPartAt 15 = .ok (.iload_n 2, 1) := by decide +kernel
theorem dX11_orderPartAt_16 : decode cX11_orderPartAt 16 = .ok (.laload, 1) := by decide +kernel
theorem dX11_orderPartAt_17 : decode cX11_orderPartAt 17 = .ok (.invokevirtual 302, 3) := by decide +kernel
theorem dX11_orderPartAt_20 : decode cX11_orderPartAt 20 = .ok (.ifCond .eq 9, 3) := by decide +kernel
theorem dX11_orderPartAt_23 : decode cX11_orderPartAt 23 = .ok (.iload_n 2, 1) := by decide +kernel
theorem dX11_orderPartAt_24 : decode cX11_orderPartAt 24 = .ok (.iconst 1, 1) := by decide +kernel
theorem dX11_orderPartAt_25 : decode cX11_orderPartAt 25 = .ok (.iadd, 1) := by decide +kernel
theorem dX11_orderPartAt_26 : decode cX11_orderPartAt 26 = .ok (.goto 4, 3) := by decide +kernel
theorem dX11_orderPartAt_29 : decode cX11_orderPartAt 29 = .ok (.iload_n 1, 1) := by decide +kernel
theorem dX11_orderPartAt_30 : decode cX11_orderPartAt 30 = .ok (.istore_n 1, 1) := by decide +kernel
theorem dX11_orderPartAt_31 : decode cX11_orderPartAt 31 = .ok (.iinc 2 1, 3) := by decide +kernel
theorem dX11_orderPartAt_34 : decode cX11_orderPartAt 34 = .ok (.goto (-30), 3) := by decide +kernel
theorem dX11_orderPartAt_37 : decode cX11_orderPartAt 37 = .ok (.iload_n 1, 1) := by decide +kernel
theorem dX11_orderPartAt_38 : decode cX11_orderPartAt 38 = .ok (.ireturn, 1) := by decide +kernel
theorem dX11_openBracket_0 : decode cX11_openBracket 0 = .ok (.aload_n 0, 1) := by decide +kernel
theorem dX11_openBracket_1 : decode cX11_openBracket 1 = .ok (.aload_n 0, 1) := by decide +kernel
theorem dX11_openBracket_2 : decode cX11_openBracket 2 = .ok (.getfield 306, 3) := by decide +kernel
theorem dX11_openBracket_5 : decode cX11_openBracket 5 = .ok (.bipush 8, 2) := by decide +kernel
theorem dX11_openBracket_7 : decode cX11_openBracket 7 = .ok (.if_icmp .ge 7, 3) := by decide +kernel
theorem dX11_openBracket_10 : decode cX11_openBracket 10 = .ok (.iconst 1, 1) := by decide +kernel
theorem dX11_openBracket_11 : decode cX11_openBracket 11 = .ok (.goto 4, 3) := by decide +kernel
theorem dX11_openBracket_14 : decode cX11_openBracket 14 = .ok (.iconst 0, 1) := by decide +kernel
theorem dX11_openBracket_15 : decode cX11_openBracket 15 = .ok (.invokevirtual 277, 3) := by decide +kernel
theorem dX11_openBracket_18 : decode cX11_openBracket 18 = .ok (.aload_n 0, 1) := by decide +kernel
theorem dX11_openBracket_19 : decode cX11_openBracket 19 = .ok (.getfield 244, 3) := by decide +kernel
theorem dX11_openBracket_22 : decode cX11_openBracket 22 = .ok (.ifCond .ne 19, 3) := by decide +kernel
theorem dX11_openBracket_25 : decode cX11_openBracket 25 = .ok (.aload_n 0, 1) := by decide +kernel
theorem dX11_openBracket_26 : decode cX11_openBracket 26 = .ok (.dup, 1) := by decide +kernel
theorem dX11_openBracket_27 : decode cX11_openBracket 27 = .ok (.getfield 306, 3) := by decide +kernel
theorem dX11_openBracket_30 : decode cX11_openBracket 30 = .ok (.iconst 1, 1) := by decide +kernel
theorem dX11_openBracket_31 : decode cX11_openBracket 31 = .ok (.iadd, 1) := by decide +kernel
theorem dX11_openBracket_32 : decode cX11_openBracket 32 = .ok (.putfield 306, 3) := by decide +kernel
theorem dX11_openBracket_35 : decode cX11_openBracket 35 = .ok (.aload_n 0, 1) := by decide +kernel
theorem dX11_openBracket_36 : decode cX11_openBracket 36 = .ok (.iload_n 1, 1) := by decide +kernel
theorem dX11_openBracket_37 : decode cX11_openBracket 37 = .ok (.iconst 0, 1) := by decide +kernel
theorem dX11_openBracket_38 : decode cX11_openBracket 38 = .ok (.invokevirtual 309, 3) := by decide +kernel
theorem dX11_openBracket_41 : decode cX11_openBracket 41 = .ok (.return_, 1) := by decide +kernel
theorem dX11_leaf_0 : decode cX11_leaf 0 = .ok (.aload_n 0, 1) := by decide +kernel
theorem dX11_leaf_1 : decode cX11_leaf 1 = .ok (.iload_n 1, 1) := by decide +kernel
theorem dX11_leaf_2 : decode cX11_leaf 2 = .ok (.ifCond .eq 16, 3) := by decide +kernel
theorem dX11_leaf_5 : decode cX11_leaf 5 = .ok (.aload_n 0, 1) := by decide +kernel
theorem dX11_leaf_6 : decode cX11_leaf 6 = .ok (.getfield 312, 3) := by decide +kernel
theorem dX11_leaf_9 : decode cX11_leaf 9 = .ok (.bipush 50, 2) := by decide +kernel
theorem dX11_leaf_11 : decode cX11_leaf 11 = .ok (.if_icmp .ge 7, 3) := by decide +kernel
theorem dX11_leaf_14 : decode cX11_leaf 14 = .ok (.iconst 1, 1) := by decide +kernel
theorem dX11_leaf_15 : decode cX11_leaf 15 = .ok (.goto 4, 3) := by decide +kernel
theorem dX11_leaf_18 : decode cX11_leaf 18 = .ok (.iconst 0, 1) := by decide +kernel
theorem dX11_leaf_19 : decode cX11_leaf 19 = .ok (.invokevirtual 277, 3) := by decide +kernel
theorem dX11_leaf_22 : decode cX11_leaf 22 = .ok (.aload_n 0, 1) := by decide +kernel
theorem dX11_leaf_23 : decode cX11_leaf 23 = .ok (.getfield 244, 3) := by decide +kernel
theorem dX11_leaf_26 : decode cX11_leaf 26 = .ok (.ifCond .ne 19, 3) := by decide +kernel
theorem dX11_leaf_29 : decode cX11_leaf 29 = .ok (.aload_n 0, 1) := by decide +kernel
theorem dX11_leaf_30 : decode cX11_leaf 30 = .ok (.iload_n 2, 1) := by decide +kernel
theorem dX11_leaf_31 : decode cX11_leaf 31 = .ok (.iload_n 3, 1) := by decide +kernel
theorem dX11_leaf_32 : decode cX11_leaf 32 = .ok (.invokevirtual 290, 3) := by decide +kernel
theorem dX11_leaf_35 : decode cX11_leaf 35 = .ok (.aload_n 0, 1) := by decide +kernel
theorem dX11_leaf_36 : decode cX11_leaf 36 = .ok (.dup, 1) := by decide +kernel
theorem dX11_leaf_37 : decode cX11_leaf 37 = .ok (.getfield 312, 3) := by decide +kernel
theorem dX11_leaf_40 : decode cX11_leaf 40 = .ok (.iconst 1, 1) := by decide +kernel
theorem dX11_leaf_41 : decode cX11_leaf 41 = .ok (.iadd, 1) := by decide +kernel
theorem dX11_leaf_42 : decode cX11_leaf 42 = .ok (.putfield 312, 3) := by decide +kernel
theorem dX11_leaf_45 : decode cX11_leaf 45 = .ok (.return_, 1) := by decide +kernel
theorem dX11_readPart_0 : decode cX11_readPart 0 = .ok (.aload_n 0, 1) := by decide +kernel
theorem dX11_readPart_1 : decode cX11_readPart 1 = .ok (.bipush 91, 2) := by decide +kernel
theorem dX11_readPart_3 : decode cX11_readPart 3 = .ok (.invokevirtual 315, 3) := by decide +kernel
theorem dX11_readPart_6 : decode cX11_readPart 6 = .ok (.ifCond .eq 11, 3) := by decide +kernel
theorem dX11_readPart_9 : decode cX11_readPart 9 = .ok (.aload_n 0, 1) := by decide +kernel
theorem dX11_readPart_10 : decode cX11_readPart 10 = .ok (.bipush 32, 2) := by decide +kernel
theorem dX11_readPart_12 : decode cX11_readPart 12 = .ok (.invokevirtual 318, 3) := by decide +kernel
theorem dX11_readPart_15 : decode cX11_readPart 15 = .ok (.iconst 1, 1) := by decide +kernel
theorem dX11_readPart_16 : decode cX11_readPart 16 = .ok (.ireturn, 1) := by decide +kernel
theorem dX11_readPart_17 : decode cX11_readPart 17 = .ok (.aload_n 0, 1) := by decide +kernel
theorem dX11_readPart_18 : decode cX11_readPart 18 = .ok (.getfield 321, 3) := by decide +kernel
theorem dX11_readPart_21 : decode cX11_readPart 21 = .ok (.ifCond .eq 10, 3) := by decide +kernel
theorem dX11_readPart_24 : decode cX11_readPart 24 = .ok (.aload_n 0, 1) := by decide +kernel
theorem dX11_readPart_25 : decode cX11_readPart 25 = .ok (.invokevirtual 324, 3) := by decide +kernel
theorem dX11_readPart_28 : decode cX11_readPart 28 = .ok (.goto 7, 3) := by decide +kernel
theorem dX11_readPart_31 : decode cX11_readPart 31 = .ok (.aload_n 0, 1) := by decide +kernel
theorem dX11_readPart_32 : decode cX11_readPart 32 = .ok (.invokevirtual 328, 3) := by decide +kernel
theorem dX11_readPart_35 : decode cX11_readPart 35 = .ok (.istore_n 1, 1) := by decide +kernel
theorem dX11_readPart_36 : decode cX11_readPart 36 = .ok (.aload_n 0, 1) := by decide +kernel
theorem dX11_readPart_37 : decode cX11_readPart 37 = .ok (.getfield 264, 3) := by decide +kernel
theorem dX11_readPart_40 : decode cX11_readPart 40 = .ok (.iconst 2, 1) := by decide +kernel
theorem dX11_readPart_41 : decode cX11_readPart 41 = .ok (.if_icmp .ne 18, 3) := by decide +kernel
theorem dX11_readPart_44 : decode cX11_readPart 44 = .ok (.aload_n 0, 1) := by decide +kernel
theorem dX11_readPart_45 : decode cX11_readPart 45 = .ok (.getfield 254, 3) := by decide +kernel
theorem dX11_readPart_48 : decode cX11_readPart 48 = .ok (.ldc2_w 331, 3) := by decide +kernel
theorem dX11_readPart_51 : decode cX11_readPart 51 = .ok (.lcmp, 1) := by decide +kernel
theorem dX11_readPart_52 : decode cX11_readPart 52 = .ok (.ifCond .gt 7, 3) := by decide +kernel
theorem dX11_readPart_55 : decode cX11_readPart 55 = .ok (.iconst 1, 1) := by decide +kernel
theorem dX11_readPart_56 : decode cX11_readPart 56 = .ok (.goto 4, 3) := by decide +kernel
theorem dX11_readPart_59 : decode cX11_readPart 59 = .ok (.iconst 0, 1) := by decide +kernel
theorem dX11_readPart_60 : decode cX11_readPart 60 = .ok (.istore_n 2, 1) := by decide +kernel
theorem dX11_readPart_61 : decode cX11_readPart 61 = .ok (.aload_n 0, 1) := by decide +kernel
theorem dX11_readPart_62 : decode cX11_readPart 62 = .ok (.iload_n 1, 1) := by decide +kernel
theorem dX11_readPart_63 : decode cX11_readPart 63 = .ok (.iconst (-1), 1) := by decide +kernel
theorem dX11_readPart_64 : decode cX11_readPart 64 = .ok (.if_icmp .ne 7, 3) := by decide +kernel
theorem dX11_readPart_67 : decode cX11_readPart 67 = .ok (.iload_n 2, 1) := by decide +kernel
theorem dX11_readPart_68 : decode cX11_readPart 68 = .ok (.ifCond .eq 7, 3) := by decide +kernel
theorem dX11_readPart_71 : decode cX11_readPart 71 = .ok (.iconst 1, 1) := by decide +kernel
theorem dX11_readPart_72 : decode cX11_readPart 72 = .ok (.goto 4, 3) := by decide +kernel
theorem dX11_readPart_75 : decode cX11_readPart 75 = .ok (.iconst 0, 1) := by decide +kernel
theorem dX11_readPart_76 : decode cX11_readPart 76 = .ok (.iload_n 1, 1) := by decide +kernel
theorem dX11_readPart_77 : decode cX11_readPart 77 = .ok (.iconst (-1), 1) := by decide +kernel
theorem dX11_readPart_78 : decode cX11_readPart 78 = .ok (.if_icmp .ne 7, 3) := by decide +kernel
theorem dX11_readPart_81 : decode cX11_readPart 81 = .ok (.iconst 0, 1) := by decide +kernel
theorem dX11_readPart_82 : decode cX11_readPart 82 = .ok (.goto 4, 3) := by decide +kernel
theorem dX11_readPart_85 : decode cX11_readPart 85 = .ok (.iload_n 1, 1) := by decide +kernel
theorem dX11_readPart_86 : decode cX11_readPart 86 = .ok (.iload_n 2, 1) := by decide +kernel
theorem dX11_readPart_87 : decode cX11_readPart 87 = .ok (.ifCond .eq 11, 3) := by decide +kernel
theorem dX11_readPart_90 : decode cX11_readPart 90 = .ok (.aload_n 0, 1) := by decide +kernel
theorem dX11_readPart_91 : decode cX11_readPart 91 = .ok (.getfield 254, 3) := by decide +kernel
theorem dX11_readPart_94 : decode cX11_readPart 94 = .ok (.l2i, 1) := by decide +kernel
theorem dX11_readPart_95 : decode cX11_readPart 95 = .ok (.goto 4, 3) := by decide +kernel
theorem dX11_readPart_98 : decode cX11_readPart 98 = .ok (.iconst 0, 1) := by decide +kernel
theorem dX11_readPart_99 : decode cX11_readPart 99 = .ok (.invokevirtual 333, 3) := by decide +kernel
theorem dX11_readPart_102 : decode cX11_readPart 102 = .ok (.aload_n 0, 1) := by decide +kernel
theorem dX11_readPart_103 : decode cX11_readPart 103 = .ok (.getfield 321, 3) := by decide +kernel
theorem dX11_readPart_106 : decode cX11_readPart 106 = .ok (.ifCond .eq 47, 3) := by decide +kernel
theorem dX11_readPart_109 : decode cX11_readPart 109 = .ok (.iload_n 1, 1) := by decide +kernel
theorem dX11_readPart_110 : decode cX11_readPart 110 = .ok (.iconst 5, 1) := by decide +kernel
theorem dX11_readPart_111 : decode cX11_readPart 111 = .ok (.if_icmp .lt 42, 3) := by decide +kernel
theorem dX11_readPart_114 : decode cX11_readPart 114 = .ok (.aload_n 0, 1) := by decide +kernel
theorem dX11_readPart_115 : decode cX11_readPart 115 = .ok (.getfield 244, 3) := by decide +kernel
theorem dX11_readPart_118 : decode cX11_readPart 118 = .ok (.ifCond .ne 35, 3) := by decide +kernel
theorem dX11_readPart_121 : decode cX11_readPart 121 = .ok (.aload_n 0, 1) := by decide +kernel
theorem dX11_readPart_122 : decode cX11_readPart 122 = .ok (.getfield 281, 3) := by decide +kernel
theorem dX11_readPart_125 : decode cX11_readPart 125 = .ok (.iconst 1, 1) := by decide +kernel
theorem dX11_readPart_126 : decode cX11_readPart 126 = .ok (.isub, 1) := by decide +kernel
theorem dX11_readPart_127 : decode cX11_readPart 127 = .ok (.istore_n 3, 1) := by decide +kernel
theorem dX11_readPart_128 : decode cX11_readPart 128 = .ok (.aload_n 0, 1) := by decide +kernel
theorem dX11_readPart_129 : decode cX11_readPart 129 = .ok (.getfield 48, 3) := by decide +kernel
theorem dX11_readPart_132 : decode cX11_readPart 132 = .ok (.iload_n 3, 1) := by decide +kernel
theorem dX11_readPart_133 : decode cX11_readPart 133 = .ok (.aload_n 0, 1) := by decide +kernel
theorem dX11_readPart_134 : decode cX11_readPart 134 = .ok (.lconst 0, 1) := by decide +kernel
theorem dX11_readPart_135 : decode cX11_readPart 135 = .ok (.iload_n 1, 1) := by decide +kernel
theorem dX11_readPart_136 : decode cX11_readPart 136 = .ok (.iconst 5, 1) := by decide +kernel
theorem dX11_readPart_137 : decode cX11_readPart 137 = .ok (.if_icmp .ne 9, 3) := by decide +kernel
theorem dX11_readPart_140 : decode cX11_readPart 140 = .ok (.ldc2_w 337, 3) := by decide +kernel
theorem dX11_readPart_143 : decode cX11_readPart 143 = .ok (.goto 6, 3) := by decide +kernel
theorem dX11_readPart_146 : decode cX11_readPart 146 = .ok (.ldc2_w 186, 3) := by decide +kernel
theorem dX11_readPart_149 : decode cX11_readPart 149 = .ok (.invokevirtual 339, 3) := by decide +kernel
theorem dX11_readPart_152 : decode cX11_readPart 152 = .ok (.iastore, 1) := by decide +kernel
theorem dX11_readPart_153 : decode cX11_readPart 153 = .ok (.iconst 3, 1) := by decide +kernel
theorem dX11_readPart_154 : decode cX11_readPart 154 = .ok (.ireturn, 1) := by decide +kernel
theorem dX11_readPlain_0 : decode cX11_readPlain 0 = .ok (.aload_n 0, 1) := by decide +kernel
theorem dX11_readPlain_1 : decode cX11_readPlain 1 = .ok (.ldc2_w 343, 3) := by decide +kernel
theorem dX11_readPlain_4 : decode cX11_readPlain 4 = .ok (.invokevirtual 302, 3) := by decide +kernel
theorem dX11_readPlain_7 : decode cX11_readPlain 7 = .ok (.ifCond .eq 16, 3) := by decide +kernel
theorem dX11_readPlain_10 : decode cX11_readPlain 10 = .ok (.aload_n 0, 1) := by decide +kernel
theorem dX11_readPlain_11 : decode cX11_readPlain 11 = .ok (.bipush 28, 2) := by decide +kernel
theorem dX11_readPlain_13 : decode cX11_readPlain 13 = .ok (.iconst 0, 1) := by decide +kernel
theorem dX11_readPlain_14 : decode cX11_readPlain 14 = .ok (.invokevirtual 309, 3) := by decide +kernel
theorem dX11_readPlain_17 : decode cX11_readPlain 17 = .ok (.aload_n 0, 1) := by decide +kernel
theorem dX11_readPlain_18 : decode cX11_readPlain 18 = .ok (.invokevirtual 248, 3) := by decide +kernel
theorem dX11_readPlain_21 : decode cX11_readPlain 21 = .ok (.iconst 0, 1) := by decide +kernel
theorem dX11_readPlain_22 : decode cX11_readPlain 22 = .ok (.ireturn, 1) := by decide +kernel
theorem dX11_readPlain_23 : decode cX11_readPlain 23 = .ok (.aload_n 0, 1) := by decide +kernel
theorem dX11_readPlain_24 : decode cX11_readPlain 24 = .ok (.bipush 40, 2) := by decide +kernel
theorem dX11_readPlain_26 : decode cX11_readPlain 26 = .ok (.invokevirtual 315, 3) := by decide +kernel
theorem dX11_readPlain_29 : decode cX11_readPlain 29 = .ok (.ifCond .eq 11, 3) := by decide +kernel
theorem dX11_readPlain_32 : decode cX11_readPlain 32 = .ok (.aload_n 0, 1) := by decide +kernel
theorem dX11_readPlain_33 : decode cX11_readPlain 33 = .ok (.bipush 31, 2) := by decide +kernel
theorem dX11_readPlain_35 : decode cX11_readPlain 35 = .ok (.invokevirtual 318, 3) := by decide +kernel
theorem dX11_readPlain_38 : decode cX11_readPlain 38 = .ok (.iconst 0, 1) := by decide +kernel
theorem dX11_readPlain_39 : decode cX11_readPlain 39 = .ok (.ireturn, 1) := by decide +kernel
theorem dX11_readPlain_40 : decode cX11_readPlain 40 = .ok (.aload_n 0, 1) := by decide +kernel
theorem dX11_readPlain_41 : decode cX11_readPlain 41 = .ok (.invokevirtual 345, 3) := by decide +kernel
theorem dX11_readPlain_44 : decode cX11_readPlain 44 = .ok (.ireturn, 1) := by decide +kernel
theorem dX11_behindSum_0 : decode cX11_behindSum 0 = .ok (.aload_n 0, 1) := by decide +kernel
theorem dX11_behindSum_1 : decode cX11_behindSum 1 = .ok (.bipush 43, 2) := by decide +kernel
theorem dX11_behindSum_3 : decode cX11_behindSum 3 = .ok (.invokevirtual 315, 3) := by decide +kernel
theorem dX11_behindSum_6 : decode cX11_behindSum 6 = .ok (.ifCond .eq 8, 3) := by decide +kernel
theorem dX11_behindSum_9 : decode cX11_behindSum 9 = .ok (.bipush 20, 2) := by decide +kernel
theorem dX11_behindSum_11 : decode cX11_behindSum 11 = .ok (.goto 60, 3) := by decide +kernel
theorem dX11_behindSum_14 : decode cX11_behindSum 14 = .ok (.aload_n 0, 1) := by decide +kernel
theorem dX11_behindSum_15 : decode cX11_behindSum 15 = .ok (.bipush 45, 2) := by decide +kernel
theorem dX11_behindSum_17 : decode cX11_behindSum 17 = .ok (.invokevirtual 315, 3) := by decide +kernel
theorem dX11_behindSum_20 : decode cX11_behindSum 20 = .ok (.ifCond .eq 8, 3) := by decide +kernel
theorem dX11_behindSum_23 : decode cX11_behindSum 23 = .ok (.bipush 21, 2) := by decide +kernel
theorem dX11_behindSum_25 : decode cX11_behindSum 25 = .ok (.goto 46, 3) := by decide +kernel
theorem dX11_behindSum_28 : decode cX11_behindSum 28 = .ok (.aload_n 0, 1) := by decide +kernel
theorem dX11_behindSum_29 : decode cX11_behindSum 29 = .ok (.bipush 42, 2) := by decide +kernel
theorem dX11_behindSum_31 : decode cX11_behindSum 31 = .ok (.invokevirtual 315, 3) := by decide +kernel
theorem dX11_behindSum_34 : decode cX11_behindSum 34 = .ok (.ifCond .eq 8, 3) := by decide +kernel
theorem dX11_behindSum_37 : decode cX11_behindSum 37 = .ok (.bipush 22, 2) := by decide +kernel
theorem dX11_behindSum_39 : decode cX11_behindSum 39 = .ok (.goto 32, 3) := by decide +kernel
theorem dX11_behindSum_42 : decode cX11_behindSum 42 = .ok (.aload_n 0, 1) := by decide +kernel
theorem dX11_behindSum_43 : decode cX11_behindSum 43 = .ok (.bipush 47, 2) := by decide +kernel
theorem dX11_behindSum_45 : decode cX11_behindSum 45 = .ok (.invokevirtual 315, 3) := by decide +kernel
theorem dX11_behindSum_48 : decode cX11_behindSum 48 = .ok (.ifCond .eq 8, 3) := by decide +kernel
theorem dX11_behindSum_51 : decode cX11_behindSum 51 = .ok (.bipush 23, 2) := by decide +kernel
theorem dX11_behindSum_53 : decode cX11_behindSum 53 = .ok (.goto 18, 3) := by decide +kernel
theorem dX11_behindSum_56 : decode cX11_behindSum 56 = .ok (.aload_n 0, 1) := by decide +kernel
theorem dX11_behindSum_57 : decode cX11_behindSum 57 = .ok (.bipush 37, 2) := by decide +kernel
theorem dX11_behindSum_59 : decode cX11_behindSum 59 = .ok (.invokevirtual 315, 3) := by decide +kernel
theorem dX11_behindSum_62 : decode cX11_behindSum 62 = .ok (.ifCond .eq 8, 3) := by decide +kernel
theorem dX11_behindSum_65 : decode cX11_behindSum 65 = .ok (.bipush 24, 2) := by decide +kernel
theorem dX11_behindSum_67 : decode cX11_behindSum 67 = .ok (.goto 4, 3) := by decide +kernel
theorem dX11_behindSum_70 : decode cX11_behindSum 70 = .ok (.iconst (-1), 1) := by decide +kernel
theorem dX11_behindSum_71 : decode cX11_behindSum 71 = .ok (.istore_n 2, 1) := by decide +kernel
theorem dX11_behindSum_72 : decode cX11_behindSum 72 = .ok (.iload_n 2, 1) := by decide +kernel
theorem dX11_behindSum_73 : decode cX11_behindSum 73 = .ok (.iconst (-1), 1) := by decide +kernel
theorem dX11_behindSum_74 : decode cX11_behindSum 74 = .ok (.if_icmp .eq 23, 3) := by decide +kernel
theorem dX11_behindSum_77 : decode cX11_behindSum 77 = .ok (.aload_n 0, 1) := by decide +kernel
theorem dX11_behindSum_78 : decode cX11_behindSum 78 = .ok (.iload_n 2, 1) := by decide +kernel
theorem dX11_behindSum_79 : decode cX11_behindSum 79 = .ok (.invokestatic 287, 3) := by decide +kernel
theorem dX11_behindSum_82 : decode cX11_behindSum 82 = .ok (.invokevirtual 348, 3) := by decide +kernel
theorem dX11_behindSum_85 : decode cX11_behindSum 85 = .ok (.aload_n 0, 1) := by decide +kernel
theorem dX11_behindSum_86 : decode cX11_behindSum 86 = .ok (.iload_n 2, 1) := by decide +kernel
theorem dX11_behindSum_87 : decode cX11_behindSum 87 = .ok (.iconst 0, 1) := by decide +kernel
theorem dX11_behindSum_88 : decode cX11_behindSum 88 = .ok (.invokevirtual 309, 3) := by decide +kernel
theorem dX11_behindSum_91 : decode cX11_behindSum 91 = .ok (.aload_n 0, 1) := by decide +kernel
theorem dX11_behindSum_92 : decode cX11_behindSum 92 = .ok (.invokevirtual 248, 3) := by decide +kernel
theorem dX11_behindSum_95 : decode cX11_behindSum 95 = .ok (.iconst 1, 1) := by decide +kernel
theorem dX11_behindSum_96 : decode cX11_behindSum 96 = .ok (.ireturn, 1) := by decide +kernel
theorem dX11_behindSum_97 : decode cX11_behindSum 97 = .ok (.aload_n 0, 1) := by decide +kernel
theorem dX11_behindSum_98 : decode cX11_behindSum 98 = .ok (.invokevirtual 351, 3) := by decide +kernel
theorem dX11_behindSum_101 : decode cX11_behindSum 101 = .ok (.istore_n 3, 1) := by decide +kernel
theorem dX11_behindSum_102 : decode cX11_behindSum 102 = .ok (.iload_n 3, 1) := by decide +kernel
theorem dX11_behindSum_103 : decode cX11_behindSum 103 = .ok (.bipush 32, 2) := by decide +kernel
theorem dX11_behindSum_105 : decode cX11_behindSum 105 = .ok (.if_icmp .ne 47, 3) := by decide +kernel
theorem dX11_behindSum_108 : decode cX11_behindSum 108 = .ok (.aload_n 0, 1) := by decide +kernel
theorem dX11_behindSum_109 : decode cX11_behindSum 109 = .ok (.aload_n 0, 1) := by decide +kernel
theorem dX11_behindSum_110 : decode cX11_behindSum 110 = .ok (.bipush 93, 2) := by decide +kernel
theorem dX11_behindSum_112 : decode cX11_behindSum 112 = .ok (.invokevirtual 315, 3) := by decide +kernel
theorem dX11_behindSum_115 : decode cX11_behindSum 115 = .ok (.invokevirtual 277, 3) := by decide +kernel
theorem dX11_behindSum_118 : decode cX11_behindSum 118 = .ok (.aload_n 0, 1) := by decide +kernel
theorem dX11_behindSum_119 : decode cX11_behindSum 119 = .ok (.getfield 244, 3) := by decide +kernel
theorem dX11_behindSum_122 : decode cX11_behindSum 122 = .ok (.ifCond .ne 28, 3) := by decide +kernel
theorem dX11_behindSum_125 : decode cX11_behindSum 125 = .ok (.aload_n 0, 1) := by decide +kernel
theorem dX11_behindSum_126 : decode cX11_behindSum 126 = .ok (.iconst 5, 1) := by decide +kernel
theorem dX11_behindSum_127 : decode cX11_behindSum 127 = .ok (.invokevirtual 348, 3) := by decide +kernel
theorem dX11_behindSum_130 : decode cX11_behindSum 130 = .ok (.aload_n 0, 1) := by decide +kernel
theorem dX11_behindSum_131 : decode cX11_behindSum 131 = .ok (.dup, 1) := by decide +kernel
theorem dX11_behindSum_132 : decode cX11_behindSum 132 = .ok (.getfield 284, 3) := by decide +kernel
theorem dX11_behindSum_135 : decode cX11_behindSum 135 = .ok (.iconst 1, 1) := by decide +kernel
theorem dX11_behindSum_136 : decode cX11_behindSum 136 = .ok (.isub, 1) := by decide +kernel
theorem dX11_behindSum_137 : decode cX11_behindSum 137 = .ok (.putfield 284, 3) := by decide +kernel
theorem dX11_behindSum_140 : decode cX11_behindSum 140 = .ok (.aload_n 0, 1) := by decide +kernel
theorem dX11_behindSum_141 : decode cX11_behindSum 141 = .ok (.dup, 1) := by decide +kernel
theorem dX11_behindSum_142 : decode cX11_behindSum 142 = .ok (.getfield 306, 3) := by decide +kernel
theorem dX11_behindSum_145 : decode cX11_behindSum 145 = .ok (.iconst 1, 1) := by decide +kernel
theorem dX11_behindSum_146 : decode cX11_behindSum 146 = .ok (.isub, 1) := by decide +kernel
theorem dX11_behindSum_147 : decode cX11_behindSum 147 = .ok (.putfield 306, 3) := by decide +kernel
theorem dX11_behindSum_150 : decode cX11_behindSum 150 = .ok (.iconst 3, 1) := by decide +kernel
theorem dX11_behindSum_151 : decode cX11_behindSum 151 = .ok (.ireturn, 1) := by decide +kernel
theorem dX11_behindSum_152 : decode cX11_behindSum 152 = .ok (.iload_n 3, 1) := by decide +kernel
theorem dX11_behindSum_153 : decode cX11_behindSum 153 = .ok (.iconst (-1), 1) := by decide +kernel
theorem dX11_behindSum_154 : decode cX11_behindSum 154 = .ok (.if_icmp .ne 9, 3) := by decide +kernel
theorem dX11_behindSum_157 : decode cX11_behindSum 157 = .ok (.iload_n 1, 1) := by decide +kernel
theorem dX11_behindSum_158 : decode cX11_behindSum 158 = .ok (.ifCond .ne 5, 3) := by decide +kernel
theorem dX11_behindSum_161 : decode cX11_behindSum 161 = .ok (.iconst 4, 1) := by decide +kernel
theorem dX11_behindSum_162 : decode cX11_behindSum 162 = .ok (.ireturn, 1) := by decide +kernel
theorem dX11_behindSum_163 : decode cX11_behindSum 163 = .ok (.aload_n 0, 1) := by decide +kernel
theorem dX11_behindSum_164 : decode cX11_behindSum 164 = .ok (.invokevirtual 354, 3) := by decide +kernel
theorem dX11_behindSum_167 : decode cX11_behindSum 167 = .ok (.ifCond .eq 5, 3) := by decide +kernel
theorem dX11_behindSum_170 : decode cX11_behindSum 170 = .ok (.iconst 2, 1) := by decide +kernel
theorem dX11_behindSum_171 : decode cX11_behindSum 171 = .ok (.ireturn, 1) := by decide +kernel
theorem dX11_behindSum_172 : decode cX11_behindSum 172 = .ok (.aload_n 0, 1) := by decide +kernel
theorem dX11_behindSum_173 : decode cX11_behindSum 173 = .ok (.bipush 60, 2) := by decide +kernel
theorem dX11_behindSum_175 : decode cX11_behindSum 175 = .ok (.invokevirtual 315, 3) := by decide +kernel
theorem dX11_behindSum_178 : decode cX11_behindSum 178 = .ok (.ifCond .eq 8, 3) := by decide +kernel
theorem dX11_behindSum_181 : decode cX11_behindSum 181 = .ok (.bipush 25, 2) := by decide +kernel
theorem dX11_behindSum_183 : decode cX11_behindSum 183 = .ok (.goto 19, 3) := by decide +kernel
theorem dX11_behindSum_186 : decode cX11_behindSum 186 = .ok (.aload_n 0, 1) := by decide +kernel
theorem dX11_behindSum_187 : decode cX11_behindSum 187 = .ok (.bipush 62, 2) := by decide +kernel
theorem dX11_behindSum_189 : decode cX11_behindSum 189 = .ok (.invokevirtual 315, 3) := by decide +kernel
theorem dX11_behindSum_192 : decode cX11_behindSum 192 = .ok (.ifCond .eq 8, 3) := by decide +kernel
theorem dX11_behindSum_195 : decode cX11_behindSum 195 = .ok (.bipush 26, 2) := by decide +kernel
theorem dX11_behindSum_197 : decode cX11_behindSum 197 = .ok (.goto 5, 3) := by decide +kernel
theorem dX11_behindSum_200 : decode cX11_behindSum 200 = .ok (.bipush 27, 2) := by decide +kernel
theorem dX11_behindSum_202 : decode cX11_behindSum 202 = .ok (.istore_n 2, 1) := by decide +kernel
theorem dX11_behindSum_203 : decode cX11_behindSum 203 = .ok (.aload_n 0, 1) := by decide +kernel
theorem dX11_behindSum_204 : decode cX11_behindSum 204 = .ok (.iload_n 2, 1) := by decide +kernel
theorem dX11_behindSum_205 : decode cX11_behindSum 205 = .ok (.bipush 27, 2) := by decide +kernel
theorem dX11_behindSum_207 : decode cX11_behindSum 207 = .ok (.if_icmp .ne 12, 3) := by decide +kernel
theorem dX11_behindSum_210 : decode cX11_behindSum 210 = .ok (.aload_n 0, 1) := by decide +kernel
theorem dX11_behindSum_211 : decode cX11_behindSum 211 = .ok (.bipush 61, 2) := by decide +kernel
theorem dX11_behindSum_213 : decode cX11_behindSum 213 = .ok (.invokevirtual 315, 3) := by decide +kernel
theorem dX11_behindSum_216 : decode cX11_behindSum 216 = .ok (.ifCond .eq 7, 3) := by decide +kernel
theorem dX11_behindSum_219 : decode cX11_behindSum 219 = .ok (.iconst 1, 1) := by decide +kernel
theorem dX11_behindSum_220 : decode cX11_behindSum 220 = .ok (.goto 4, 3) := by decide +kernel
theorem dX11_behindSum_223 : decode cX11_behindSum 223 = .ok (.iconst 0, 1) := by decide +kernel
theorem dX11_behindSum_224 : decode cX11_behindSum 224 = .ok (.invokevirtual 277, 3) := by decide +kernel
theorem dX11_behindSum_227 : decode cX11_behindSum 227 = .ok (.aload_n 0, 1) := by decide +kernel
theorem dX11_behindSum_228 : decode cX11_behindSum 228 = .ok (.getfield 244, 3) := by decide +kernel
theorem dX11_behindSum_231 : decode cX11_behindSum 231 = .ok (.ifCond .ne 14, 3) := by decide +kernel
theorem dX11_behindSum_234 : decode cX11_behindSum 234 = .ok (.aload_n 0, 1) := by decide +kernel
theorem dX11_behindSum_235 : decode cX11_behindSum 235 = .ok (.iconst 5, 1) := by decide +kernel
theorem dX11_behindSum_236 : decode cX11_behindSum 236 = .ok (.invokevirtual 348, 3) := by decide +kernel
theorem dX11_behindSum_239 : decode cX11_behindSum 239 = .ok (.aload_n 0, 1) := by decide +kernel
theorem dX11_behindSum_240 : decode cX11_behindSum 240 = .ok (.iload_n 2, 1) := by decide +kernel
theorem dX11_behindSum_241 : decode cX11_behindSum 241 = .ok (.iconst 0, 1) := by decide +kernel
theorem dX11_behindSum_242 : decode cX11_behindSum 242 = .ok (.invokevirtual 309, 3) := by decide +kernel
theorem dX11_behindSum_245 : decode cX11_behindSum 245 = .ok (.iconst 1, 1) := by decide +kernel
theorem dX11_behindSum_246 : decode cX11_behindSum 246 = .ok (.ireturn, 1) := by decide +kernel
theorem dX11_behindTest_0 : decode cX11_behindTest 0 = .ok (.aload_n 0, 1) := by decide +kernel
theorem dX11_behindTest_1 : decode cX11_behindTest 1 = .ok (.ldc2_w 358, 3) := by decide +kernel
theorem dX11_behindTest_4 : decode cX11_behindTest 4 = .ok (.invokevirtual 302, 3) := by decide +kernel
theorem dX11_behindTest_7 : decode cX11_behindTest 7 = .ok (.istore_n 1, 1) := by decide +kernel
theorem dX11_behindTest_8 : decode cX11_behindTest 8 = .ok (.iload_n 1, 1) := by decide +kernel
theorem dX11_behindTest_9 : decode cX11_behindTest 9 = .ok (.ifCond .ne 13, 3) := by decide +kernel
theorem dX11_behindTest_12 : decode cX11_behindTest 12 = .ok (.aload_n 0, 1) := by decide +kernel
theorem dX11_behindTest_13 : decode cX11_behindTest 13 = .ok (.ldc2_w 360, 3) := by decide +kernel
theorem dX11_behindTest_16 : decode cX11_behindTest 16 = .ok (.invokevirtual 302, 3) := by decide +kernel
theorem dX11_behindTest_19 : decode cX11_behindTest 19 = .ok (.ifCond .eq 57, 3) := by decide +kernel
theorem dX11_behindTest_22 : decode cX11_behindTest 22 = .ok (.aload_n 0, 1) := by decide +kernel
theorem dX11_behindTest_23 : decode cX11_behindTest 23 = .ok (.iload_n 1, 1) := by decide +kernel
theorem dX11_behindTest_24 : decode cX11_behindTest 24 = .ok (.ifCond .eq 7, 3) := by decide +kernel
theorem dX11_behindTest_27 : decode cX11_behindTest 27 = .ok (.iconst 2, 1) := by decide +kernel
theorem dX11_behindTest_28 : decode cX11_behindTest 28 = .ok (.goto 4, 3) := by decide +kernel
theorem dX11_behindTest_31 : decode cX11_behindTest 31 = .ok (.iconst 1, 1) := by decide +kernel
theorem dX11_behindTest_32 : decode cX11_behindTest 32 = .ok (.invokevirtual 348, 3) := by decide +kernel
theorem dX11_behindTest_35 : decode cX11_behindTest 35 = .ok (.aload_n 0, 1) := by decide +kernel
theorem dX11_behindTest_36 : decode cX11_behindTest 36 = .ok (.iload_n 1, 1) := by decide +kernel
theorem dX11_behindTest_37 : decode cX11_behindTest 37 = .ok (.ifCond .eq 8, 3) := by decide +kernel
theorem dX11_behindTest_40 : decode cX11_behindTest 40 = .ok (.bipush 29, 2) := by decide +kernel
theorem dX11_behindTest_42 : decode cX11_behindTest 42 = .ok (.goto 5, 3) := by decide +kernel
theorem dX11_behindTest_45 : decode cX11_behindTest 45 = .ok (.bipush 30, 2) := by decide +kernel
theorem dX11_behindTest_47 : decode cX11_behindTest 47 = .ok (.aload_n 0, 1) := by decide +kernel
theorem dX11_behindTest_48 : decode cX11_behindTest 48 = .ok (.getfield 281, 3) := by decide +kernel
theorem dX11_behindTest_51 : decode cX11_behindTest 51 = .ok (.invokevirtual 309, 3) := by decide +kernel
theorem dX11_behindTest_54 : decode cX11_behindTest 54 = .ok (.aload_n 0, 1) := by decide +kernel
theorem dX11_behindTest_55 : decode cX11_behindTest 55 = .ok (.iload_n 1, 1) := by decide +kernel
theorem dX11_behindTest_56 : decode cX11_behindTest 56 = .ok (.ifCond .eq 8, 3) := by decide +kernel
theorem dX11_behindTest_59 : decode cX11_behindTest 59 = .ok (.bipush 29, 2) := by decide +kernel
theorem dX11_behindTest_61 : decode cX11_behindTest 61 = .ok (.goto 5, 3) := by decide +kernel
theorem dX11_behindTest_64 : decode cX11_behindTest 64 = .ok (.bipush 30, 2) := by decide +kernel
theorem dX11_behindTest_66 : decode cX11_behindTest 66 = .ok (.iconst 0, 1) := by decide +kernel
theorem dX11_behindTest_67 : decode cX11_behindTest 67 = .ok (.invokevirtual 290, 3) := by decide +kernel
theorem dX11_behindTest_70 : decode cX11_behindTest 70 = .ok (.aload_n 0, 1) := by decide +kernel
theorem dX11_behindTest_71 : decode cX11_behindTest 71 = .ok (.invokevirtual 248, 3) := by decide +kernel
theorem dX11_behindTest_74 : decode cX11_behindTest 74 = .ok (.iconst 0, 1) := by decide +kernel
theorem dX11_behindTest_75 : decode cX11_behindTest 75 = .ok (.ireturn, 1) := by decide +kernel
theorem dX11_behindTest_76 : decode cX11_behindTest 76 = .ok (.aload_n 0, 1) := by decide +kernel
theorem dX11_behindTest_77 : decode cX11_behindTest 77 = .ok (.invokevirtual 351, 3) := by decide +kernel
theorem dX11_behindTest_80 : decode cX11_behindTest 80 = .ok (.iconst (-1), 1) := by decide +kernel
theorem dX11_behindTest_81 : decode cX11_behindTest 81 = .ok (.if_icmp .ne 5, 3) := by decide +kernel
theorem dX11_behindTest_84 : decode cX11_behindTest 84 = .ok (.iconst 4, 1) := by decide +kernel
theorem dX11_behindTest_85 : decode cX11_behindTest 85 = .ok (.ireturn, 1) := by decide +kernel
theorem dX11_behindTest_86 : decode cX11_behindTest 86 = .ok (.aload_n 0, 1) := by decide +kernel
theorem dX11_behindTest_87 : decode cX11_behindTest 87 = .ok (.aload_n 0, 1) := by decide +kernel
theorem dX11_behindTest_88 : decode cX11_behindTest 88 = .ok (.bipush 41, 2) := by decide +kernel
theorem dX11_behindTest_90 : decode cX11_behindTest 90 = .ok (.invokevirtual 315, 3) := by decide +kernel
theorem dX11_behindTest_93 : decode cX11_behindTest 93 = .ok (.invokevirtual 277, 3) := by decide +kernel
theorem dX11_behindTest_96 : decode cX11_behindTest 96 = .ok (.aload_n 0, 1) := by decide +kernel
theorem dX11_behindTest_97 : decode cX11_behindTest 97 = .ok (.getfield 244, 3) := by decide +kernel
theorem dX11_behindTest_100 : decode cX11_behindTest 100 = .ok (.ifCond .ne 28, 3) := by decide +kernel
theorem dX11_behindTest_103 : decode cX11_behindTest 103 = .ok (.aload_n 0, 1) := by decide +kernel
theorem dX11_behindTest_104 : decode cX11_behindTest 104 = .ok (.iconst 1, 1) := by decide +kernel
theorem dX11_behindTest_105 : decode cX11_behindTest 105 = .ok (.invokevirtual 348, 3) := by decide +kernel
theorem dX11_behindTest_108 : decode cX11_behindTest 108 = .ok (.aload_n 0, 1) := by decide +kernel
theorem dX11_behindTest_109 : decode cX11_behindTest 109 = .ok (.dup, 1) := by decide +kernel
theorem dX11_behindTest_110 : decode cX11_behindTest 110 = .ok (.getfield 284, 3) := by decide +kernel
theorem dX11_behindTest_113 : decode cX11_behindTest 113 = .ok (.iconst 1, 1) := by decide +kernel
theorem dX11_behindTest_114 : decode cX11_behindTest 114 = .ok (.isub, 1) := by decide +kernel
theorem dX11_behindTest_115 : decode cX11_behindTest 115 = .ok (.putfield 284, 3) := by decide +kernel
theorem dX11_behindTest_118 : decode cX11_behindTest 118 = .ok (.aload_n 0, 1) := by decide +kernel
theorem dX11_behindTest_119 : decode cX11_behindTest 119 = .ok (.dup, 1) := by decide +kernel
theorem dX11_behindTest_120 : decode cX11_behindTest 120 = .ok (.getfield 306, 3) := by decide +kernel
theorem dX11_behindTest_123 : decode cX11_behindTest 123 = .ok (.iconst 1, 1) := by decide +kernel
theorem dX11_behindTest_124 : decode cX11_behindTest 124 = .ok (.isub, 1) := by decide +kernel
theorem dX11_behindTest_125 : decode cX11_behindTest 125 = .ok (.putfield 306, 3) := by decide +kernel
theorem dX11_behindTest_128 : decode cX11_behindTest 128 = .ok (.iconst 2, 1) := by decide +kernel
theorem dX11_behindTest_129 : decode cX11_behindTest 129 = .ok (.ireturn, 1) := by decide +kernel
theorem dX11_readExpression_0 : decode cX11_readExpression 0 = .ok (.aload_n 0, 1) := by decide +kernel
theorem dX11_readExpression_1 : decode cX11_readExpression 1 = .ok (.iconst 0, 1) := by decide +kernel
theorem dX11_readExpression_2 : decode cX11_readExpression 2 = .ok (.putfield 284, 3) := by decide +kernel
theorem dX11_readExpression_5 : decode cX11_readExpression 5 = .ok (.aload_n 0, 1) := by decide +kernel
theorem dX11_readExpression_6 : decode cX11_readExpression 6 = .ok (.iconst 0, 1) := by decide +kernel
theorem dX11_readExpression_7 : decode cX11_readExpression 7 = .ok (.putfield 306, 3) := by decide +kernel
theorem dX11_readExpression_10 : decode cX11_readExpression 10 = .ok (.iload_n 1, 1) := by decide +kernel
theorem dX11_readExpression_11 : decode cX11_readExpression 11 = .ok (.ifCond .eq 7, 3) := by decide +kernel
theorem dX11_readExpression_14 : decode cX11_readExpression 14 = .ok (.iconst 0, 1) := by decide +kernel
theorem dX11_readExpression_15 : decode cX11_readExpression 15 = .ok (.goto 4, 3) := by decide +kernel
theorem dX11_readExpression_18 : decode cX11_readExpression 18 = .ok (.iconst 1, 1) := by decide +kernel
theorem dX11_readExpression_19 : decode cX11_readExpression 19 = .ok (.istore_n 2, 1) := by decide +kernel
theorem dX11_readExpression_20 : decode cX11_readExpression 20 = .ok (.aload_n 0, 1) := by decide +kernel
theorem dX11_readExpression_21 : decode cX11_readExpression 21 = .ok (.getfield 244, 3) := by decide +kernel
theorem dX11_readExpression_24 : decode cX11_readExpression 24 = .ok (.ifCond .ne 52, 3) := by decide +kernel
theorem dX11_readExpression_27 : decode cX11_readExpression 27 = .ok (.iload_n 2, 1) := by decide +kernel
theorem dX11_readExpression_28 : decode cX11_readExpression 28 = .ok (.iconst 4, 1) := by decide +kernel
theorem dX11_readExpression_29 : decode cX11_readExpression 29 = .ok (.if_icmp .eq 47, 3) := by decide +kernel
theorem dX11_readExpression_32 : decode cX11_readExpression 32 = .ok (.iload_n 2, 1) := by decide +kernel
theorem dX11_readExpression_33 : decode cX11_readExpression 33 = .ok (.ifCond .ne 10, 3) := by decide +kernel
theorem dX11_readExpression_36 : decode cX11_readExpression 36 = .ok (.aload_n 0, 1) := by decide +kernel
theorem dX11_readExpression_37 : decode cX11_readExpression 37 = .ok (.invokevirtual 362, 3) := by decide +kernel
theorem dX11_readExpression_40 : decode cX11_readExpression 40 = .ok (.goto 32, 3) := by decide +kernel
theorem dX11_readExpression_43 : decode cX11_readExpression 43 = .ok (.iload_n 2, 1) := by decide +kernel
theorem dX11_readExpression_44 : decode cX11_readExpression 44 = .ok (.iconst 1, 1) := by decide +kernel
theorem dX11_readExpression_45 : decode cX11_readExpression 45 = .ok (.if_icmp .ne 10, 3) := by decide +kernel
theorem dX11_readExpression_48 : decode cX11_readExpression 48 = .ok (.aload_n 0, 1) := by decide +kernel
theorem dX11_readExpression_49 : decode cX11_readExpression 49 = .ok (.invokevirtual 345, 3) := by decide +kernel
theorem dX11_readExpression_52 : decode cX11_readExpression 52 = .ok (.goto 20, 3) := by decide +kernel
theorem dX11_readExpression_55 : decode cX11_readExpression 55 = .ok (.iload_n 2, 1) := by decide +kernel
theorem dX11_readExpression_56 : decode cX11_readExpression 56 = .ok (.iconst 3, 1) := by decide +kernel
theorem dX11_readExpression_57 : decode cX11_readExpression 57 = .ok (.if_icmp .ne 11, 3) := by decide +kernel
theorem dX11_readExpression_60 : decode cX11_readExpression 60 = .ok (.aload_n 0, 1) := by decide +kernel
theorem dX11_readExpression_61 : decode cX11_readExpression 61 = .ok (.iload_n 1, 1) := by decide +kernel
theorem dX11_readExpression_62 : decode cX11_readExpression 62 = .ok (.invokevirtual 365, 3) := by decide +kernel
theorem dX11_readExpression_65 : decode cX11_readExpression 65 = .ok (.goto 7, 3) := by decide +kernel
theorem dX11_readExpression_68 : decode cX11_readExpression 68 = .ok (.aload_n 0, 1) := by decide +kernel
theorem dX11_readExpression_69 : decode cX11_readExpression 69 = .ok (.invokevirtual 369, 3) := by decide +kernel
theorem dX11_readExpression_72 : decode cX11_readExpression 72 = .ok (.istore_n 2, 1) := by decide +kernel
theorem dX11_readExpression_73 : decode cX11_readExpression 73 = .ok (.goto (-53), 3) := by decide +kernel
theorem dX11_readExpression_76 : decode cX11_readExpression 76 = .ok (.aload_n 0, 1) := by decide +kernel
theorem dX11_readExpression_77 : decode cX11_readExpression 77 = .ok (.iconst 1, 1) := by decide +kernel
theorem dX11_readExpression_78 : decode cX11_readExpression 78 = .ok (.invokevirtual 348, 3) := by decide +kernel
theorem dX11_readExpression_81 : decode cX11_readExpression 81 = .ok (.return_, 1) := by decide +kernel
theorem dX11_beginText_0 : decode cX11_beginText 0 = .ok (.aload_n 0, 1) := by decide +kernel
theorem dX11_beginText_1 : decode cX11_beginText 1 = .ok (.iload_n 1, 1) := by decide +kernel
theorem dX11_beginText_2 : decode cX11_beginText 2 = .ok (.putfield 321, 3) := by decide +kernel
theorem dX11_beginText_5 : decode cX11_beginText 5 = .ok (.aload_n 0, 1) := by decide +kernel
theorem dX11_beginText_6 : decode cX11_beginText 6 = .ok (.invokevirtual 372, 3) := by decide +kernel
theorem dX11_beginText_9 : decode cX11_beginText 9 = .ok (.aload_n 0, 1) := by decide +kernel
theorem dX11_beginText_10 : decode cX11_beginText 10 = .ok (.iconst 0, 1) := by decide +kernel
theorem dX11_beginText_11 : decode cX11_beginText 11 = .ok (.putfield 375, 3) := by decide +kernel
theorem dX11_beginText_14 : decode cX11_beginText 14 = .ok (.aload_n 0, 1) := by decide +kernel
theorem dX11_beginText_15 : decode cX11_beginText 15 = .ok (.iconst 0, 1) := by decide +kernel
theorem dX11_beginText_16 : decode cX11_beginText 16 = .ok (.putfield 281, 3) := by decide +kernel
theorem dX11_beginText_19 : decode cX11_beginText 19 = .ok (.aload_n 0, 1) := by decide +kernel
theorem dX11_beginText_20 : decode cX11_beginText 20 = .ok (.iconst 0, 1) := by decide +kernel
theorem dX11_beginText_21 : decode cX11_beginText 21 = .ok (.putfield 312, 3) := by decide +kernel
theorem dX11_beginText_24 : decode cX11_beginText 24 = .ok (.return_, 1) := by decide +kernel
theorem dX11_endText_0 : decode cX11_endText 0 = .ok (.aload_n 0, 1) := by decide +kernel
theorem dX11_endText_1 : decode cX11_endText 1 = .ok (.getfield 244, 3) := by decide +kernel
theorem dX11_endText_4 : decode cX11_endText 4 = .ok (.ifCond .ne 15, 3) := by decide +kernel
theorem dX11_endText_7 : decode cX11_endText 7 = .ok (.aload_n 0, 1) := by decide +kernel
theorem dX11_endText_8 : decode cX11_endText 8 = .ok (.getfield 264, 3) := by decide +kernel
theorem dX11_endText_11 : decode cX11_endText 11 = .ok (.ifCond .eq 8, 3) := by decide +kernel
theorem dX11_endText_14 : decode cX11_endText 14 = .ok (.aload_n 0, 1) := by decide +kernel
theorem dX11_endText_15 : decode cX11_endText 15 = .ok (.iconst 0, 1) := by decide +kernel
theorem dX11_endText_16 : decode cX11_endText 16 = .ok (.invokevirtual 277, 3) := by decide +kernel
theorem dX11_endText_19 : decode cX11_endText 19 = .ok (.aload_n 0, 1) := by decide +kernel
theorem dX11_endText_20 : decode cX11_endText 20 = .ok (.iconst 0, 1) := by decide +kernel
theorem dX11_endText_21 : decode cX11_endText 21 = .ok (.putfield 321, 3) := by decide +kernel
theorem dX11_endText_24 : decode cX11_endText 24 = .ok (.aload_n 0, 1) := by decide +kernel
theorem dX11_endText_25 : decode cX11_endText 25 = .ok (.iconst 0, 1) := by decide +kernel
theorem dX11_endText_26 : decode cX11_endText 26 = .ok (.putfield 232, 3) := by decide +kernel
theorem dX11_endText_29 : decode cX11_endText 29 = .ok (.return_, 1) := by decide +kernel
theorem dX11_readLaw_0 : decode cX11_readLaw 0 = .ok (.iconst (-1), 1) := by decide +kernel
theorem dX11_readLaw_1 : decode cX11_readLaw 1 = .ok (.istore_n 1, 1) := by decide +kernel
theorem dX11_readLaw_2 : decode cX11_readLaw 2 = .ok (.iconst 0, 1) := by decide +kernel
theorem dX11_readLaw_3 : decode cX11_readLaw 3 = .ok (.istore_n 2, 1) := by decide +kernel
theorem dX11_readLaw_4 : decode cX11_readLaw 4 = .ok (.iload_n 2, 1) := by decide +kernel
theorem dX11_readLaw_5 : decode cX11_readLaw 5 = .ok (.iconst 4, 1) := by decide +kernel
theorem dX11_readLaw_6 : decode cX11_readLaw 6 = .ok (.if_icmp .ge 28, 3) := by decide +kernel
theorem dX11_readLaw_9 : decode cX11_readLaw 9 = .ok (.aload_n 0, 1) := by decide +kernel
theorem dX11_readLaw_10 : decode cX11_readLaw 10 = .ok (.aload_n 0, 1) := by decide +kernel
theorem dX11_readLaw_11 : decode cX11_readLaw 11 = .ok (.getfield 96, 3) := by decide +kernel
theorem dX11_readLaw_14 : decode cX11_readLaw 14 = .ok (.iload_n 2, 1) := by decide +kernel
theorem dX11_readLaw_15 : decode cX11_readLaw 15 = .ok (.laload, 1) := by decide +kernel
theorem dX11_readLaw_16 : decode cX11_readLaw 16 = .ok (.invokevirtual 302, 3) := by decide +kernel
theorem dX11_readLaw_19 : decode cX11_readLaw 19 = .ok (.ifCond .eq 7, 3) := by decide +kernel
theorem dX11_readLaw_22 : decode cX11_readLaw 22 = .ok (.iload_n 2, 1) := by decide +kernel
theorem dX11_readLaw_23 : decode cX11_readLaw 23 = .ok (.goto 4, 3) := by decide +kernel
theorem dX11_readLaw_26 : decode cX11_readLaw 26 = .ok (.iload_n 1, 1) := by decide +kernel
theorem dX11_readLaw_27 : decode cX11_readLaw 27 = .ok (.istore_n 1, 1) := by decide +kernel
theorem dX11_readLaw_28 : decode cX11_readLaw 28 = .ok (.iinc 2 1, 3) := by decide +kernel
theorem dX11_readLaw_31 : decode cX11_readLaw 31 = .ok (.goto (-27), 3) := by decide +kernel
theorem dX11_readLaw_34 : decode cX11_readLaw 34 = .ok (.aload_n 0, 1) := by decide +kernel
theorem dX11_readLaw_35 : decode cX11_readLaw 35 = .ok (.iload_n 1, 1) := by decide +kernel
theorem dX11_readLaw_36 : decode cX11_readLaw 36 = .ok (.iconst (-1), 1) := by decide +kernel
theorem dX11_readLaw_37 : decode cX11_readLaw 37 = .ok (.if_icmp .eq 16, 3) := by decide +kernel
theorem dX11_readLaw_40 : decode cX11_readLaw 40 = .ok (.aload_n 0, 1) := by decide +kernel
theorem dX11_readLaw_41 : decode cX11_readLaw 41 = .ok (.getfield 375, 3) := by decide +kernel
theorem dX11_readLaw_44 : decode cX11_readLaw 44 = .ok (.bipush 12, 2) := by decide +kernel
theorem dX11_readLaw_46 : decode cX11_readLaw 46 = .ok (.if_icmp .ge 7, 3) := by decide +kernel
theorem dX11_readLaw_49 : decode cX11_readLaw 49 = .ok (.iconst 1, 1) := by decide +kernel
theorem dX11_readLaw_50 : decode cX11_readLaw 50 = .ok (.goto 4, 3) := by decide +kernel
theorem dX11_readLaw_53 : decode cX11_readLaw 53 = .ok (.iconst 0, 1) := by decide +kernel
theorem dX11_readLaw_54 : decode cX11_readLaw 54 = .ok (.invokevirtual 277, 3) := by decide +kernel
theorem dX11_readLaw_57 : decode cX11_readLaw 57 = .ok (.aload_n 0, 1) := by decide +kernel
theorem dX11_readLaw_58 : decode cX11_readLaw 58 = .ok (.getfield 244, 3) := by decide +kernel
theorem dX11_readLaw_61 : decode cX11_readLaw 61 = .ok (.ifCond .eq 4, 3) := by decide +kernel
theorem dX11_readLaw_64 : decode cX11_readLaw 64 = .ok (.return_, 1) := by decide +kernel
theorem dX11_readLaw_65 : decode cX11_readLaw 65 = .ok (.bipush 8, 2) := by decide +kernel
theorem dX11_readLaw_67 : decode cX11_readLaw 67 = .ok (.aload_n 0, 1) := by decide +kernel
theorem dX11_readLaw_68 : decode cX11_readLaw 68 = .ok (.getfield 375, 3) := by decide +kernel
theorem dX11_readLaw_71 : decode cX11_readLaw 71 = .ok (.imul, 1) := by decide +kernel
theorem dX11_readLaw_72 : decode cX11_readLaw 72 = .ok (.istore_n 2, 1) := by decide +kernel
theorem dX11_readLaw_73 : decode cX11_readLaw 73 = .ok (.iconst 0, 1) := by decide +kernel
theorem dX11_readLaw_74 : decode cX11_readLaw 74 = .ok (.istore_n 3, 1) := by decide +kernel
theorem dX11_readLaw_75 : decode cX11_readLaw 75 = .ok (.iload_n 3, 1) := by decide +kernel
theorem dX11_readLaw_76 : decode cX11_readLaw 76 = .ok (.bipush 8, 2) := by decide +kernel
theorem dX11_readLaw_78 : decode cX11_readLaw 78 = .ok (.if_icmp .ge 18, 3) := by decide +kernel
theorem dX11_readLaw_81 : decode cX11_readLaw 81 = .ok (.aload_n 0, 1) := by decide +kernel
theorem dX11_readLaw_82 : decode cX11_readLaw 82 = .ok (.getfield 42, 3) := by decide +kernel
theorem dX11_readLaw_85 : decode cX11_readLaw 85 = .ok (.iload_n 2, 1) := by decide +kernel
theorem dX11_readLaw_86 : decode cX11_readLaw 86 = .ok (.iload_n 3, 1) := by decide +kernel
theorem dX11_readLaw_87 : decode cX11_readLaw 87 = .ok (.iadd, 1) := by decide +kernel
theorem dX11_readLaw_88 : decode cX11_readLaw 88 = .ok (.iconst 0, 1) := by decide +kernel
theorem dX11_readLaw_89 : decode cX11_readLaw 89 = .ok (.iastore, 1) := by decide +kernel
theorem dX11_readLaw_90 : decode cX11_readLaw 90 = .ok (.iinc 3 1, 3) := by decide +kernel
theorem dX11_readLaw_93 : decode cX11_readLaw 93 = .ok (.goto (-18), 3) := by decide +kernel
theorem dX11_readLaw_96 : decode cX11_readLaw 96 = .ok (.aload_n 0, 1) := by decide +kernel
theorem dX11_readLaw_97 : decode cX11_readLaw 97 = .ok (.getfield 42, 3) := by decide +kernel
theorem dX11_readLaw_100 : decode cX11_readLaw 100 = .ok (.iload_n 2, 1) := by decide +kernel
theorem dX11_readLaw_101 : decode cX11_readLaw 101 = .ok (.iload_n 1, 1) := by decide +kernel
theorem dX11_readLaw_102 : decode cX11_readLaw 102 = .ok (.iastore, 1) := by decide +kernel
theorem dX11_readLaw_103 : decode cX11_readLaw 103 = .ok (.aload_n 0, 1) := by decide +kernel
theorem dX11_readLaw_104 : decode cX11_readLaw 104 = .ok (.dup, 1) := by decide +kernel
theorem dX11_readLaw_105 : decode cX11_readLaw 105 = .ok (.getfield 375, 3) := by decide +kernel
theorem dX11_readLaw_108 : decode cX11_readLaw 108 = .ok (.iconst 1, 1) := by decide +kernel
theorem dX11_readLaw_109 : decode cX11_readLaw 109 = .ok (.iadd, 1) := by decide +kernel
theorem dX11_readLaw_110 : decode cX11_readLaw 110 = .ok (.putfield 375, 3) := by decide +kernel
theorem dX11_readLaw_113 : decode cX11_readLaw 113 = .ok (.aload_n 0, 1) := by decide +kernel
theorem dX11_readLaw_114 : decode cX11_readLaw 114 = .ok (.getfield 42, 3) := by decide +kernel
theorem dX11_readLaw_117 : decode cX11_readLaw 117 = .ok (.iload_n 2, 1) := by decide +kernel
theorem dX11_readLaw_118 : decode cX11_readLaw 118 = .ok (.iconst 3, 1) := by decide +kernel
theorem dX11_readLaw_119 : decode cX11_readLaw 119 = .ok (.iadd, 1) := by decide +kernel
theorem dX11_readLaw_120 : decode cX11_readLaw 120 = .ok (.aload_n 0, 1) := by decide +kernel
theorem dX11_readLaw_121 : decode cX11_readLaw 121 = .ok (.getfield 281, 3) := by decide +kernel
theorem dX11_readLaw_124 : decode cX11_readLaw 124 = .ok (.iastore, 1) := by decide +kernel
theorem dX11_readLaw_125 : decode cX11_readLaw 125 = .ok (.iload_n 1, 1) := by decide +kernel
theorem dX11_readLaw_126 : decode cX11_readLaw 126 = .ok (.iconst 3, 1) := by decide +kernel
theorem dX11_readLaw_127 : decode cX11_readLaw 127 = .ok (.if_icmp .eq 8, 3) := by decide +kernel
theorem dX11_readLaw_130 : decode cX11_readLaw 130 = .ok (.aload_n 0, 1) := by decide +kernel
theorem dX11_readLaw_131 : decode cX11_readLaw 131 = .ok (.iconst 0, 1) := by decide +kernel
theorem dX11_readLaw_132 : decode cX11_readLaw 132 = .ok (.invokevirtual 378, 3) := by decide +kernel
theorem dX11_readLaw_135 : decode cX11_readLaw 135 = .ok (.aload_n 0, 1) := by decide +kernel
theorem dX11_readLaw_136 : decode cX11_readLaw 136 = .ok (.getfield 42, 3) := by decide +kernel
theorem dX11_readLaw_139 : decode cX11_readLaw 139 = .ok (.iload_n 2, 1) := by decide +kernel
theorem dX11_readLaw_140 : decode cX11_readLaw 140 = .ok (.iconst 4, 1) := by decide +kernel
theorem dX11_readLaw_141 : decode cX11_readLaw 141 = .ok (.iadd, 1) := by decide +kernel
theorem dX11_readLaw_142 : decode cX11_readLaw 142 = .ok (.aload_n 0, 1) := by decide +kernel
theorem dX11_readLaw_143 : decode cX11_readLaw 143 = .ok (.getfield 281, 3) := by decide +kernel
theorem dX11_readLaw_146 : decode cX11_readLaw 146 = .ok (.iastore, 1) := by decide +kernel
theorem dX11_readLaw_147 : decode cX11_readLaw 147 = .ok (.aload_n 0, 1) := by decide +kernel
theorem dX11_readLaw_148 : decode cX11_readLaw 148 = .ok (.getfield 42, 3) := by decide +kernel
theorem dX11_readLaw_151 : decode cX11_readLaw 151 = .ok (.iload_n 2, 1) := by decide +kernel
theorem dX11_readLaw_152 : decode cX11_readLaw 152 = .ok (.iconst 5, 1) := by decide +kernel
theorem dX11_readLaw_153 : decode cX11_readLaw 153 = .ok (.iadd, 1) := by decide +kernel
theorem dX11_readLaw_154 : decode cX11_readLaw 154 = .ok (.aload_n 0, 1) := by decide +kernel
theorem dX11_readLaw_155 : decode cX11_readLaw 155 = .ok (.getfield 281, 3) := by decide +kernel
theorem dX11_readLaw_158 : decode cX11_readLaw 158 = .ok (.iastore, 1) := by decide +kernel
theorem dX11_readLaw_159 : decode cX11_readLaw 159 = .ok (.aload_n 0, 1) := by decide +kernel
theorem dX11_readLaw_160 : decode cX11_readLaw 160 = .ok (.getfield 244, 3) := by decide +kernel
theorem dX11_readLaw_163 : decode cX11_readLaw 163 = .ok (.ifCond .ne 22, 3) := by decide +kernel
theorem dX11_readLaw_166 : decode cX11_readLaw 166 = .ok (.aload_n 0, 1) := by decide +kernel
theorem dX11_readLaw_167 : decode cX11_readLaw 167 = .ok (.ldc2_w 381, 3) := by decide +kernel
theorem dX11_readLaw_170 : decode cX11_readLaw 170 = .ok (.invokevirtual 302, 3) := by decide +kernel
theorem dX11_readLaw_173 : decode cX11_readLaw 173 = .ok (.ifCond .eq 12, 3) := by decide +kernel
theorem dX11_readLaw_176 : decode cX11_readLaw 176 = .ok (.aload_n 0, 1) := by decide +kernel
theorem dX11_readLaw_177 : decode cX11_readLaw 177 = .ok (.invokevirtual 248, 3) := by decide +kernel
theorem dX11_readLaw_180 : decode cX11_readLaw 180 = .ok (.aload_n 0, 1) := by decide +kernel
theorem dX11_readLaw_181 : decode cX11_readLaw 181 = .ok (.iconst 1, 1) := by decide +kernel
theorem dX11_readLaw_182 : decode cX11_readLaw 182 = .ok (.invokevirtual 378, 3) := by decide +kernel
theorem dX11_readLaw_185 : decode cX11_readLaw 185 = .ok (.aload_n 0, 1) := by decide +kernel
theorem dX11_readLaw_186 : decode cX11_readLaw 186 = .ok (.getfield 42, 3) := by decide +kernel
theorem dX11_readLaw_189 : decode cX11_readLaw 189 = .ok (.iload_n 2, 1) := by decide +kernel
theorem dX11_readLaw_190 : decode cX11_readLaw 190 = .ok (.bipush 6, 2) := by decide +kernel
theorem dX11_readLaw_192 : decode cX11_readLaw 192 = .ok (.iadd, 1) := by decide +kernel
theorem dX11_readLaw_193 : decode cX11_readLaw 193 = .ok (.aload_n 0, 1) := by decide +kernel
theorem dX11_readLaw_194 : decode cX11_readLaw 194 = .ok (.getfield 281, 3) := by decide +kernel
theorem dX11_readLaw_197 : decode cX11_readLaw 197 = .ok (.iastore, 1) := by decide +kernel
theorem dX11_readLaw_198 : decode cX11_readLaw 198 = .ok (.return_, 1) := by decide +kernel
theorem dX11_law_0 : decode cX11_law 0 = .ok (.aload_n 0, 1) := by decide +kernel
theorem dX11_law_1 : decode cX11_law 1 = .ok (.iconst 0, 1) := by decide +kernel
theorem dX11_law_2 : decode cX11_law 2 = .ok (.putfield 149, 3) := by decide +kernel
theorem dX11_law_5 : decode cX11_law 5 = .ok (.aload_n 0, 1) := by decide +kernel
theorem dX11_law_6 : decode cX11_law 6 = .ok (.getfield 13, 3) := by decide +kernel
theorem dX11_law_9 : decode cX11_law 9 = .ok (.iconst 4, 1) := by decide +kernel
theorem dX11_law_10 : decode cX11_law 10 = .ok (.iaload, 1) := by decide +kernel
theorem dX11_law_11 : decode cX11_law 11 = .ok (.bipush 6, 2) := by decide +kernel
theorem dX11_law_13 : decode cX11_law 13 = .ok (.if_icmp .ne 15, 3) := by decide +kernel
theorem dX11_law_16 : decode cX11_law 16 = .ok (.aload_n 0, 1) := by decide +kernel
theorem dX11_law_17 : decode cX11_law 17 = .ok (.iconst 0, 1) := by decide +kernel
theorem dX11_law_18 : decode cX11_law 18 = .ok (.putfield 232, 3) := by decide +kernel
theorem dX11_law_21 : decode cX11_law 21 = .ok (.aload_n 0, 1) := by decide +kernel
theorem dX11_law_22 : decode cX11_law 22 = .ok (.bipush (-5), 2) := by decide +kernel
theorem dX11_law_24 : decode cX11_law 24 = .ok (.invokevirtual 158, 3) := by decide +kernel
theorem dX11_law_27 : decode cX11_law 27 = .ok (.ireturn, 1) := by decide +kernel
theorem dX11_law_28 : decode cX11_law 28 = .ok (.aload_n 0, 1) := by decide +kernel
theorem dX11_law_29 : decode cX11_law 29 = .ok (.iconst 0, 1) := by decide +kernel
theorem dX11_law_30 : decode cX11_law 30 = .ok (.invokevirtual 383, 3) := by decide +kernel
theorem dX11_law_33 : decode cX11_law 33 = .ok (.aload_n 0, 1) := by decide +kernel
theorem dX11_law_34 : decode cX11_law 34 = .ok (.invokevirtual 386, 3) := by decide +kernel
theorem dX11_law_37 : decode cX11_law 37 = .ok (.aload_n 0, 1) := by decide +kernel
theorem dX11_law_38 : decode cX11_law 38 = .ok (.getfield 244, 3) := by decide +kernel
theorem dX11_law_41 : decode cX11_law 41 = .ok (.ifCond .ne 23, 3) := by decide +kernel
theorem dX11_law_44 : decode cX11_law 44 = .ok (.aload_n 0, 1) := by decide +kernel
theorem dX11_law_45 : decode cX11_law 45 = .ok (.bipush 59, 2) := by decide +kernel
theorem dX11_law_47 : decode cX11_law 47 = .ok (.invokevirtual 315, 3) := by decide +kernel
theorem dX11_law_50 : decode cX11_law 50 = .ok (.ifCond .eq 14, 3) := by decide +kernel
theorem dX11_law_53 : decode cX11_law 53 = .ok (.aload_n 0, 1) := by decide +kernel
theorem dX11_law_54 : decode cX11_law 54 = .ok (.invokevirtual 248, 3) := by decide +kernel
theorem dX11_law_57 : decode cX11_law 57 = .ok (.aload_n 0, 1) := by decide +kernel
theorem dX11_law_58 : decode cX11_law 58 = .ok (.invokevirtual 386, 3) := by decide +kernel
theorem dX11_law_61 : decode cX11_law 61 = .ok (.goto (-24), 3) := by decide +kernel
theorem dX11_law_64 : decode cX11_law 64 = .ok (.aload_n 0, 1) := by decide +kernel
theorem dX11_law_65 : decode cX11_law 65 = .ok (.invokevirtual 389, 3) := by decide +kernel
theorem dX11_law_68 : decode cX11_law 68 = .ok (.aload_n 0, 1) := by decide +kernel
theorem dX11_law_69 : decode cX11_law 69 = .ok (.getfield 244, 3) := by decide +kernel
theorem dX11_law_72 : decode cX11_law 72 = .ok (.ifCond .eq 10, 3) := by decide +kernel
theorem dX11_law_75 : decode cX11_law 75 = .ok (.aload_n 0, 1) := by decide +kernel
theorem dX11_law_76 : decode cX11_law 76 = .ok (.bipush (-6), 2) := by decide +kernel
theorem dX11_law_78 : decode cX11_law 78 = .ok (.invokevirtual 158, 3) := by decide +kernel
theorem dX11_law_81 : decode cX11_law 81 = .ok (.ireturn, 1) := by decide +kernel
theorem dX11_law_82 : decode cX11_law 82 = .ok (.bipush 110, 2) := by decide +kernel
theorem dX11_law_84 : decode cX11_law 84 = .ok (.sipush 900, 3) := by decide +kernel
theorem dX11_law_87 : decode cX11_law 87 = .ok (.aload_n 0, 1) := by decide +kernel
theorem dX11_law_88 : decode cX11_law 88 = .ok (.getfield 13, 3) := by decide +kernel
theorem dX11_law_91 : decode cX11_law 91 = .ok (.iconst 4, 1) := by decide +kernel
theorem dX11_law_92 : decode cX11_law 92 = .ok (.iaload, 1) := by decide +kernel
theorem dX11_law_93 : decode cX11_law 93 = .ok (.imul, 1) := by decide +kernel
theorem dX11_law_94 : decode cX11_law 94 = .ok (.iadd, 1) := by decide +kernel
theorem dX11_law_95 : decode cX11_law 95 = .ok (.istore_n 1, 1) := by decide +kernel
theorem dX11_law_96 : decode cX11_law 96 = .ok (.aload_n 0, 1) := by decide +kernel
theorem dX11_law_97 : decode cX11_law 97 = .ok (.getfield 13, 3) := by decide +kernel
theorem dX11_law_100 : decode cX11_law 100 = .ok (.iload_n 1, 1) := by decide +kernel
theorem dX11_law_101 : decode cX11_law 101 = .ok (.iconst 1, 1) := by decide +kernel
theorem dX11_law_102 : decode cX11_law 102 = .ok (.iadd, 1) := by decide +kernel
theorem dX11_law_103 : decode cX11_law 103 = .ok (.aload_n 0, 1) := by decide +kernel
theorem dX11_law_104 : decode cX11_law 104 = .ok (.getfield 375, 3) := by decide +kernel
theorem dX11_law_107 : decode cX11_law 107 = .ok (.iastore, 1) := by decide +kernel
theorem dX11_law_108 : decode cX11_law 108 = .ok (.iconst 0, 1) := by decide +kernel
theorem dX11_law_109 : decode cX11_law 109 = .ok (.istore_n 2, 1) := by decide +kernel
theorem dX11_law_110 : decode cX11_law 110 = .ok (.iload_n 2, 1) := by decide +kernel
theorem dX11_law_111 : decode cX11_law 111 = .ok (.bipush 8, 2) := by decide +kernel
theorem dX11_law_113 : decode cX11_law 113 = .ok (.aload_n 0, 1) := by decide +kernel
theorem dX11_law_114 : decode cX11_law 114 = .ok (.getfield 375, 3) := by decide +kernel
theorem dX11_law_117 : decode cX11_law 117 = .ok (.imul, 1) := by decide +kernel
theorem dX11_law_118 : decode cX11_law 118 = .ok (.if_icmp .ge 25, 3) := by decide +kernel
theorem dX11_law_121 : decode cX11_law 121 = .ok (.aload_n 0, 1) := by decide +kernel
theorem dX11_law_122 : decode cX11_law 122 = .ok (.getfield 13, 3) := by decide +kernel
theorem dX11_law_125 : decode cX11_law 125 = .ok (.iload_n 1, 1) := by decide +kernel
theorem dX11_law_126 : decode cX11_law 126 = .ok (.iconst 2, 1) := by decide +kernel
theorem dX11_law_127 : decode cX11_law 127 = .ok (.iadd, 1) := by decide +kernel
theorem dX11_law_128 : decode cX11_law 128 = .ok (.iload_n 2, 1) := by decide +kernel
theorem dX11_law_129 : decode cX11_law 129 = .ok (.iadd, 1) := by decide +kernel
theorem dX11_law_130 : decode cX11_law 130 = .ok (.aload_n 0, 1) := by decide +kernel
theorem dX11_law_131 : decode cX11_law 131 = .ok (.getfield 42, 3) := by decide +kernel
theorem dX11_law_134 : decode cX11_law 134 = .ok (.iload_n 2, 1) := by decide +kernel
theorem dX11_law_135 : decode cX11_law 135 = .ok (.iaload, 1) := by decide +kernel
theorem dX11_law_136 : decode cX11_law 136 = .ok (.iastore, 1) := by decide +kernel
theorem dX11_law_137 : decode cX11_law 137 = .ok (.iinc 2 1, 3) := by decide +kernel
theorem dX11_law_140 : decode cX11_law 140 = .ok (.goto (-30), 3) := by decide +kernel
theorem dX11_law_143 : decode cX11_law 143 = .ok (.iconst 0, 1) := by decide +kernel
theorem dX11_law_144 : decode cX11_law 144 = .ok (.istore_n 2, 1) := by decide +kernel
theorem dX11_law_145 : decode cX11_law 145 = .ok (.iload_n 2, 1) := by decide +kernel
theorem dX11_law_146 : decode cX11_law 146 = .ok (.aload_n 0, 1) := by decide +kernel
theorem dX11_law_147 : decode cX11_law 147 = .ok (.getfield 281, 3) := by decide +kernel
theorem dX11_law_150 : decode cX11_law 150 = .ok (.if_icmp .ge 49, 3) := by decide +kernel
theorem dX11_law_153 : decode cX11_law 153 = .ok (.aload_n 0, 1) := by decide +kernel
theorem dX11_law_154 : decode cX11_law 154 = .ok (.getfield 13, 3) := by decide +kernel
theorem dX11_law_157 : decode cX11_law 157 = .ok (.iload_n 1, 1) := by decide +kernel
theorem dX11_law_158 : decode cX11_law 158 = .ok (.bipush 98, 2) := by decide +kernel
theorem dX11_law_160 : decode cX11_law 160 = .ok (.iadd, 1) := by decide +kernel
theorem dX11_law_161 : decode cX11_law 161 = .ok (.iconst 2, 1) := by decide +kernel
theorem dX11_law_162 : decode cX11_law 162 = .ok (.iload_n 2, 1) := by decide +kernel
theorem dX11_law_163 : decode cX11_law 163 = .ok (.imul, 1) := by decide +kernel
theorem dX11_law_164 : decode cX11_law 164 = .ok (.iadd, 1) := by decide +kernel
theorem dX11_law_165 : decode cX11_law 165 = .ok (.aload_n 0, 1) := by decide +kernel
theorem dX11_law_166 : decode cX11_law 166 = .ok (.getfield 45, 3) := by decide +kernel
theorem dX11_law_169 : decode cX11_law 169 = .ok (.iload_n 2, 1) := by decide +kernel
theorem dX11_law_170 : decode cX11_law 170 = .ok (.iaload, 1) := by decide +kernel
theorem dX11_law_171 : decode cX11_law 171 = .ok (.iastore, 1) := by decide +kernel
theorem dX11_law_172 : decode cX11_law 172 = .ok (.aload_n 0, 1) := by decide +kernel
theorem dX11_law_173 : decode cX11_law 173 = .ok (.getfield 13, 3) := by decide +kernel
theorem dX11_law_176 : decode cX11_law 176 = .ok (.iload_n 1, 1) := by decide +kernel
theorem dX11_law_177 : decode cX11_law 177 = .ok (.bipush 98, 2) := by decide +kernel
theorem dX11_law_179 : decode cX11_law 179 = .ok (.iadd, 1) := by decide +kernel
theorem dX11_law_180 : decode cX11_law 180 = .ok (.iconst 2, 1) := by decide +kernel
theorem dX11_law_181 : decode cX11_law 181 = .ok (.iload_n 2, 1) := by decide +kernel
theorem dX11_law_182 : decode cX11_law 182 = .ok (.imul, 1) := by decide +kernel
theorem dX11_law_183 : decode cX11_law 183 = .ok (.iadd, 1) := by decide +kernel
theorem dX11_law_184 : decode cX11_law 184 = .ok (.iconst 1, 1) := by decide +kernel
theorem dX11_law_185 : decode cX11_law 185 = .ok (.iadd, 1) := by decide +kernel
theorem dX11_law_186 : decode cX11_law 186 = .ok (.aload_n 0, 1) := by decide +kernel
theorem dX11_law_187 : decode cX11_law 187 = .ok (.getfield 48, 3) := by decide +kernel
theorem dX11_law_190 : decode cX11_law 190 = .ok (.iload_n 2, 1) := by decide +kernel
theorem dX11_law_191 : decode cX11_law 191 = .ok (.iaload, 1) := by decide +kernel
theorem dX11_law_192 : decode cX11_law 192 = .ok (.iastore, 1) := by decide +kernel
theorem dX11_law_193 : decode cX11_law 193 = .ok (.iinc 2 1, 3) := by decide +kernel
theorem dX11_law_196 : decode cX11_law 196 = .ok (.goto (-51), 3) := by decide +kernel
theorem dX11_law_199 : decode cX11_law 199 = .ok (.aload_n 0, 1) := by decide +kernel
theorem dX11_law_200 : decode cX11_law 200 = .ok (.getfield 13, 3) := by decide +kernel
theorem dX11_law_203 : decode cX11_law 203 = .ok (.iconst 4, 1) := by decide +kernel
theorem dX11_law_204 : decode cX11_law 204 = .ok (.dup2, 1) := by decide +kernel
theorem dX11_law_205 : decode cX11_law 205 = .ok (.iaload, 1) := by decide +kernel
theorem dX11_law_206 : decode cX11_law 206 = .ok (.iconst 1, 1) := by decide +kernel
theorem dX11_law_207 : decode cX11_law 207 = .ok (.iadd, 1) := by decide +kernel
theorem dX11_law_208 : decode cX11_law 208 = .ok (.iastore, 1) := by decide +kernel
theorem dX11_law_209 : decode cX11_law 209 = .ok (.aload_n 0, 1) := by decide +kernel
theorem dX11_law_210 : decode cX11_law 210 = .ok (.aload_n 0, 1) := by decide +kernel
theorem dX11_law_211 : decode cX11_law 211 = .ok (.getfield 13, 3) := by decide +kernel
theorem dX11_law_214 : decode cX11_law 214 = .ok (.iconst 4, 1) := by decide +kernel
theorem dX11_law_215 : decode cX11_law 215 = .ok (.iaload, 1) := by decide +kernel
theorem dX11_law_216 : decode cX11_law 216 = .ok (.iconst 1, 1) := by decide +kernel
theorem dX11_law_217 : decode cX11_law 217 = .ok (.isub, 1) := by decide +kernel
theorem dX11_law_218 : decode cX11_law 218 = .ok (.invokevirtual 158, 3) := by decide +kernel
theorem dX11_law_221 : decode cX11_law 221 = .ok (.ireturn, 1) := by decide +kernel
theorem dX11_isLaw_0 : decode cX11_isLaw 0 = .ok (.iload_n 1, 1) := by decide +kernel
theorem dX11_isLaw_1 : decode cX11_isLaw 1 = .ok (.iconst (-1), 1) := by decide +kernel
theorem dX11_isLaw_2 : decode cX11_isLaw 2 = .ok (.if_icmp .eq 21, 3) := by decide +kernel
theorem dX11_isLaw_5 : decode cX11_isLaw 5 = .ok (.iload_n 1, 1) := by decide +kernel
theorem dX11_isLaw_6 : decode cX11_isLaw 6 = .ok (.i2l, 1) := by decide +kernel
theorem dX11_isLaw_7 : decode cX11_isLaw 7 = .ok (.lconst 0, 1) := by decide +kernel
theorem dX11_isLaw_8 : decode cX11_isLaw 8 = .ok (.aload_n 0, 1) := by decide +kernel
theorem dX11_isLaw_9 : decode cX11_isLaw 9 = .ok (.getfield 13, 3) := by decide +kernel
theorem dX11_isLaw_12 : decode cX11_isLaw 12 = .ok (.iconst 4, 1) := by decide +kernel
theorem dX11_isLaw_13 : decode cX11_isLaw 13 = .ok (.iaload, 1) := by decide +kernel
theorem dX11_isLaw_14 : decode cX11_isLaw 14 = .ok (.i2l, 1) := by decide +kernel
theorem dX11_isLaw_15 : decode cX11_isLaw 15 = .ok (.lconst 1, 1) := by decide +kernel
theorem dX11_isLaw_16 : decode cX11_isLaw 16 = .ok (.lsub, 1) := by decide +kernel
theorem dX11_isLaw_17 : decode cX11_isLaw 17 = .ok (.invokestatic 169, 3) := by decide +kernel
theorem dX11_isLaw_20 : decode cX11_isLaw 20 = .ok (.ifCond .eq 7, 3) := by decide +kernel
theorem dX11_isLaw_23 : decode cX11_isLaw 23 = .ok (.iconst 1, 1) := by decide +kernel
theorem dX11_isLaw_24 : decode cX11_isLaw 24 = .ok (.goto 4, 3) := by decide +kernel
theorem dX11_isLaw_27 : decode cX11_isLaw 27 = .ok (.iconst 0, 1) := by decide +kernel
theorem dX11_isLaw_28 : decode cX11_isLaw 28 = .ok (.ireturn, 1) := by decide +kernel
theorem dX11_force_0 : decode cX11_force 0 = .ok (.aload_n 0, 1) := by decide +kernel
theorem dX11_force_1 : decode cX11_force 1 = .ok (.iconst 0, 1) := by decide +kernel
theorem dX11_force_2 : decode cX11_force 2 = .ok (.putfield 149, 3) := by decide +kernel
theorem dX11_force_5 : decode cX11_force 5 = .ok (.aload_n 0, 1) := by decide +kernel
theorem dX11_force_6 : decode cX11_force 6 = .ok (.iload_n 1, 1) := by decide +kernel
theorem dX11_force_7 : decode cX11_force 7 = .ok (.invokevirtual 392, 3) := by decide +kernel
theorem dX11_force_10 : decode cX11_force 10 = .ok (.ifCond .eq 12, 3) := by decide +kernel
theorem dX11_force_13 : decode cX11_force 13 = .ok (.aload_n 0, 1) := by decide +kernel
theorem dX11_force_14 : decode cX11_force 14 = .ok (.iconst 5, 1) := by decide +kernel
theorem dX11_force_15 : decode cX11_force 15 = .ok (.iload_n 1, 1) := by decide +kernel
theorem dX11_force_16 : decode cX11_force 16 = .ok (.invokevirtual 226, 3) := by decide +kernel
theorem dX11_force_19 : decode cX11_force 19 = .ok (.goto 9, 3) := by decide +kernel
theorem dX11_force_22 : decode cX11_force 22 = .ok (.aload_n 0, 1) := by decide +kernel
theorem dX11_force_23 : decode cX11_force 23 = .ok (.bipush (-2), 2) := by decide +kernel
theorem dX11_force_25 : decode cX11_force 25 = .ok (.invokevirtual 158, 3) := by decide +kernel
theorem dX11_force_28 : decode cX11_force 28 = .ok (.ireturn, 1) := by decide +kernel
theorem dX11_reckon_0 : decode cX11_reckon 0 = .ok (.iload_n 1, 1) := by decide +kernel
theorem dX11_reckon_1 : decode cX11_reckon 1 = .ok (.tableswitch 148 20 26 #[43, 48, 53, 58, 90, 122, 135], 43) := by decide +kernel
theorem dX11_reckon_44 : decode cX11_reckon 44 = .ok (.lload_n 2, 1) := by decide +kernel
theorem dX11_reckon_45 : decode cX11_reckon 45 = .ok (.lload 4, 2) := by decide +kernel
theorem dX11_reckon_47 : decode cX11_reckon 47 = .ok (.ladd, 1) := by decide +kernel
theorem dX11_reckon_48 : decode cX11_reckon 48 = .ok (.lreturn, 1) := by decide +kernel
theorem dX11_reckon_49 : decode cX11_reckon 49 = .ok (.lload_n 2, 1) := by decide +kernel
theorem dX11_reckon_50 : decode cX11_reckon 50 = .ok (.lload 4, 2) := by decide +kernel
theorem dX11_reckon_52 : decode cX11_reckon 52 = .ok (.lsub, 1) := by decide +kernel
theorem dX11_reckon_53 : decode cX11_reckon 53 = .ok (.lreturn, 1) := by decide +kernel
theorem dX11_reckon_54 : decode cX11_reckon 54 = .ok (.lload_n 2, 1) := by decide +kernel
theorem dX11_reckon_55 : decode cX11_reckon 55 = .ok (.lload 4, 2) := by decide +kernel
theorem dX11_reckon_57 : decode cX11_reckon 57 = .ok (.lmul, 1) := by decide +kernel
theorem dX11_reckon_58 : decode cX11_reckon 58 = .ok (.lreturn, 1) := by decide +kernel
theorem dX11_reckon_59 : decode cX11_reckon 59 = .ok (.aload_n 0, 1) := by decide +kernel
theorem dX11_reckon_60 : decode cX11_reckon 60 = .ok (.lload 4, 2) := by decide +kernel
theorem dX11_reckon_62 : decode cX11_reckon 62 = .ok (.lconst 0, 1) := by decide +kernel
theorem dX11_reckon_63 : decode cX11_reckon 63 = .ok (.lcmp, 1) := by decide +kernel
theorem dX11_reckon_64 : decode cX11_reckon 64 = .ok (.ifCond .ne 7, 3) := by decide +kernel
theorem dX11_reckon_67 : decode cX11_reckon 67 = .ok (.iconst 1, 1) := by decide +kernel
theorem dX11_reckon_68 : decode cX11_reckon 68 = .ok (.goto 4, 3) := by decide +kernel
theorem dX11_reckon_71 : decode cX11_reckon 71 = .ok (.iconst 0, 1) := by decide +kernel
theorem dX11_reckon_72 : decode cX11_reckon 72 = .ok (.putfield 395, 3) := by decide +kernel
theorem dX11_reckon_75 : decode cX11_reckon 75 = .ok (.aload_n 0, 1) := by decide +kernel
theorem dX11_reckon_76 : decode cX11_reckon 76 = .ok (.getfield 395, 3) := by decide +kernel
theorem dX11_reckon_79 : decode cX11_reckon 79 = .ok (.ifCond .eq 7, 3) := by decide +kernel
theorem dX11_reckon_82 : decode cX11_reckon 82 = .ok (.lconst 0, 1) := by decide +kernel
