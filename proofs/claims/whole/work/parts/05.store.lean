theorem d_GasStore_addUser_0 : decode b_GasStore_addUser 0 = .ok (.aload_n 0, 1) := by decide +kernel
theorem d_GasStore_addUser_1 : decode b_GasStore_addUser 1 = .ok (.getfield 25, 3) := by decide +kernel
theorem d_GasStore_addUser_4 : decode b_GasStore_addUser 4 = .ok (.iconst 4, 1) := by decide +kernel
theorem d_GasStore_addUser_5 : decode b_GasStore_addUser 5 = .ok (.if_icmp .lt 5, 3) := by decide +kernel
theorem d_GasStore_addUser_8 : decode b_GasStore_addUser 8 = .ok (.iconst (-1), 1) := by decide +kernel
theorem d_GasStore_addUser_9 : decode b_GasStore_addUser 9 = .ok (.ireturn, 1) := by decide +kernel
theorem d_GasStore_addUser_10 : decode b_GasStore_addUser 10 = .ok (.aload_n 0, 1) := by decide +kernel
theorem d_GasStore_addUser_11 : decode b_GasStore_addUser 11 = .ok (.getfield 25, 3) := by decide +kernel
theorem d_GasStore_addUser_14 : decode b_GasStore_addUser 14 = .ok (.istore_n 3, 1) := by decide +kernel
theorem d_GasStore_addUser_15 : decode b_GasStore_addUser 15 = .ok (.aload_n 0, 1) := by decide +kernel
theorem d_GasStore_addUser_16 : decode b_GasStore_addUser 16 = .ok (.getfield 9, 3) := by decide +kernel
theorem d_GasStore_addUser_19 : decode b_GasStore_addUser 19 = .ok (.iload_n 3, 1) := by decide +kernel
theorem d_GasStore_addUser_20 : decode b_GasStore_addUser 20 = .ok (.iload_n 1, 1) := by decide +kernel
theorem d_GasStore_addUser_21 : decode b_GasStore_addUser 21 = .ok (.iastore, 1) := by decide +kernel
theorem d_GasStore_addUser_22 : decode b_GasStore_addUser 22 = .ok (.aload_n 0, 1) := by decide +kernel
theorem d_GasStore_addUser_23 : decode b_GasStore_addUser 23 = .ok (.getfield 15, 3) := by decide +kernel
theorem d_GasStore_addUser_26 : decode b_GasStore_addUser 26 = .ok (.iload_n 3, 1) := by decide +kernel
theorem d_GasStore_addUser_27 : decode b_GasStore_addUser 27 = .ok (.iload_n 2, 1) := by decide +kernel
theorem d_GasStore_addUser_28 : decode b_GasStore_addUser 28 = .ok (.iastore, 1) := by decide +kernel
theorem d_GasStore_addUser_29 : decode b_GasStore_addUser 29 = .ok (.iload_n 3, 1) := by decide +kernel
theorem d_GasStore_addUser_30 : decode b_GasStore_addUser 30 = .ok (.istore 4, 2) := by decide +kernel
theorem d_GasStore_addUser_32 : decode b_GasStore_addUser 32 = .ok (.iload 4, 2) := by decide +kernel
theorem d_GasStore_addUser_34 : decode b_GasStore_addUser 34 = .ok (.ifCond .le 43, 3) := by decide +kernel
theorem d_GasStore_addUser_37 : decode b_GasStore_addUser 37 = .ok (.aload_n 0, 1) := by decide +kernel
theorem d_GasStore_addUser_38 : decode b_GasStore_addUser 38 = .ok (.getfield 9, 3) := by decide +kernel
theorem d_GasStore_addUser_41 : decode b_GasStore_addUser 41 = .ok (.aload_n 0, 1) := by decide +kernel
theorem d_GasStore_addUser_42 : decode b_GasStore_addUser 42 = .ok (.getfield 22, 3) := by decide +kernel
theorem d_GasStore_addUser_45 : decode b_GasStore_addUser 45 = .ok (.iload 4, 2) := by decide +kernel
theorem d_GasStore_addUser_47 : decode b_GasStore_addUser 47 = .ok (.iconst 1, 1) := by decide +kernel
theorem d_GasStore_addUser_48 : decode b_GasStore_addUser 48 = .ok (.isub, 1) := by decide +kernel
theorem d_GasStore_addUser_49 : decode b_GasStore_addUser 49 = .ok (.iaload, 1) := by decide +kernel
theorem d_GasStore_addUser_50 : decode b_GasStore_addUser 50 = .ok (.iaload, 1) := by decide +kernel
theorem d_GasStore_addUser_51 : decode b_GasStore_addUser 51 = .ok (.iload_n 1, 1) := by decide +kernel
theorem d_GasStore_addUser_52 : decode b_GasStore_addUser 52 = .ok (.if_icmp .le 25, 3) := by decide +kernel
theorem d_GasStore_addUser_55 : decode b_GasStore_addUser 55 = .ok (.aload_n 0, 1) := by decide +kernel
theorem d_GasStore_addUser_56 : decode b_GasStore_addUser 56 = .ok (.getfield 22, 3) := by decide +kernel
theorem d_GasStore_addUser_59 : decode b_GasStore_addUser 59 = .ok (.iload 4, 2) := by decide +kernel
theorem d_GasStore_addUser_61 : decode b_GasStore_addUser 61 = .ok (.aload_n 0, 1) := by decide +kernel
theorem d_GasStore_addUser_62 : decode b_GasStore_addUser 62 = .ok (.getfield 22, 3) := by decide +kernel
theorem d_GasStore_addUser_65 : decode b_GasStore_addUser 65 = .ok (.iload 4, 2) := by decide +kernel
theorem d_GasStore_addUser_67 : decode b_GasStore_addUser 67 = .ok (.iconst 1, 1) := by decide +kernel
theorem d_GasStore_addUser_68 : decode b_GasStore_addUser 68 = .ok (.isub, 1) := by decide +kernel
theorem d_GasStore_addUser_69 : decode b_GasStore_addUser 69 = .ok (.iaload, 1) := by decide +kernel
theorem d_GasStore_addUser_70 : decode b_GasStore_addUser 70 = .ok (.iastore, 1) := by decide +kernel
theorem d_GasStore_addUser_71 : decode b_GasStore_addUser 71 = .ok (.iinc 4 (-1), 3) := by decide +kernel
theorem d_GasStore_addUser_74 : decode b_GasStore_addUser 74 = .ok (.goto (-42), 3) := by decide +kernel
theorem d_GasStore_addUser_77 : decode b_GasStore_addUser 77 = .ok (.aload_n 0, 1) := by decide +kernel
theorem d_GasStore_addUser_78 : decode b_GasStore_addUser 78 = .ok (.getfield 22, 3) := by decide +kernel
theorem d_GasStore_addUser_81 : decode b_GasStore_addUser 81 = .ok (.iload 4, 2) := by decide +kernel
theorem d_GasStore_addUser_83 : decode b_GasStore_addUser 83 = .ok (.iload_n 3, 1) := by decide +kernel
theorem d_GasStore_addUser_84 : decode b_GasStore_addUser 84 = .ok (.iastore, 1) := by decide +kernel
theorem d_GasStore_addUser_85 : decode b_GasStore_addUser 85 = .ok (.aload_n 0, 1) := by decide +kernel
theorem d_GasStore_addUser_86 : decode b_GasStore_addUser 86 = .ok (.dup, 1) := by decide +kernel
theorem d_GasStore_addUser_87 : decode b_GasStore_addUser 87 = .ok (.getfield 25, 3) := by decide +kernel
theorem d_GasStore_addUser_90 : decode b_GasStore_addUser 90 = .ok (.iconst 1, 1) := by decide +kernel
theorem d_GasStore_addUser_91 : decode b_GasStore_addUser 91 = .ok (.iadd, 1) := by decide +kernel
theorem d_GasStore_addUser_92 : decode b_GasStore_addUser 92 = .ok (.putfield 25, 3) := by decide +kernel
theorem d_GasStore_addUser_95 : decode b_GasStore_addUser 95 = .ok (.iload_n 3, 1) := by decide +kernel
theorem d_GasStore_addUser_96 : decode b_GasStore_addUser 96 = .ok (.ireturn, 1) := by decide +kernel
theorem d_GasStore_giveTo_0 : decode b_GasStore_giveTo 0 = .ok (.aload_n 0, 1) := by decide +kernel
theorem d_GasStore_giveTo_1 : decode b_GasStore_giveTo 1 = .ok (.getfield 15, 3) := by decide +kernel
theorem d_GasStore_giveTo_4 : decode b_GasStore_giveTo 4 = .ok (.iload_n 1, 1) := by decide +kernel
theorem d_GasStore_giveTo_5 : decode b_GasStore_giveTo 5 = .ok (.iaload, 1) := by decide +kernel
theorem d_GasStore_giveTo_6 : decode b_GasStore_giveTo 6 = .ok (.i2l, 1) := by decide +kernel
theorem d_GasStore_giveTo_7 : decode b_GasStore_giveTo 7 = .ok (.aload_n 0, 1) := by decide +kernel
theorem d_GasStore_giveTo_8 : decode b_GasStore_giveTo 8 = .ok (.getfield 29, 3) := by decide +kernel
theorem d_GasStore_giveTo_11 : decode b_GasStore_giveTo 11 = .ok (.invokestatic 49, 3) := by decide +kernel
theorem d_GasStore_giveTo_14 : decode b_GasStore_giveTo 14 = .ok (.lstore_n 2, 1) := by decide +kernel
theorem d_GasStore_giveTo_15 : decode b_GasStore_giveTo 15 = .ok (.aload_n 0, 1) := by decide +kernel
theorem d_GasStore_giveTo_16 : decode b_GasStore_giveTo 16 = .ok (.dup, 1) := by decide +kernel
theorem d_GasStore_giveTo_17 : decode b_GasStore_giveTo 17 = .ok (.getfield 29, 3) := by decide +kernel
theorem d_GasStore_giveTo_20 : decode b_GasStore_giveTo 20 = .ok (.lload_n 2, 1) := by decide +kernel
theorem d_GasStore_giveTo_21 : decode b_GasStore_giveTo 21 = .ok (.lsub, 1) := by decide +kernel
theorem d_GasStore_giveTo_22 : decode b_GasStore_giveTo 22 = .ok (.putfield 29, 3) := by decide +kernel
theorem d_GasStore_giveTo_25 : decode b_GasStore_giveTo 25 = .ok (.aload_n 0, 1) := by decide +kernel
theorem d_GasStore_giveTo_26 : decode b_GasStore_giveTo 26 = .ok (.getfield 18, 3) := by decide +kernel
theorem d_GasStore_giveTo_29 : decode b_GasStore_giveTo 29 = .ok (.iload_n 1, 1) := by decide +kernel
theorem d_GasStore_giveTo_30 : decode b_GasStore_giveTo 30 = .ok (.dup2, 1) := by decide +kernel
theorem d_GasStore_giveTo_31 : decode b_GasStore_giveTo 31 = .ok (.laload, 1) := by decide +kernel
theorem d_GasStore_giveTo_32 : decode b_GasStore_giveTo 32 = .ok (.lload_n 2, 1) := by decide +kernel
theorem d_GasStore_giveTo_33 : decode b_GasStore_giveTo 33 = .ok (.ladd, 1) := by decide +kernel
theorem d_GasStore_giveTo_34 : decode b_GasStore_giveTo 34 = .ok (.lastore, 1) := by decide +kernel
theorem d_GasStore_giveTo_35 : decode b_GasStore_giveTo 35 = .ok (.aload_n 0, 1) := by decide +kernel
theorem d_GasStore_giveTo_36 : decode b_GasStore_giveTo 36 = .ok (.dup, 1) := by decide +kernel
theorem d_GasStore_giveTo_37 : decode b_GasStore_giveTo 37 = .ok (.getfield 52, 3) := by decide +kernel
theorem d_GasStore_giveTo_40 : decode b_GasStore_giveTo 40 = .ok (.lload_n 2, 1) := by decide +kernel
theorem d_GasStore_giveTo_41 : decode b_GasStore_giveTo 41 = .ok (.ladd, 1) := by decide +kernel
theorem d_GasStore_giveTo_42 : decode b_GasStore_giveTo 42 = .ok (.putfield 52, 3) := by decide +kernel
theorem d_GasStore_giveTo_45 : decode b_GasStore_giveTo 45 = .ok (.return_, 1) := by decide +kernel
theorem d_GasStore_passGas_0 : decode b_GasStore_passGas 0 = .ok (.aload_n 0, 1) := by decide +kernel
theorem d_GasStore_passGas_1 : decode b_GasStore_passGas 1 = .ok (.dup, 1) := by decide +kernel
theorem d_GasStore_passGas_2 : decode b_GasStore_passGas 2 = .ok (.getfield 29, 3) := by decide +kernel
theorem d_GasStore_passGas_5 : decode b_GasStore_passGas 5 = .ok (.lload_n 1, 1) := by decide +kernel
theorem d_GasStore_passGas_6 : decode b_GasStore_passGas 6 = .ok (.ladd, 1) := by decide +kernel
theorem d_GasStore_passGas_7 : decode b_GasStore_passGas 7 = .ok (.putfield 29, 3) := by decide +kernel
theorem d_GasStore_passGas_10 : decode b_GasStore_passGas 10 = .ok (.iconst 0, 1) := by decide +kernel
theorem d_GasStore_passGas_11 : decode b_GasStore_passGas 11 = .ok (.istore_n 3, 1) := by decide +kernel
theorem d_GasStore_passGas_12 : decode b_GasStore_passGas 12 = .ok (.iload_n 3, 1) := by decide +kernel
theorem d_GasStore_passGas_13 : decode b_GasStore_passGas 13 = .ok (.aload_n 0, 1) := by decide +kernel
theorem d_GasStore_passGas_14 : decode b_GasStore_passGas 14 = .ok (.getfield 25, 3) := by decide +kernel
theorem d_GasStore_passGas_17 : decode b_GasStore_passGas 17 = .ok (.if_icmp .ge 19, 3) := by decide +kernel
theorem d_GasStore_passGas_20 : decode b_GasStore_passGas 20 = .ok (.aload_n 0, 1) := by decide +kernel
theorem d_GasStore_passGas_21 : decode b_GasStore_passGas 21 = .ok (.aload_n 0, 1) := by decide +kernel
theorem d_GasStore_passGas_22 : decode b_GasStore_passGas 22 = .ok (.getfield 22, 3) := by decide +kernel
theorem d_GasStore_passGas_25 : decode b_GasStore_passGas 25 = .ok (.iload_n 3, 1) := by decide +kernel
theorem d_GasStore_passGas_26 : decode b_GasStore_passGas 26 = .ok (.iaload, 1) := by decide +kernel
theorem d_GasStore_passGas_27 : decode b_GasStore_passGas 27 = .ok (.invokevirtual 33, 3) := by decide +kernel
theorem d_GasStore_passGas_30 : decode b_GasStore_passGas 30 = .ok (.iinc 3 1, 3) := by decide +kernel
theorem d_GasStore_passGas_33 : decode b_GasStore_passGas 33 = .ok (.goto (-21), 3) := by decide +kernel
theorem d_GasStore_passGas_36 : decode b_GasStore_passGas 36 = .ok (.lconst 0, 1) := by decide +kernel
theorem d_GasStore_passGas_37 : decode b_GasStore_passGas 37 = .ok (.aload_n 0, 1) := by decide +kernel
theorem d_GasStore_passGas_38 : decode b_GasStore_passGas 38 = .ok (.getfield 29, 3) := by decide +kernel
theorem d_GasStore_passGas_41 : decode b_GasStore_passGas 41 = .ok (.aload_n 0, 1) := by decide +kernel
theorem d_GasStore_passGas_42 : decode b_GasStore_passGas 42 = .ok (.getfield 37, 3) := by decide +kernel
theorem d_GasStore_passGas_45 : decode b_GasStore_passGas 45 = .ok (.i2l, 1) := by decide +kernel
theorem d_GasStore_passGas_46 : decode b_GasStore_passGas 46 = .ok (.lsub, 1) := by decide +kernel
theorem d_GasStore_passGas_47 : decode b_GasStore_passGas 47 = .ok (.invokestatic 40, 3) := by decide +kernel
theorem d_GasStore_passGas_50 : decode b_GasStore_passGas 50 = .ok (.lstore_n 3, 1) := by decide +kernel
theorem d_GasStore_passGas_51 : decode b_GasStore_passGas 51 = .ok (.aload_n 0, 1) := by decide +kernel
theorem d_GasStore_passGas_52 : decode b_GasStore_passGas 52 = .ok (.dup, 1) := by decide +kernel
theorem d_GasStore_passGas_53 : decode b_GasStore_passGas 53 = .ok (.getfield 29, 3) := by decide +kernel
theorem d_GasStore_passGas_56 : decode b_GasStore_passGas 56 = .ok (.lload_n 3, 1) := by decide +kernel
theorem d_GasStore_passGas_57 : decode b_GasStore_passGas 57 = .ok (.lsub, 1) := by decide +kernel
theorem d_GasStore_passGas_58 : decode b_GasStore_passGas 58 = .ok (.putfield 29, 3) := by decide +kernel
theorem d_GasStore_passGas_61 : decode b_GasStore_passGas 61 = .ok (.aload_n 0, 1) := by decide +kernel
theorem d_GasStore_passGas_62 : decode b_GasStore_passGas 62 = .ok (.dup, 1) := by decide +kernel
theorem d_GasStore_passGas_63 : decode b_GasStore_passGas 63 = .ok (.getfield 46, 3) := by decide +kernel
theorem d_GasStore_passGas_66 : decode b_GasStore_passGas 66 = .ok (.lload_n 3, 1) := by decide +kernel
theorem d_GasStore_passGas_67 : decode b_GasStore_passGas 67 = .ok (.ladd, 1) := by decide +kernel
theorem d_GasStore_passGas_68 : decode b_GasStore_passGas 68 = .ok (.putfield 46, 3) := by decide +kernel
theorem d_GasStore_passGas_71 : decode b_GasStore_passGas 71 = .ok (.return_, 1) := by decide +kernel
theorem d_AcidPeaks_add_0 : decode b_AcidPeaks_add 0 = .ok (.aload_n 0, 1) := by decide +kernel
theorem d_AcidPeaks_add_1 : decode b_AcidPeaks_add 1 = .ok (.getfield 15, 3) := by decide +kernel
theorem d_AcidPeaks_add_4 : decode b_AcidPeaks_add 4 = .ok (.aload_n 0, 1) := by decide +kernel
theorem d_AcidPeaks_add_5 : decode b_AcidPeaks_add 5 = .ok (.getfield 11, 3) := by decide +kernel
theorem d_AcidPeaks_add_8 : decode b_AcidPeaks_add 8 = .ok (.arraylength, 1) := by decide +kernel
theorem d_AcidPeaks_add_9 : decode b_AcidPeaks_add 9 = .ok (.if_icmp .lt 4, 3) := by decide +kernel
theorem d_AcidPeaks_add_12 : decode b_AcidPeaks_add 12 = .ok (.return_, 1) := by decide +kernel
theorem d_AcidPeaks_add_13 : decode b_AcidPeaks_add 13 = .ok (.aload_n 0, 1) := by decide +kernel
theorem d_AcidPeaks_add_14 : decode b_AcidPeaks_add 14 = .ok (.getfield 11, 3) := by decide +kernel
theorem d_AcidPeaks_add_17 : decode b_AcidPeaks_add 17 = .ok (.aload_n 0, 1) := by decide +kernel
theorem d_AcidPeaks_add_18 : decode b_AcidPeaks_add 18 = .ok (.getfield 15, 3) := by decide +kernel
theorem d_AcidPeaks_add_21 : decode b_AcidPeaks_add 21 = .ok (.aload_n 0, 1) := by decide +kernel
theorem d_AcidPeaks_add_22 : decode b_AcidPeaks_add 22 = .ok (.getfield 15, 3) := by decide +kernel
theorem d_AcidPeaks_add_25 : decode b_AcidPeaks_add 25 = .ok (.ifCond .ne 7, 3) := by decide +kernel
theorem d_AcidPeaks_add_28 : decode b_AcidPeaks_add 28 = .ok (.lload_n 1, 1) := by decide +kernel
theorem d_AcidPeaks_add_29 : decode b_AcidPeaks_add 29 = .ok (.goto 18, 3) := by decide +kernel
theorem d_AcidPeaks_add_32 : decode b_AcidPeaks_add 32 = .ok (.lload_n 1, 1) := by decide +kernel
theorem d_AcidPeaks_add_33 : decode b_AcidPeaks_add 33 = .ok (.aload_n 0, 1) := by decide +kernel
theorem d_AcidPeaks_add_34 : decode b_AcidPeaks_add 34 = .ok (.getfield 11, 3) := by decide +kernel
theorem d_AcidPeaks_add_37 : decode b_AcidPeaks_add 37 = .ok (.aload_n 0, 1) := by decide +kernel
theorem d_AcidPeaks_add_38 : decode b_AcidPeaks_add 38 = .ok (.getfield 15, 3) := by decide +kernel
theorem d_AcidPeaks_add_41 : decode b_AcidPeaks_add 41 = .ok (.iconst 1, 1) := by decide +kernel
theorem d_AcidPeaks_add_42 : decode b_AcidPeaks_add 42 = .ok (.isub, 1) := by decide +kernel
theorem d_AcidPeaks_add_43 : decode b_AcidPeaks_add 43 = .ok (.laload, 1) := by decide +kernel
theorem d_AcidPeaks_add_44 : decode b_AcidPeaks_add 44 = .ok (.invokestatic 34, 3) := by decide +kernel
theorem d_AcidPeaks_add_47 : decode b_AcidPeaks_add 47 = .ok (.lastore, 1) := by decide +kernel
theorem d_AcidPeaks_add_48 : decode b_AcidPeaks_add 48 = .ok (.aload_n 0, 1) := by decide +kernel
theorem d_AcidPeaks_add_49 : decode b_AcidPeaks_add 49 = .ok (.dup, 1) := by decide +kernel
theorem d_AcidPeaks_add_50 : decode b_AcidPeaks_add 50 = .ok (.getfield 15, 3) := by decide +kernel
theorem d_AcidPeaks_add_53 : decode b_AcidPeaks_add 53 = .ok (.iconst 1, 1) := by decide +kernel
theorem d_AcidPeaks_add_54 : decode b_AcidPeaks_add 54 = .ok (.iadd, 1) := by decide +kernel
theorem d_AcidPeaks_add_55 : decode b_AcidPeaks_add 55 = .ok (.putfield 15, 3) := by decide +kernel
theorem d_AcidPeaks_add_58 : decode b_AcidPeaks_add 58 = .ok (.return_, 1) := by decide +kernel
theorem d_AcidPeaks_firstAbove_0 : decode b_AcidPeaks_firstAbove 0 = .ok (.iconst 0, 1) := by decide +kernel
theorem d_AcidPeaks_firstAbove_1 : decode b_AcidPeaks_firstAbove 1 = .ok (.istore_n 3, 1) := by decide +kernel
theorem d_AcidPeaks_firstAbove_2 : decode b_AcidPeaks_firstAbove 2 = .ok (.sipush 8192, 3) := by decide +kernel
theorem d_AcidPeaks_firstAbove_5 : decode b_AcidPeaks_firstAbove 5 = .ok (.istore 4, 2) := by decide +kernel
theorem d_AcidPeaks_firstAbove_7 : decode b_AcidPeaks_firstAbove 7 = .ok (.iload 4, 2) := by decide +kernel
theorem d_AcidPeaks_firstAbove_9 : decode b_AcidPeaks_firstAbove 9 = .ok (.ifCond .le 44, 3) := by decide +kernel
theorem d_AcidPeaks_firstAbove_12 : decode b_AcidPeaks_firstAbove 12 = .ok (.iload_n 3, 1) := by decide +kernel
theorem d_AcidPeaks_firstAbove_13 : decode b_AcidPeaks_firstAbove 13 = .ok (.iload 4, 2) := by decide +kernel
theorem d_AcidPeaks_firstAbove_15 : decode b_AcidPeaks_firstAbove 15 = .ok (.iadd, 1) := by decide +kernel
theorem d_AcidPeaks_firstAbove_16 : decode b_AcidPeaks_firstAbove 16 = .ok (.istore 5, 2) := by decide +kernel
theorem d_AcidPeaks_firstAbove_18 : decode b_AcidPeaks_firstAbove 18 = .ok (.iload 5, 2) := by decide +kernel
theorem d_AcidPeaks_firstAbove_20 : decode b_AcidPeaks_firstAbove 20 = .ok (.aload_n 0, 1) := by decide +kernel
theorem d_AcidPeaks_firstAbove_21 : decode b_AcidPeaks_firstAbove 21 = .ok (.getfield 15, 3) := by decide +kernel
theorem d_AcidPeaks_firstAbove_24 : decode b_AcidPeaks_firstAbove 24 = .ok (.if_icmp .gt 20, 3) := by decide +kernel
theorem d_AcidPeaks_firstAbove_27 : decode b_AcidPeaks_firstAbove 27 = .ok (.aload_n 0, 1) := by decide +kernel
theorem d_AcidPeaks_firstAbove_28 : decode b_AcidPeaks_firstAbove 28 = .ok (.getfield 11, 3) := by decide +kernel
theorem d_AcidPeaks_firstAbove_31 : decode b_AcidPeaks_firstAbove 31 = .ok (.iload 5, 2) := by decide +kernel
theorem d_AcidPeaks_firstAbove_33 : decode b_AcidPeaks_firstAbove 33 = .ok (.iconst 1, 1) := by decide +kernel
theorem d_AcidPeaks_firstAbove_34 : decode b_AcidPeaks_firstAbove 34 = .ok (.isub, 1) := by decide +kernel
theorem d_AcidPeaks_firstAbove_35 : decode b_AcidPeaks_firstAbove 35 = .ok (.laload, 1) := by decide +kernel
theorem d_AcidPeaks_firstAbove_36 : decode b_AcidPeaks_firstAbove 36 = .ok (.lload_n 1, 1) := by decide +kernel
theorem d_AcidPeaks_firstAbove_37 : decode b_AcidPeaks_firstAbove 37 = .ok (.lcmp, 1) := by decide +kernel
theorem d_AcidPeaks_firstAbove_38 : decode b_AcidPeaks_firstAbove 38 = .ok (.ifCond .gt 6, 3) := by decide +kernel
theorem d_AcidPeaks_firstAbove_41 : decode b_AcidPeaks_firstAbove 41 = .ok (.iload 5, 2) := by decide +kernel
theorem d_AcidPeaks_firstAbove_43 : decode b_AcidPeaks_firstAbove 43 = .ok (.istore_n 3, 1) := by decide +kernel
theorem d_AcidPeaks_firstAbove_44 : decode b_AcidPeaks_firstAbove 44 = .ok (.iload 4, 2) := by decide +kernel
theorem d_AcidPeaks_firstAbove_46 : decode b_AcidPeaks_firstAbove 46 = .ok (.iconst 1, 1) := by decide +kernel
theorem d_AcidPeaks_firstAbove_47 : decode b_AcidPeaks_firstAbove 47 = .ok (.ishr, 1) := by decide +kernel
theorem d_AcidPeaks_firstAbove_48 : decode b_AcidPeaks_firstAbove 48 = .ok (.istore 4, 2) := by decide +kernel
theorem d_AcidPeaks_firstAbove_50 : decode b_AcidPeaks_firstAbove 50 = .ok (.goto (-43), 3) := by decide +kernel
theorem d_AcidPeaks_firstAbove_53 : decode b_AcidPeaks_firstAbove 53 = .ok (.iload_n 3, 1) := by decide +kernel
theorem d_AcidPeaks_firstAbove_54 : decode b_AcidPeaks_firstAbove 54 = .ok (.aload_n 0, 1) := by decide +kernel
theorem d_AcidPeaks_firstAbove_55 : decode b_AcidPeaks_firstAbove 55 = .ok (.getfield 15, 3) := by decide +kernel
theorem d_AcidPeaks_firstAbove_58 : decode b_AcidPeaks_firstAbove 58 = .ok (.if_icmp .ge 7, 3) := by decide +kernel
theorem d_AcidPeaks_firstAbove_61 : decode b_AcidPeaks_firstAbove 61 = .ok (.iload_n 3, 1) := by decide +kernel
theorem d_AcidPeaks_firstAbove_62 : decode b_AcidPeaks_firstAbove 62 = .ok (.goto 4, 3) := by decide +kernel
theorem d_AcidPeaks_firstAbove_65 : decode b_AcidPeaks_firstAbove 65 = .ok (.iconst (-1), 1) := by decide +kernel
theorem d_AcidPeaks_firstAbove_66 : decode b_AcidPeaks_firstAbove 66 = .ok (.ireturn, 1) := by decide +kernel
def f_GasStore_addUser_L32 (us : Int32) (rk : Nat → Int32) (nd : Nat → Int32) (p1 : Int32) (p2 : Int32) : Nat → Int32 → (Nat → Int32) → Int32 × Int32 × (Nat → Int32) × (Nat → Int32) × (Nat → Int32)
  | 0, _, _ => (0, 0, fun _ => 0, fun _ => 0, fun _ => 0)
  | n + 1, pq, od2 => if pq ≤ 0 then ((us, us + 1, upd rk (Int32.toNatClampNeg us) p1, upd nd (Int32.toNatClampNeg us) p2, upd od2 (Int32.toNatClampNeg pq) us)) else (if ((upd rk (Int32.toNatClampNeg us) p1) (Int32.toNatClampNeg (od2 (Int32.toNatClampNeg (pq - 1))))) ≤ p1 then ((us, us + 1, upd rk (Int32.toNatClampNeg us) p1, upd nd (Int32.toNatClampNeg us) p2, upd od2 (Int32.toNatClampNeg pq) us)) else (f_GasStore_addUser_L32 us rk nd p1 p2 n (pq + (-1)) (upd od2 (Int32.toNatClampNeg pq) (od2 (Int32.toNatClampNeg (pq - 1))))))
def f_GasStore_addUser (us : Int32) (rk : Nat → Int32) (nd : Nat → Int32) (od : Nat → Int32) (p1 : Int32) (p2 : Int32) : Int32 × Int32 × (Nat → Int32) × (Nat → Int32) × (Nat → Int32) := if us < 4 then (f_GasStore_addUser_L32 us rk nd p1 p2 5 us od) else (((-1), us, rk, nd, od))
abbrev rm_GasStore_addUser : Room := { frames := 0, cells := 0, slots := 0, locals := 0 }
set_option maxHeartbeats 4000000 in
set_option maxRecDepth 100000 in
theorem c_GasStore_addUser (l : Launch) (dC : Nat → ClassId) (dI : Nat → Nat → Nat) (cI cL cZ : ClassId) (aG bG1 bG2 bG3 bG4 : Nat) (sz : Nat) (us : Int32) (mo : Int32) (he : Int64) (gi : Int64) (fl : Int64) (rk : Nat → Int32) (nd : Nat → Int32) (od : Nat → Int32) (p1 : Int32) (p2 : Int32) (hus : vp_in us 5) (hod : ∀ i, i < 4 → vp_in (od i) 4) : Met l y_GasStore_addUser w_GasStore_addUser rm_GasStore_addUser (va_Pc [.ref aG, .int p1, .int p2] (c_pre dC dI cI cL cZ [(aG, .inr (4, [.ref bG1, .ref bG2, .ref bG3, .ref bG4, .int us, .int mo, .long he, .long gi, .long fl])), (bG1, .inl (cI, 4, .inl rk)), (bG2, .inl (cI, 4, .inl nd)), (bG4, .inl (cI, 4, .inl od))] sz)) (va_Qi (fun (r : Int32) (u : Int32 × (Nat → Int32) × (Nat → Int32) × (Nat → Int32)) => f_GasStore_addUser us rk nd od p1 p2 = (r, u)) (c_post dC dI (fun (u : Int32 × (Nat → Int32) × (Nat → Int32) × (Nat → Int32)) => [(aG, .inr (4, [.ref bG1, .ref bG2, .ref bG3, .ref bG4, .int u.1, .int mo, .long he, .long gi, .long fl])), (bG1, .inl (cI, 4, .inl u.2.1)), (bG2, .inl (cI, 4, .inl u.2.2.1)), (bG4, .inl (cI, 4, .inl u.2.2.2))]) (va_A [(aG, .inr (4, [.ref bG1, .ref bG2, .ref bG3, .ref bG4, .int us, .int mo, .long he, .long gi, .long fl])), (bG1, .inl (cI, 4, .inl rk)), (bG2, .inl (cI, 4, .inl nd)), (bG4, .inl (cI, 4, .inl od))] sz)) (va_A [(aG, .inr (4, [.ref bG1, .ref bG2, .ref bG3, .ref bG4, .int us, .int mo, .long he, .long gi, .long fl])), (bG1, .inl (cI, 4, .inl rk)), (bG2, .inl (cI, 4, .inl nd)), (bG4, .inl (cI, 4, .inl od))] sz)) 0 0 (va_A [(aG, .inr (4, [.ref bG1, .ref bG2, .ref bG3, .ref bG4, .int us, .int mo, .long he, .long gi, .long fl])), (bG1, .inl (cI, 4, .inl rk)), (bG2, .inl (cI, 4, .inl nd)), (bG4, .inl (cI, 4, .inl od))] sz) := by
  refine Met.ofW (cc := b_GasStore_addUser) (maxL := 5) (ret := (some .int)) (by decide) rfl ?_
  intro p e s m args below meth c s₁ B hml hv
  obtain ⟨rfl, hsz, hP, hK, hN, hD0⟩ := hv
  have hx := B.exec
  have hb := B.bytes
  have hr := B.returns
  have hts := atoms_spec (ws := w_GasStore_addUser) B.pre
  have hown : s.vm.findClass R_GasStore = some m.cls := findClass_of_methodNamed B.named
  have hlocks := B.notSynchronized
  have hwg : ∀ w ∈ wg, w.before ([.ref aG, .int p1, .int p2] : List Value).toArray s = true := fun w h => hts w (List.mem_cons_of_mem _ h)
  subst hsz
  have hD := hD0.self (sz := s.heap.size)
  generalize hAe : va_A [(aG, .inr (4, [.ref bG1, .ref bG2, .ref bG3, .ref bG4, .int us, .int mo, .long he, .long gi, .long fl])), (bG1, .inl (cI, 4, .inl rk)), (bG2, .inl (cI, 4, .inl nd)), (bG4, .inl (cI, 4, .inl od))] s.heap.size = A at hD ⊢
  have hA : ∀ q : Nat, s.heap.size ≤ q → A q := fun q h => by rw [← hAe]; exact Or.inr h
  have hS : va_S A s.heap s.heap [] := va_S.rf
  have hP : va_P (dC, dI) vwCl [(aG, .inr (4, [.ref bG1, .ref bG2, .ref bG3, .ref bG4, .int us, .int mo, .long he, .long gi, .long fl])), (bG1, .inl (cI, 4, .inl rk)), (bG2, .inl (cI, 4, .inl nd)), (bG4, .inl (cI, 4, .inl od))] s.heap := hP
  have hl := lv_entry ([.ref aG, .int p1, .int p2]) (n := 5) (Nat.le_of_ble_eq_true rfl)
  rw [lg_entry_eq]
  generalize (lg_sl ([.ref aG, .int p1, .int p2]) ++ List.replicate (5 - (lg_sl ([.ref aG, .int p1, .int p2])).length) Slot.unset).toArray = ls at hl ⊢
  have hl : lv_has ls 5 [(0, .ref aG), (1, .int p1), (2, .int p2)] := hl
  refine lv_aload_n hx hb d_GasStore_addUser_0 rfl (lv_at hl 0 rfl) ?_
  refine va_get (D := (dC, dI)) (ci := 4) (v := .int us) (C := R_GasStore) (T := F_GasStore) (N := 9) hx hb hwg iu_GasStore hown hK hP 0 rfl rfl 4 (by decide) (hwg _ kw_70) (fun _ h9 => h9) rfl d_GasStore_addUser_1 ?_
  refine lv_iconst (v := 4) hx hb d_GasStore_addUser_4 (by decide) ?_
  refine lv_icmp_lt (tgt := 10) hx hb d_GasStore_addUser_5 (by decide) (fun (c5 : us < 4) => ?_) (fun (c5 : ¬ (us < 4)) => ?_)
  · refine lv_aload_n hx hb d_GasStore_addUser_10 rfl (lv_at hl 0 rfl) ?_
    refine va_get (D := (dC, dI)) (ci := 4) (v := .int us) (C := R_GasStore) (T := F_GasStore) (N := 9) hx hb hwg iu_GasStore hown hK hP 0 rfl rfl 4 (by decide) (hwg _ kw_70) (fun _ h9 => h9) rfl d_GasStore_addUser_11 ?_
    refine lv_istore_n (lv' := [(3, .int us), (0, .ref aG), (1, .int p1), (2, .int p2)]) hx hb d_GasStore_addUser_14 rfl hl (by decide) rfl (fun ls hl => ?_)
    refine lv_aload_n hx hb d_GasStore_addUser_15 rfl (lv_at hl 1 rfl) ?_
    refine va_get (D := (dC, dI)) (ci := 4) (v := .ref bG1) (C := R_GasStore) (T := F_GasStore) (N := 9) hx hb hwg iu_GasStore hown hK hP 0 rfl rfl 0 (by decide) (hwg _ kw_66) (fun _ h9 => h9) rfl d_GasStore_addUser_16 ?_
    refine lv_iload_n hx hb d_GasStore_addUser_19 rfl (lv_at hl 0 rfl) ?_
    refine lv_iload_n hx hb d_GasStore_addUser_20 rfl (lv_at hl 2 rfl) ?_
    refine va_iast hx hb hK hP hD hS 1 0 rfl rfl (in_us hus c5) d_GasStore_addUser_21 (fun H21 locs hP hD hS => ?_)
    have hP : va_P (dC, dI) vwCl [(aG, .inr (4, [.ref bG1, .ref bG2, .ref bG3, .ref bG4, .int us, .int mo, .long he, .long gi, .long fl])), (bG1, .inl (cI, 4, .inl (upd rk (Int32.toNatClampNeg us) p1))), (bG2, .inl (cI, 4, .inl nd)), (bG4, .inl (cI, 4, .inl od))] H21 := hP
    have hD : va_D A [(aG, .inr (4, [.ref bG1, .ref bG2, .ref bG3, .ref bG4, .int us, .int mo, .long he, .long gi, .long fl])), (bG1, .inl (cI, 4, .inl (upd rk (Int32.toNatClampNeg us) p1))), (bG2, .inl (cI, 4, .inl nd)), (bG4, .inl (cI, 4, .inl od))] := hD
    refine lv_aload_n hx hb d_GasStore_addUser_22 rfl (lv_at hl 1 rfl) ?_
    refine va_get (D := (dC, dI)) (ci := 4) (v := .ref bG2) (C := R_GasStore) (T := F_GasStore) (N := 9) hx hb hwg iu_GasStore hown hK hP 0 rfl rfl 1 (by decide) (hwg _ kw_67) (fun _ h9 => h9) rfl d_GasStore_addUser_23 ?_
    refine lv_iload_n hx hb d_GasStore_addUser_26 rfl (lv_at hl 0 rfl) ?_
    refine lv_iload_n hx hb d_GasStore_addUser_27 rfl (lv_at hl 3 rfl) ?_
    refine va_iast hx hb hK hP hD hS 2 0 rfl rfl (in_us hus c5) d_GasStore_addUser_28 (fun H28 locs hP hD hS => ?_)
    have hP : va_P (dC, dI) vwCl [(aG, .inr (4, [.ref bG1, .ref bG2, .ref bG3, .ref bG4, .int us, .int mo, .long he, .long gi, .long fl])), (bG1, .inl (cI, 4, .inl (upd rk (Int32.toNatClampNeg us) p1))), (bG2, .inl (cI, 4, .inl (upd nd (Int32.toNatClampNeg us) p2))), (bG4, .inl (cI, 4, .inl od))] H28 := hP
    have hD : va_D A [(aG, .inr (4, [.ref bG1, .ref bG2, .ref bG3, .ref bG4, .int us, .int mo, .long he, .long gi, .long fl])), (bG1, .inl (cI, 4, .inl (upd rk (Int32.toNatClampNeg us) p1))), (bG2, .inl (cI, 4, .inl (upd nd (Int32.toNatClampNeg us) p2))), (bG4, .inl (cI, 4, .inl od))] := hD
    refine lv_iload_n hx hb d_GasStore_addUser_29 rfl (lv_at hl 0 rfl) ?_
    refine lv_istore (lv' := [(4, .int us), (3, .int us), (0, .ref aG), (1, .int p1), (2, .int p2)]) hx hb d_GasStore_addUser_30 hl (by decide) rfl (fun ls hl => ?_)
    have loop32 : ∀ (n32 : Nat) (pq : Int32) (od2 : Nat → Int32) (H32 : Heap) (locs : List Loc) (ls : Array Slot), pq.toNatClampNeg < n32 → (vp_in pq 4) → (∀ i, i < 4 → vp_in (od2 i) 4) → f_GasStore_addUser us rk nd od p1 p2 = f_GasStore_addUser_L32 us rk nd p1 p2 n32 pq od2 → va_P (dC, dI) vwCl [(aG, .inr (4, [.ref bG1, .ref bG2, .ref bG3, .ref bG4, .int us, .int mo, .long he, .long gi, .long fl])), (bG1, .inl (cI, 4, .inl (upd rk (Int32.toNatClampNeg us) p1))), (bG2, .inl (cI, 4, .inl (upd nd (Int32.toNatClampNeg us) p2))), (bG4, .inl (cI, 4, .inl od2))] H32 → va_D A [(aG, .inr (4, [.ref bG1, .ref bG2, .ref bG3, .ref bG4, .int us, .int mo, .long he, .long gi, .long fl])), (bG1, .inl (cI, 4, .inl (upd rk (Int32.toNatClampNeg us) p1))), (bG2, .inl (cI, 4, .inl (upd nd (Int32.toNatClampNeg us) p2))), (bG4, .inl (cI, 4, .inl od2))] → va_S A s.heap H32 locs → lv_has ls 5 [(0, .ref aG), (1, .int p1), (2, .int p2), (3, .int us), (4, .int pq)] → W p l e (headSpec w_GasStore_addUser rm_GasStore_addUser).room s m ([.ref aG, .int p1, .int p2] : List Value).toArray below meth c H32 locs 0 0 (MQ below (va_Qi (fun (r : Int32) (u : Int32 × (Nat → Int32) × (Nat → Int32) × (Nat → Int32)) => f_GasStore_addUser us rk nd od p1 p2 = (r, u)) (c_post dC dI (fun (u : Int32 × (Nat → Int32) × (Nat → Int32) × (Nat → Int32)) => [(aG, .inr (4, [.ref bG1, .ref bG2, .ref bG3, .ref bG4, .int u.1, .int mo, .long he, .long gi, .long fl])), (bG1, .inl (cI, 4, .inl u.2.1)), (bG2, .inl (cI, 4, .inl u.2.2.1)), (bG4, .inl (cI, 4, .inl u.2.2.2))]) A) A) ([.ref aG, .int p1, .int p2] : List Value).toArray s 0 0 A) (F0 m 32 ls []) := by
      intro n32
      induction n32 with
      | zero => intro pq od2 H32 locs ls hm; exact absurd hm (Nat.not_lt_zero _)
      | succ n32 ih32 =>
        intro pq od2 H32 locs ls hm32 hpl hdo hF32 hP hD hS hl
        refine lv_iload hx hb d_GasStore_addUser_32 (lv_at hl 4 rfl) ?_
        refine lv_if_le (tgt := 77) hx hb d_GasStore_addUser_34 (by decide) (fun (c34 : pq ≤ 0) => ?_) (fun (c34 : ¬ (pq ≤ 0)) => ?_)
        · refine lv_aload_n hx hb d_GasStore_addUser_77 rfl (lv_at hl 0 rfl) ?_
          refine va_get (D := (dC, dI)) (ci := 4) (v := .ref bG4) (C := R_GasStore) (T := F_GasStore) (N := 9) hx hb hwg iu_GasStore hown hK hP 0 rfl rfl 3 (by decide) (hwg _ kw_69) (fun _ h9 => h9) rfl d_GasStore_addUser_78 ?_
          refine lv_iload hx hb d_GasStore_addUser_81 (lv_at hl 4 rfl) ?_
          refine lv_iload_n hx hb d_GasStore_addUser_83 rfl (lv_at hl 3 rfl) ?_
          refine va_iast hx hb hK hP hD hS 3 0 rfl rfl hpl d_GasStore_addUser_84 (fun H84 locs hP hD hS => ?_)
          have hP : va_P (dC, dI) vwCl [(aG, .inr (4, [.ref bG1, .ref bG2, .ref bG3, .ref bG4, .int us, .int mo, .long he, .long gi, .long fl])), (bG1, .inl (cI, 4, .inl (upd rk (Int32.toNatClampNeg us) p1))), (bG2, .inl (cI, 4, .inl (upd nd (Int32.toNatClampNeg us) p2))), (bG4, .inl (cI, 4, .inl (upd od2 (Int32.toNatClampNeg pq) us)))] H84 := hP
          have hD : va_D A [(aG, .inr (4, [.ref bG1, .ref bG2, .ref bG3, .ref bG4, .int us, .int mo, .long he, .long gi, .long fl])), (bG1, .inl (cI, 4, .inl (upd rk (Int32.toNatClampNeg us) p1))), (bG2, .inl (cI, 4, .inl (upd nd (Int32.toNatClampNeg us) p2))), (bG4, .inl (cI, 4, .inl (upd od2 (Int32.toNatClampNeg pq) us)))] := hD
          refine lv_aload_n hx hb d_GasStore_addUser_85 rfl (lv_at hl 0 rfl) ?_
          refine lv_dup hx hb d_GasStore_addUser_86 rfl ?_
          refine va_get (D := (dC, dI)) (ci := 4) (v := .int us) (C := R_GasStore) (T := F_GasStore) (N := 9) hx hb hwg iu_GasStore hown hK hP 0 rfl rfl 4 (by decide) (hwg _ kw_70) (fun _ h9 => h9) rfl d_GasStore_addUser_87 ?_
          refine lv_iconst (v := 1) hx hb d_GasStore_addUser_90 (by decide) ?_
          refine lv_iadd hx hb d_GasStore_addUser_91 ?_
          refine va_put (D := (dC, dI)) (ci := 4) (v := .int (us + 1)) (ty := .int) (C := R_GasStore) (T := F_GasStore) (N := 9) hx hb hwg iu_GasStore t_GasStore t_GasStore_ok n_GasStore hown hK hP hD hS 0 rfl rfl 4 (by decide) (hwg _ kw_70) (fun _ h9 => h9) rfl (by decide +kernel) rfl rfl (Nat.le_of_ble_eq_true rfl) d_GasStore_addUser_92 (fun H92 locs hP hD hS => ?_)
          have hP : va_P (dC, dI) vwCl [(aG, .inr (4, [.ref bG1, .ref bG2, .ref bG3, .ref bG4, .int (us + 1), .int mo, .long he, .long gi, .long fl])), (bG1, .inl (cI, 4, .inl (upd rk (Int32.toNatClampNeg us) p1))), (bG2, .inl (cI, 4, .inl (upd nd (Int32.toNatClampNeg us) p2))), (bG4, .inl (cI, 4, .inl (upd od2 (Int32.toNatClampNeg pq) us)))] H92 := hP
          have hD : va_D A [(aG, .inr (4, [.ref bG1, .ref bG2, .ref bG3, .ref bG4, .int (us + 1), .int mo, .long he, .long gi, .long fl])), (bG1, .inl (cI, 4, .inl (upd rk (Int32.toNatClampNeg us) p1))), (bG2, .inl (cI, 4, .inl (upd nd (Int32.toNatClampNeg us) p2))), (bG4, .inl (cI, 4, .inl (upd od2 (Int32.toNatClampNeg pq) us)))] := hD
          refine lv_iload_n hx hb d_GasStore_addUser_95 rfl (lv_at hl 3 rfl) ?_
          have hP9 := hP.sub (ws' := [(aG, .inr (4, [.ref bG1, .ref bG2, .ref bG3, .ref bG4, .int (us + 1), .int mo, .long he, .long gi, .long fl])), (bG1, .inl (cI, 4, .inl (upd rk (Int32.toNatClampNeg us) p1))), (bG2, .inl (cI, 4, .inl (upd nd (Int32.toNatClampNeg us) p2))), (bG4, .inl (cI, 4, .inl (upd od2 (Int32.toNatClampNeg pq) us)))]) [0, 1, 2, 3] rfl
          have hD9 := hD.sub (ws' := [(aG, .inr (4, [.ref bG1, .ref bG2, .ref bG3, .ref bG4, .int (us + 1), .int mo, .long he, .long gi, .long fl])), (bG1, .inl (cI, 4, .inl (upd rk (Int32.toNatClampNeg us) p1))), (bG2, .inl (cI, 4, .inl (upd nd (Int32.toNatClampNeg us) p2))), (bG4, .inl (cI, 4, .inl (upd od2 (Int32.toNatClampNeg pq) us)))]) [0, 1, 2, 3] (by decide) rfl
          exact W.iret (v := us) hx hb hr (fun t ht hW => ⟨⟨us, (us + 1, upd rk (Int32.toNatClampNeg us) p1, upd nd (Int32.toNatClampNeg us) p2, upd od2 (Int32.toNatClampNeg pq) us), rfl, by rw [hF32]; simp only [f_GasStore_addUser_L32, if_pos c34], by rw [ht]; exact hP9, hD9⟩, hS.F ht⟩) hS.2.2 d_GasStore_addUser_96
        · refine lv_aload_n hx hb d_GasStore_addUser_37 rfl (lv_at hl 0 rfl) ?_
          refine va_get (D := (dC, dI)) (ci := 4) (v := .ref bG1) (C := R_GasStore) (T := F_GasStore) (N := 9) hx hb hwg iu_GasStore hown hK hP 0 rfl rfl 0 (by decide) (hwg _ kw_66) (fun _ h9 => h9) rfl d_GasStore_addUser_38 ?_
          refine lv_aload_n hx hb d_GasStore_addUser_41 rfl (lv_at hl 0 rfl) ?_
          refine va_get (D := (dC, dI)) (ci := 4) (v := .ref bG4) (C := R_GasStore) (T := F_GasStore) (N := 9) hx hb hwg iu_GasStore hown hK hP 0 rfl rfl 3 (by decide) (hwg _ kw_69) (fun _ h9 => h9) rfl d_GasStore_addUser_42 ?_
          refine lv_iload hx hb d_GasStore_addUser_45 (lv_at hl 4 rfl) ?_
          refine lv_iconst (v := 1) hx hb d_GasStore_addUser_47 (by decide) ?_
          refine lv_isub hx hb d_GasStore_addUser_48 ?_
          refine va_iald hx hb hK hP 3 0 rfl rfl (in_pred hpl c34) d_GasStore_addUser_49 ?_
          refine va_iald hx hb hK hP 1 0 rfl rfl (in_of hdo (in_pred hpl c34)) d_GasStore_addUser_50 ?_
          refine lv_iload_n hx hb d_GasStore_addUser_51 rfl (lv_at hl 1 rfl) ?_
          refine lv_icmp_le (tgt := 77) hx hb d_GasStore_addUser_52 (by decide) (fun (c52 : ((upd rk (Int32.toNatClampNeg us) p1) (Int32.toNatClampNeg (od2 (Int32.toNatClampNeg (pq - 1))))) ≤ p1) => ?_) (fun (c52 : ¬ (((upd rk (Int32.toNatClampNeg us) p1) (Int32.toNatClampNeg (od2 (Int32.toNatClampNeg (pq - 1))))) ≤ p1)) => ?_)
          · refine lv_aload_n hx hb d_GasStore_addUser_77 rfl (lv_at hl 0 rfl) ?_
            refine va_get (D := (dC, dI)) (ci := 4) (v := .ref bG4) (C := R_GasStore) (T := F_GasStore) (N := 9) hx hb hwg iu_GasStore hown hK hP 0 rfl rfl 3 (by decide) (hwg _ kw_69) (fun _ h9 => h9) rfl d_GasStore_addUser_78 ?_
            refine lv_iload hx hb d_GasStore_addUser_81 (lv_at hl 4 rfl) ?_
            refine lv_iload_n hx hb d_GasStore_addUser_83 rfl (lv_at hl 3 rfl) ?_
            refine va_iast hx hb hK hP hD hS 3 0 rfl rfl hpl d_GasStore_addUser_84 (fun H84 locs hP hD hS => ?_)
            have hP : va_P (dC, dI) vwCl [(aG, .inr (4, [.ref bG1, .ref bG2, .ref bG3, .ref bG4, .int us, .int mo, .long he, .long gi, .long fl])), (bG1, .inl (cI, 4, .inl (upd rk (Int32.toNatClampNeg us) p1))), (bG2, .inl (cI, 4, .inl (upd nd (Int32.toNatClampNeg us) p2))), (bG4, .inl (cI, 4, .inl (upd od2 (Int32.toNatClampNeg pq) us)))] H84 := hP
            have hD : va_D A [(aG, .inr (4, [.ref bG1, .ref bG2, .ref bG3, .ref bG4, .int us, .int mo, .long he, .long gi, .long fl])), (bG1, .inl (cI, 4, .inl (upd rk (Int32.toNatClampNeg us) p1))), (bG2, .inl (cI, 4, .inl (upd nd (Int32.toNatClampNeg us) p2))), (bG4, .inl (cI, 4, .inl (upd od2 (Int32.toNatClampNeg pq) us)))] := hD
            refine lv_aload_n hx hb d_GasStore_addUser_85 rfl (lv_at hl 0 rfl) ?_
            refine lv_dup hx hb d_GasStore_addUser_86 rfl ?_
            refine va_get (D := (dC, dI)) (ci := 4) (v := .int us) (C := R_GasStore) (T := F_GasStore) (N := 9) hx hb hwg iu_GasStore hown hK hP 0 rfl rfl 4 (by decide) (hwg _ kw_70) (fun _ h9 => h9) rfl d_GasStore_addUser_87 ?_
            refine lv_iconst (v := 1) hx hb d_GasStore_addUser_90 (by decide) ?_
            refine lv_iadd hx hb d_GasStore_addUser_91 ?_
            refine va_put (D := (dC, dI)) (ci := 4) (v := .int (us + 1)) (ty := .int) (C := R_GasStore) (T := F_GasStore) (N := 9) hx hb hwg iu_GasStore t_GasStore t_GasStore_ok n_GasStore hown hK hP hD hS 0 rfl rfl 4 (by decide) (hwg _ kw_70) (fun _ h9 => h9) rfl (by decide +kernel) rfl rfl (Nat.le_of_ble_eq_true rfl) d_GasStore_addUser_92 (fun H92 locs hP hD hS => ?_)
            have hP : va_P (dC, dI) vwCl [(aG, .inr (4, [.ref bG1, .ref bG2, .ref bG3, .ref bG4, .int (us + 1), .int mo, .long he, .long gi, .long fl])), (bG1, .inl (cI, 4, .inl (upd rk (Int32.toNatClampNeg us) p1))), (bG2, .inl (cI, 4, .inl (upd nd (Int32.toNatClampNeg us) p2))), (bG4, .inl (cI, 4, .inl (upd od2 (Int32.toNatClampNeg pq) us)))] H92 := hP
            have hD : va_D A [(aG, .inr (4, [.ref bG1, .ref bG2, .ref bG3, .ref bG4, .int (us + 1), .int mo, .long he, .long gi, .long fl])), (bG1, .inl (cI, 4, .inl (upd rk (Int32.toNatClampNeg us) p1))), (bG2, .inl (cI, 4, .inl (upd nd (Int32.toNatClampNeg us) p2))), (bG4, .inl (cI, 4, .inl (upd od2 (Int32.toNatClampNeg pq) us)))] := hD
            refine lv_iload_n hx hb d_GasStore_addUser_95 rfl (lv_at hl 3 rfl) ?_
            have hP9 := hP.sub (ws' := [(aG, .inr (4, [.ref bG1, .ref bG2, .ref bG3, .ref bG4, .int (us + 1), .int mo, .long he, .long gi, .long fl])), (bG1, .inl (cI, 4, .inl (upd rk (Int32.toNatClampNeg us) p1))), (bG2, .inl (cI, 4, .inl (upd nd (Int32.toNatClampNeg us) p2))), (bG4, .inl (cI, 4, .inl (upd od2 (Int32.toNatClampNeg pq) us)))]) [0, 1, 2, 3] rfl
            have hD9 := hD.sub (ws' := [(aG, .inr (4, [.ref bG1, .ref bG2, .ref bG3, .ref bG4, .int (us + 1), .int mo, .long he, .long gi, .long fl])), (bG1, .inl (cI, 4, .inl (upd rk (Int32.toNatClampNeg us) p1))), (bG2, .inl (cI, 4, .inl (upd nd (Int32.toNatClampNeg us) p2))), (bG4, .inl (cI, 4, .inl (upd od2 (Int32.toNatClampNeg pq) us)))]) [0, 1, 2, 3] (by decide) rfl
            exact W.iret (v := us) hx hb hr (fun t ht hW => ⟨⟨us, (us + 1, upd rk (Int32.toNatClampNeg us) p1, upd nd (Int32.toNatClampNeg us) p2, upd od2 (Int32.toNatClampNeg pq) us), rfl, by rw [hF32]; simp only [f_GasStore_addUser_L32, if_neg c34, if_pos c52], by rw [ht]; exact hP9, hD9⟩, hS.F ht⟩) hS.2.2 d_GasStore_addUser_96
          · refine lv_aload_n hx hb d_GasStore_addUser_55 rfl (lv_at hl 0 rfl) ?_
            refine va_get (D := (dC, dI)) (ci := 4) (v := .ref bG4) (C := R_GasStore) (T := F_GasStore) (N := 9) hx hb hwg iu_GasStore hown hK hP 0 rfl rfl 3 (by decide) (hwg _ kw_69) (fun _ h9 => h9) rfl d_GasStore_addUser_56 ?_
            refine lv_iload hx hb d_GasStore_addUser_59 (lv_at hl 4 rfl) ?_
            refine lv_aload_n hx hb d_GasStore_addUser_61 rfl (lv_at hl 0 rfl) ?_
            refine va_get (D := (dC, dI)) (ci := 4) (v := .ref bG4) (C := R_GasStore) (T := F_GasStore) (N := 9) hx hb hwg iu_GasStore hown hK hP 0 rfl rfl 3 (by decide) (hwg _ kw_69) (fun _ h9 => h9) rfl d_GasStore_addUser_62 ?_
            refine lv_iload hx hb d_GasStore_addUser_65 (lv_at hl 4 rfl) ?_
            refine lv_iconst (v := 1) hx hb d_GasStore_addUser_67 (by decide) ?_
            refine lv_isub hx hb d_GasStore_addUser_68 ?_
            refine va_iald hx hb hK hP 3 0 rfl rfl (in_pred hpl c34) d_GasStore_addUser_69 ?_
            refine va_iast hx hb hK hP hD hS 3 0 rfl rfl hpl d_GasStore_addUser_70 (fun H70 locs hP hD hS => ?_)
            have hP : va_P (dC, dI) vwCl [(aG, .inr (4, [.ref bG1, .ref bG2, .ref bG3, .ref bG4, .int us, .int mo, .long he, .long gi, .long fl])), (bG1, .inl (cI, 4, .inl (upd rk (Int32.toNatClampNeg us) p1))), (bG2, .inl (cI, 4, .inl (upd nd (Int32.toNatClampNeg us) p2))), (bG4, .inl (cI, 4, .inl (upd od2 (Int32.toNatClampNeg pq) (od2 (Int32.toNatClampNeg (pq - 1))))))] H70 := hP
            have hD : va_D A [(aG, .inr (4, [.ref bG1, .ref bG2, .ref bG3, .ref bG4, .int us, .int mo, .long he, .long gi, .long fl])), (bG1, .inl (cI, 4, .inl (upd rk (Int32.toNatClampNeg us) p1))), (bG2, .inl (cI, 4, .inl (upd nd (Int32.toNatClampNeg us) p2))), (bG4, .inl (cI, 4, .inl (upd od2 (Int32.toNatClampNeg pq) (od2 (Int32.toNatClampNeg (pq - 1))))))] := hD
            refine lv_iinc (v := pq + (-1)) (lv' := [(4, .int (pq + (-1))), (0, .ref aG), (1, .int p1), (2, .int p2), (3, .int us)]) hx hb d_GasStore_addUser_71 hl (k := 4) rfl rfl (by decide) rfl (fun ls hl => ?_)
            refine lv_goto (tgt := 32) hx hb d_GasStore_addUser_74 (by decide) ?_
            exact ih32 (pq + (-1)) (upd od2 (Int32.toNatClampNeg pq) (od2 (Int32.toNatClampNeg (pq - 1)))) _ _ _ (pred_lt hpl c34 hm32) (in_predn hpl c34) (in_upd hdo (in_of hdo (in_pred hpl c34))) (by rw [hF32]; simp only [f_GasStore_addUser_L32, if_neg c34, if_neg c52]) hP hD hS (lv_sub hl [1, 2, 3, 4, 0] rfl)
    exact loop32 5 us od _ _ _ (in_lt hus) (in_us hus c5) hod (by simp only [f_GasStore_addUser, if_pos c5]) hP hD hS (lv_sub hl [2, 3, 4, 1, 0] rfl)
  · refine lv_iconst (v := (-1)) hx hb d_GasStore_addUser_8 (by decide) ?_
    have hP9 := hP.sub (ws' := [(aG, .inr (4, [.ref bG1, .ref bG2, .ref bG3, .ref bG4, .int us, .int mo, .long he, .long gi, .long fl])), (bG1, .inl (cI, 4, .inl rk)), (bG2, .inl (cI, 4, .inl nd)), (bG4, .inl (cI, 4, .inl od))]) [0, 1, 2, 3] rfl
    have hD9 := hD.sub (ws' := [(aG, .inr (4, [.ref bG1, .ref bG2, .ref bG3, .ref bG4, .int us, .int mo, .long he, .long gi, .long fl])), (bG1, .inl (cI, 4, .inl rk)), (bG2, .inl (cI, 4, .inl nd)), (bG4, .inl (cI, 4, .inl od))]) [0, 1, 2, 3] (by decide) rfl
    exact W.iret (v := (-1)) hx hb hr (fun t ht hW => ⟨⟨(-1), (us, rk, nd, od), rfl, by simp only [f_GasStore_addUser, if_neg c5], by rw [ht]; exact hP9, hD9⟩, hS.F ht⟩) hS.2.2 d_GasStore_addUser_9
def f_GasStore_giveTo (he : Int64) (gi : Int64) (nd : Nat → Int32) (gv : Nat → Int64) (p1 : Int32) : Int64 × Int64 × (Nat → Int64) := (he - (if he < (Int32.toInt64 (nd (Int32.toNatClampNeg p1))) then he else (Int32.toInt64 (nd (Int32.toNatClampNeg p1)))), gi + (if he < (Int32.toInt64 (nd (Int32.toNatClampNeg p1))) then he else (Int32.toInt64 (nd (Int32.toNatClampNeg p1)))), vp_updL gv (Int32.toNatClampNeg p1) ((gv (Int32.toNatClampNeg p1)) + (if he < (Int32.toInt64 (nd (Int32.toNatClampNeg p1))) then he else (Int32.toInt64 (nd (Int32.toNatClampNeg p1))))))
abbrev rm_GasStore_giveTo : Room := { frames := 1, cells := 0, slots := 0, locals := 15 }
set_option maxHeartbeats 4000000 in
set_option maxRecDepth 100000 in
theorem c_GasStore_giveTo (l : Launch) (dC : Nat → ClassId) (dI : Nat → Nat → Nat) (cI cL cZ : ClassId) (aG bG1 bG2 bG3 bG4 : Nat) (sz : Nat) (us : Int32) (mo : Int32) (he : Int64) (gi : Int64) (fl : Int64) (nd : Nat → Int32) (gv : Nat → Int64) (p1 : Int32) (hp : vp_in p1 4) : Met l y_GasStore_giveTo w_GasStore_giveTo rm_GasStore_giveTo (va_Pc [.ref aG, .int p1] (c_pre dC dI cI cL cZ [(aG, .inr (4, [.ref bG1, .ref bG2, .ref bG3, .ref bG4, .int us, .int mo, .long he, .long gi, .long fl])), (bG2, .inl (cI, 4, .inl nd)), (bG3, .inl (cL, 4, .inr (.inl gv)))] sz)) (va_Qv (fun (u : Int64 × Int64 × (Nat → Int64)) => f_GasStore_giveTo he gi nd gv p1 = u) (c_post dC dI (fun (u : Int64 × Int64 × (Nat → Int64)) => [(aG, .inr (4, [.ref bG1, .ref bG2, .ref bG3, .ref bG4, .int us, .int mo, .long u.1, .long u.2.1, .long fl])), (bG2, .inl (cI, 4, .inl nd)), (bG3, .inl (cL, 4, .inr (.inl u.2.2)))]) (va_A [(aG, .inr (4, [.ref bG1, .ref bG2, .ref bG3, .ref bG4, .int us, .int mo, .long he, .long gi, .long fl])), (bG2, .inl (cI, 4, .inl nd)), (bG3, .inl (cL, 4, .inr (.inl gv)))] sz)) (va_A [(aG, .inr (4, [.ref bG1, .ref bG2, .ref bG3, .ref bG4, .int us, .int mo, .long he, .long gi, .long fl])), (bG2, .inl (cI, 4, .inl nd)), (bG3, .inl (cL, 4, .inr (.inl gv)))] sz)) 0 0 (va_A [(aG, .inr (4, [.ref bG1, .ref bG2, .ref bG3, .ref bG4, .int us, .int mo, .long he, .long gi, .long fl])), (bG2, .inl (cI, 4, .inl nd)), (bG3, .inl (cL, 4, .inr (.inl gv)))] sz) := by
  refine Met.ofW (cc := b_GasStore_giveTo) (maxL := 4) (ret := none) (by decide) rfl ?_
  intro p e s m args below meth c s₁ B hml hv
  obtain ⟨rfl, hsz, hP, hK, hN, hD0⟩ := hv
  have hx := B.exec
  have hb := B.bytes
  have hr := B.returns
  have hts := atoms_spec (ws := w_GasStore_giveTo) B.pre
  have hown : s.vm.findClass R_GasStore = some m.cls := findClass_of_methodNamed B.named
  have hlocks := B.notSynchronized
  have hwg : ∀ w ∈ wg, w.before ([.ref aG, .int p1] : List Value).toArray s = true := fun w h => hts w (List.mem_cons_of_mem _ h)
  subst hsz
  have hD := hD0.self (sz := s.heap.size)
  generalize hAe : va_A [(aG, .inr (4, [.ref bG1, .ref bG2, .ref bG3, .ref bG4, .int us, .int mo, .long he, .long gi, .long fl])), (bG2, .inl (cI, 4, .inl nd)), (bG3, .inl (cL, 4, .inr (.inl gv)))] s.heap.size = A at hD ⊢
  have hA : ∀ q : Nat, s.heap.size ≤ q → A q := fun q h => by rw [← hAe]; exact Or.inr h
  have hS : va_S A s.heap s.heap [] := va_S.rf
  have hP : va_P (dC, dI) vwCl [(aG, .inr (4, [.ref bG1, .ref bG2, .ref bG3, .ref bG4, .int us, .int mo, .long he, .long gi, .long fl])), (bG2, .inl (cI, 4, .inl nd)), (bG3, .inl (cL, 4, .inr (.inl gv)))] s.heap := hP
  have hl := lv_entry ([.ref aG, .int p1]) (n := 4) (Nat.le_of_ble_eq_true rfl)
  rw [lg_entry_eq]
  generalize (lg_sl ([.ref aG, .int p1]) ++ List.replicate (4 - (lg_sl ([.ref aG, .int p1])).length) Slot.unset).toArray = ls at hl ⊢
  have hl : lv_has ls 4 [(0, .ref aG), (1, .int p1)] := hl
  refine lv_aload_n hx hb d_GasStore_giveTo_0 rfl (lv_at hl 0 rfl) ?_
  refine va_get (D := (dC, dI)) (ci := 4) (v := .ref bG2) (C := R_GasStore) (T := F_GasStore) (N := 9) hx hb hwg iu_GasStore hown hK hP 0 rfl rfl 1 (by decide) (hwg _ kw_67) (fun _ h9 => h9) rfl d_GasStore_giveTo_1 ?_
  refine lv_iload_n hx hb d_GasStore_giveTo_4 rfl (lv_at hl 1 rfl) ?_
  refine va_iald hx hb hK hP 1 0 rfl rfl hp d_GasStore_giveTo_5 ?_
  refine lv_i2l hx hb d_GasStore_giveTo_6 rfl ?_
  refine lv_aload_n hx hb d_GasStore_giveTo_7 rfl (lv_at hl 0 rfl) ?_
  refine va_get (D := (dC, dI)) (ci := 4) (v := .long he) (C := R_GasStore) (T := F_GasStore) (N := 9) hx hb hwg iu_GasStore hown hK hP 0 rfl rfl 6 (by decide) (hwg _ kw_72) (fun _ h9 => h9) rfl d_GasStore_giveTo_8 ?_
  refine va_mmin_long hx hb (hml.trans hl.1.symm) hown (hwg _ kw_222) (hwg _ kw_223) (hwg _ kw_22) (hwg _ kw_224) (Nat.le_of_ble_eq_true rfl) (Nat.le_of_ble_eq_true rfl) (Nat.zero_le _) (Nat.zero_le _) d_GasStore_giveTo_11 ?_
  refine lv_lstore_n (lv' := [(2, .long (if he < (Int32.toInt64 (nd (Int32.toNatClampNeg p1))) then he else (Int32.toInt64 (nd (Int32.toNatClampNeg p1))))), (0, .ref aG), (1, .int p1)]) hx hb d_GasStore_giveTo_14 rfl hl (by decide) rfl (fun ls hl => ?_)
  refine lv_aload_n hx hb d_GasStore_giveTo_15 rfl (lv_at hl 1 rfl) ?_
  refine lv_dup hx hb d_GasStore_giveTo_16 rfl ?_
  refine va_get (D := (dC, dI)) (ci := 4) (v := .long he) (C := R_GasStore) (T := F_GasStore) (N := 9) hx hb hwg iu_GasStore hown hK hP 0 rfl rfl 6 (by decide) (hwg _ kw_72) (fun _ h9 => h9) rfl d_GasStore_giveTo_17 ?_
  refine lv_lload_n hx hb d_GasStore_giveTo_20 rfl (lv_at hl 0 rfl) ?_
  refine lv_lsub hx hb d_GasStore_giveTo_21 ?_
  refine va_put (D := (dC, dI)) (ci := 4) (v := .long (he - (if he < (Int32.toInt64 (nd (Int32.toNatClampNeg p1))) then he else (Int32.toInt64 (nd (Int32.toNatClampNeg p1)))))) (ty := .long) (C := R_GasStore) (T := F_GasStore) (N := 9) hx hb hwg iu_GasStore t_GasStore t_GasStore_ok n_GasStore hown hK hP hD hS 0 rfl rfl 6 (by decide) (hwg _ kw_72) (fun _ h9 => h9) rfl (by decide +kernel) rfl rfl (Nat.le_of_ble_eq_true rfl) d_GasStore_giveTo_22 (fun H22 locs hP hD hS => ?_)
  have hP : va_P (dC, dI) vwCl [(aG, .inr (4, [.ref bG1, .ref bG2, .ref bG3, .ref bG4, .int us, .int mo, .long (he - (if he < (Int32.toInt64 (nd (Int32.toNatClampNeg p1))) then he else (Int32.toInt64 (nd (Int32.toNatClampNeg p1))))), .long gi, .long fl])), (bG2, .inl (cI, 4, .inl nd)), (bG3, .inl (cL, 4, .inr (.inl gv)))] H22 := hP
  have hD : va_D A [(aG, .inr (4, [.ref bG1, .ref bG2, .ref bG3, .ref bG4, .int us, .int mo, .long (he - (if he < (Int32.toInt64 (nd (Int32.toNatClampNeg p1))) then he else (Int32.toInt64 (nd (Int32.toNatClampNeg p1))))), .long gi, .long fl])), (bG2, .inl (cI, 4, .inl nd)), (bG3, .inl (cL, 4, .inr (.inl gv)))] := hD
  refine lv_aload_n hx hb d_GasStore_giveTo_25 rfl (lv_at hl 1 rfl) ?_
  refine va_get (D := (dC, dI)) (ci := 4) (v := .ref bG3) (C := R_GasStore) (T := F_GasStore) (N := 9) hx hb hwg iu_GasStore hown hK hP 0 rfl rfl 2 (by decide) (hwg _ kw_68) (fun _ h9 => h9) rfl d_GasStore_giveTo_26 ?_
  refine lv_iload_n hx hb d_GasStore_giveTo_29 rfl (lv_at hl 2 rfl) ?_
  refine lv_dup2_11 hx hb d_GasStore_giveTo_30 rfl rfl ?_
  refine va_lald hx hb hK hP 2 1 rfl rfl hp d_GasStore_giveTo_31 ?_
  refine lv_lload_n hx hb d_GasStore_giveTo_32 rfl (lv_at hl 0 rfl) ?_
  refine lv_ladd hx hb d_GasStore_giveTo_33 ?_
  refine va_last hx hb hK hP hD hS 2 1 rfl rfl hp d_GasStore_giveTo_34 (fun H34 locs hP hD hS => ?_)
  have hP : va_P (dC, dI) vwCl [(aG, .inr (4, [.ref bG1, .ref bG2, .ref bG3, .ref bG4, .int us, .int mo, .long (he - (if he < (Int32.toInt64 (nd (Int32.toNatClampNeg p1))) then he else (Int32.toInt64 (nd (Int32.toNatClampNeg p1))))), .long gi, .long fl])), (bG2, .inl (cI, 4, .inl nd)), (bG3, .inl (cL, 4, .inr (.inl (vp_updL gv (Int32.toNatClampNeg p1) ((gv (Int32.toNatClampNeg p1)) + (if he < (Int32.toInt64 (nd (Int32.toNatClampNeg p1))) then he else (Int32.toInt64 (nd (Int32.toNatClampNeg p1)))))))))] H34 := hP
  have hD : va_D A [(aG, .inr (4, [.ref bG1, .ref bG2, .ref bG3, .ref bG4, .int us, .int mo, .long (he - (if he < (Int32.toInt64 (nd (Int32.toNatClampNeg p1))) then he else (Int32.toInt64 (nd (Int32.toNatClampNeg p1))))), .long gi, .long fl])), (bG2, .inl (cI, 4, .inl nd)), (bG3, .inl (cL, 4, .inr (.inl (vp_updL gv (Int32.toNatClampNeg p1) ((gv (Int32.toNatClampNeg p1)) + (if he < (Int32.toInt64 (nd (Int32.toNatClampNeg p1))) then he else (Int32.toInt64 (nd (Int32.toNatClampNeg p1)))))))))] := hD
  refine lv_aload_n hx hb d_GasStore_giveTo_35 rfl (lv_at hl 1 rfl) ?_
  refine lv_dup hx hb d_GasStore_giveTo_36 rfl ?_
  refine va_get (D := (dC, dI)) (ci := 4) (v := .long gi) (C := R_GasStore) (T := F_GasStore) (N := 9) hx hb hwg iu_GasStore hown hK hP 0 rfl rfl 7 (by decide) (hwg _ kw_73) (fun _ h9 => h9) rfl d_GasStore_giveTo_37 ?_
  refine lv_lload_n hx hb d_GasStore_giveTo_40 rfl (lv_at hl 0 rfl) ?_
  refine lv_ladd hx hb d_GasStore_giveTo_41 ?_
  refine va_put (D := (dC, dI)) (ci := 4) (v := .long (gi + (if he < (Int32.toInt64 (nd (Int32.toNatClampNeg p1))) then he else (Int32.toInt64 (nd (Int32.toNatClampNeg p1)))))) (ty := .long) (C := R_GasStore) (T := F_GasStore) (N := 9) hx hb hwg iu_GasStore t_GasStore t_GasStore_ok n_GasStore hown hK hP hD hS 0 rfl rfl 7 (by decide) (hwg _ kw_73) (fun _ h9 => h9) rfl (by decide +kernel) rfl rfl (Nat.le_of_ble_eq_true rfl) d_GasStore_giveTo_42 (fun H42 locs hP hD hS => ?_)
  have hP : va_P (dC, dI) vwCl [(aG, .inr (4, [.ref bG1, .ref bG2, .ref bG3, .ref bG4, .int us, .int mo, .long (he - (if he < (Int32.toInt64 (nd (Int32.toNatClampNeg p1))) then he else (Int32.toInt64 (nd (Int32.toNatClampNeg p1))))), .long (gi + (if he < (Int32.toInt64 (nd (Int32.toNatClampNeg p1))) then he else (Int32.toInt64 (nd (Int32.toNatClampNeg p1))))), .long fl])), (bG2, .inl (cI, 4, .inl nd)), (bG3, .inl (cL, 4, .inr (.inl (vp_updL gv (Int32.toNatClampNeg p1) ((gv (Int32.toNatClampNeg p1)) + (if he < (Int32.toInt64 (nd (Int32.toNatClampNeg p1))) then he else (Int32.toInt64 (nd (Int32.toNatClampNeg p1)))))))))] H42 := hP
  have hD : va_D A [(aG, .inr (4, [.ref bG1, .ref bG2, .ref bG3, .ref bG4, .int us, .int mo, .long (he - (if he < (Int32.toInt64 (nd (Int32.toNatClampNeg p1))) then he else (Int32.toInt64 (nd (Int32.toNatClampNeg p1))))), .long (gi + (if he < (Int32.toInt64 (nd (Int32.toNatClampNeg p1))) then he else (Int32.toInt64 (nd (Int32.toNatClampNeg p1))))), .long fl])), (bG2, .inl (cI, 4, .inl nd)), (bG3, .inl (cL, 4, .inr (.inl (vp_updL gv (Int32.toNatClampNeg p1) ((gv (Int32.toNatClampNeg p1)) + (if he < (Int32.toInt64 (nd (Int32.toNatClampNeg p1))) then he else (Int32.toInt64 (nd (Int32.toNatClampNeg p1)))))))))] := hD
  have hP9 := hP.sub (ws' := [(aG, .inr (4, [.ref bG1, .ref bG2, .ref bG3, .ref bG4, .int us, .int mo, .long (he - (if he < (Int32.toInt64 (nd (Int32.toNatClampNeg p1))) then he else (Int32.toInt64 (nd (Int32.toNatClampNeg p1))))), .long (gi + (if he < (Int32.toInt64 (nd (Int32.toNatClampNeg p1))) then he else (Int32.toInt64 (nd (Int32.toNatClampNeg p1))))), .long fl])), (bG2, .inl (cI, 4, .inl nd)), (bG3, .inl (cL, 4, .inr (.inl (vp_updL gv (Int32.toNatClampNeg p1) ((gv (Int32.toNatClampNeg p1)) + (if he < (Int32.toInt64 (nd (Int32.toNatClampNeg p1))) then he else (Int32.toInt64 (nd (Int32.toNatClampNeg p1)))))))))]) [0, 1, 2] rfl
  have hD9 := hD.sub (ws' := [(aG, .inr (4, [.ref bG1, .ref bG2, .ref bG3, .ref bG4, .int us, .int mo, .long (he - (if he < (Int32.toInt64 (nd (Int32.toNatClampNeg p1))) then he else (Int32.toInt64 (nd (Int32.toNatClampNeg p1))))), .long (gi + (if he < (Int32.toInt64 (nd (Int32.toNatClampNeg p1))) then he else (Int32.toInt64 (nd (Int32.toNatClampNeg p1))))), .long fl])), (bG2, .inl (cI, 4, .inl nd)), (bG3, .inl (cL, 4, .inr (.inl (vp_updL gv (Int32.toNatClampNeg p1) ((gv (Int32.toNatClampNeg p1)) + (if he < (Int32.toInt64 (nd (Int32.toNatClampNeg p1))) then he else (Int32.toInt64 (nd (Int32.toNatClampNeg p1)))))))))]) [0, 1, 2] (by decide) rfl
  exact W.vret hx hb hr (fun t ht hW => ⟨⟨(he - (if he < (Int32.toInt64 (nd (Int32.toNatClampNeg p1))) then he else (Int32.toInt64 (nd (Int32.toNatClampNeg p1)))), gi + (if he < (Int32.toInt64 (nd (Int32.toNatClampNeg p1))) then he else (Int32.toInt64 (nd (Int32.toNatClampNeg p1)))), vp_updL gv (Int32.toNatClampNeg p1) ((gv (Int32.toNatClampNeg p1)) + (if he < (Int32.toInt64 (nd (Int32.toNatClampNeg p1))) then he else (Int32.toInt64 (nd (Int32.toNatClampNeg p1)))))), rfl, by simp only [f_GasStore_giveTo], by rw [ht]; exact hP9, hD9⟩, hS.F ht⟩) hS.2.2 d_GasStore_giveTo_45
def f_GasStore_passGas_L12 (us : Int32) (mo : Int32) (fl : Int64) (nd : Nat → Int32) (od : Nat → Int32) : Nat → Int32 → Int64 → Int64 → (Nat → Int64) → Int64 × Int64 × Int64 × (Nat → Int64)
  | 0, _, _, _, _ => (0, 0, 0, fun _ => 0)
  | n + 1, iv, he2, gi2, gv2 => if us ≤ iv then ((he2 - (if (he2 - (Int32.toInt64 mo)) < 0 then 0 else (he2 - (Int32.toInt64 mo))), gi2, fl + (if (he2 - (Int32.toInt64 mo)) < 0 then 0 else (he2 - (Int32.toInt64 mo))), gv2)) else (match f_GasStore_giveTo he2 gi2 nd gv2 (od (Int32.toNatClampNeg iv)) with | (he_27, gi_27, gv_27) => f_GasStore_passGas_L12 us mo fl nd od n (iv + 1) he_27 gi_27 gv_27)
def f_GasStore_passGas (us : Int32) (mo : Int32) (he : Int64) (gi : Int64) (fl : Int64) (nd : Nat → Int32) (gv : Nat → Int64) (od : Nat → Int32) (p1 : Int64) : Int64 × Int64 × Int64 × (Nat → Int64) := f_GasStore_passGas_L12 us mo fl nd od 5 0 (he + p1) gi gv
abbrev rm_GasStore_passGas : Room := { frames := 2, cells := 0, slots := 0, locals := 38 }
set_option maxHeartbeats 4000000 in
set_option maxRecDepth 100000 in
theorem c_GasStore_passGas (l : Launch) (dC : Nat → ClassId) (dI : Nat → Nat → Nat) (cI cL cZ : ClassId) (aG bG1 bG2 bG3 bG4 : Nat) (sz : Nat) (us : Int32) (mo : Int32) (he : Int64) (gi : Int64) (fl : Int64) (nd : Nat → Int32) (gv : Nat → Int64) (od : Nat → Int32) (p1 : Int64) (hus : vp_in us 5) (hod : ∀ i, i < 4 → vp_in (od i) 4) : Met l y_GasStore_passGas w_GasStore_passGas rm_GasStore_passGas (va_Pc [.ref aG, .long p1] (c_pre dC dI cI cL cZ [(aG, .inr (4, [.ref bG1, .ref bG2, .ref bG3, .ref bG4, .int us, .int mo, .long he, .long gi, .long fl])), (bG2, .inl (cI, 4, .inl nd)), (bG3, .inl (cL, 4, .inr (.inl gv))), (bG4, .inl (cI, 4, .inl od))] sz)) (va_Qv (fun (u : Int64 × Int64 × Int64 × (Nat → Int64)) => f_GasStore_passGas us mo he gi fl nd gv od p1 = u) (c_post dC dI (fun (u : Int64 × Int64 × Int64 × (Nat → Int64)) => [(aG, .inr (4, [.ref bG1, .ref bG2, .ref bG3, .ref bG4, .int us, .int mo, .long u.1, .long u.2.1, .long u.2.2.1])), (bG2, .inl (cI, 4, .inl nd)), (bG3, .inl (cL, 4, .inr (.inl u.2.2.2))), (bG4, .inl (cI, 4, .inl od))]) (va_A [(aG, .inr (4, [.ref bG1, .ref bG2, .ref bG3, .ref bG4, .int us, .int mo, .long he, .long gi, .long fl])), (bG2, .inl (cI, 4, .inl nd)), (bG3, .inl (cL, 4, .inr (.inl gv))), (bG4, .inl (cI, 4, .inl od))] sz)) (va_A [(aG, .inr (4, [.ref bG1, .ref bG2, .ref bG3, .ref bG4, .int us, .int mo, .long he, .long gi, .long fl])), (bG2, .inl (cI, 4, .inl nd)), (bG3, .inl (cL, 4, .inr (.inl gv))), (bG4, .inl (cI, 4, .inl od))] sz)) 0 0 (va_A [(aG, .inr (4, [.ref bG1, .ref bG2, .ref bG3, .ref bG4, .int us, .int mo, .long he, .long gi, .long fl])), (bG2, .inl (cI, 4, .inl nd)), (bG3, .inl (cL, 4, .inr (.inl gv))), (bG4, .inl (cI, 4, .inl od))] sz) := by
  refine Met.ofW (cc := b_GasStore_passGas) (maxL := 5) (ret := none) (by decide) rfl ?_
  intro p e s m args below meth c s₁ B hml hv
  obtain ⟨rfl, hsz, hP, hK, hN, hD0⟩ := hv
  have hx := B.exec
  have hb := B.bytes
  have hr := B.returns
  have hts := atoms_spec (ws := w_GasStore_passGas) B.pre
  have hown : s.vm.findClass R_GasStore = some m.cls := findClass_of_methodNamed B.named
  have hlocks := B.notSynchronized
  have hwg : ∀ w ∈ wg, w.before ([.ref aG, .long p1] : List Value).toArray s = true := fun w h => hts w (List.mem_cons_of_mem _ h)
  subst hsz
  have hD := hD0.self (sz := s.heap.size)
  generalize hAe : va_A [(aG, .inr (4, [.ref bG1, .ref bG2, .ref bG3, .ref bG4, .int us, .int mo, .long he, .long gi, .long fl])), (bG2, .inl (cI, 4, .inl nd)), (bG3, .inl (cL, 4, .inr (.inl gv))), (bG4, .inl (cI, 4, .inl od))] s.heap.size = A at hD ⊢
  have hA : ∀ q : Nat, s.heap.size ≤ q → A q := fun q h => by rw [← hAe]; exact Or.inr h
  have hS : va_S A s.heap s.heap [] := va_S.rf
  have hP : va_P (dC, dI) vwCl [(aG, .inr (4, [.ref bG1, .ref bG2, .ref bG3, .ref bG4, .int us, .int mo, .long he, .long gi, .long fl])), (bG2, .inl (cI, 4, .inl nd)), (bG3, .inl (cL, 4, .inr (.inl gv))), (bG4, .inl (cI, 4, .inl od))] s.heap := hP
  have hl := lv_entry ([.ref aG, .long p1]) (n := 5) (Nat.le_of_ble_eq_true rfl)
  rw [lg_entry_eq]
  generalize (lg_sl ([.ref aG, .long p1]) ++ List.replicate (5 - (lg_sl ([.ref aG, .long p1])).length) Slot.unset).toArray = ls at hl ⊢
  have hl : lv_has ls 5 [(0, .ref aG), (1, .long p1)] := hl
  refine lv_aload_n hx hb d_GasStore_passGas_0 rfl (lv_at hl 0 rfl) ?_
  refine lv_dup hx hb d_GasStore_passGas_1 rfl ?_
  refine va_get (D := (dC, dI)) (ci := 4) (v := .long he) (C := R_GasStore) (T := F_GasStore) (N := 9) hx hb hwg iu_GasStore hown hK hP 0 rfl rfl 6 (by decide) (hwg _ kw_72) (fun _ h9 => h9) rfl d_GasStore_passGas_2 ?_
  refine lv_lload_n hx hb d_GasStore_passGas_5 rfl (lv_at hl 1 rfl) ?_
  refine lv_ladd hx hb d_GasStore_passGas_6 ?_
  refine va_put (D := (dC, dI)) (ci := 4) (v := .long (he + p1)) (ty := .long) (C := R_GasStore) (T := F_GasStore) (N := 9) hx hb hwg iu_GasStore t_GasStore t_GasStore_ok n_GasStore hown hK hP hD hS 0 rfl rfl 6 (by decide) (hwg _ kw_72) (fun _ h9 => h9) rfl (by decide +kernel) rfl rfl (Nat.le_of_ble_eq_true rfl) d_GasStore_passGas_7 (fun H7 locs hP hD hS => ?_)
  have hP : va_P (dC, dI) vwCl [(aG, .inr (4, [.ref bG1, .ref bG2, .ref bG3, .ref bG4, .int us, .int mo, .long (he + p1), .long gi, .long fl])), (bG2, .inl (cI, 4, .inl nd)), (bG3, .inl (cL, 4, .inr (.inl gv))), (bG4, .inl (cI, 4, .inl od))] H7 := hP
  have hD : va_D A [(aG, .inr (4, [.ref bG1, .ref bG2, .ref bG3, .ref bG4, .int us, .int mo, .long (he + p1), .long gi, .long fl])), (bG2, .inl (cI, 4, .inl nd)), (bG3, .inl (cL, 4, .inr (.inl gv))), (bG4, .inl (cI, 4, .inl od))] := hD
  refine lv_iconst (v := 0) hx hb d_GasStore_passGas_10 (by decide) ?_
  refine lv_istore_n (lv' := [(3, .int 0), (0, .ref aG), (1, .long p1)]) hx hb d_GasStore_passGas_11 rfl hl (by decide) rfl (fun ls hl => ?_)
  have loop12 : ∀ (n12 : Nat) (iv : Int32) (he2 : Int64) (gi2 : Int64) (gv2 : Nat → Int64) (H12 : Heap) (locs : List Loc) (ls : Array Slot), 4 - iv.toNatClampNeg < n12 → (vp_in iv 5) → f_GasStore_passGas us mo he gi fl nd gv od p1 = f_GasStore_passGas_L12 us mo fl nd od n12 iv he2 gi2 gv2 → va_P (dC, dI) vwCl [(aG, .inr (4, [.ref bG1, .ref bG2, .ref bG3, .ref bG4, .int us, .int mo, .long he2, .long gi2, .long fl])), (bG2, .inl (cI, 4, .inl nd)), (bG3, .inl (cL, 4, .inr (.inl gv2))), (bG4, .inl (cI, 4, .inl od))] H12 → va_D A [(aG, .inr (4, [.ref bG1, .ref bG2, .ref bG3, .ref bG4, .int us, .int mo, .long he2, .long gi2, .long fl])), (bG2, .inl (cI, 4, .inl nd)), (bG3, .inl (cL, 4, .inr (.inl gv2))), (bG4, .inl (cI, 4, .inl od))] → va_S A s.heap H12 locs → lv_has ls 5 [(0, .ref aG), (1, .long p1), (3, .int iv)] → W p l e (headSpec w_GasStore_passGas rm_GasStore_passGas).room s m ([.ref aG, .long p1] : List Value).toArray below meth c H12 locs 0 0 (MQ below (va_Qv (fun (u : Int64 × Int64 × Int64 × (Nat → Int64)) => f_GasStore_passGas us mo he gi fl nd gv od p1 = u) (c_post dC dI (fun (u : Int64 × Int64 × Int64 × (Nat → Int64)) => [(aG, .inr (4, [.ref bG1, .ref bG2, .ref bG3, .ref bG4, .int us, .int mo, .long u.1, .long u.2.1, .long u.2.2.1])), (bG2, .inl (cI, 4, .inl nd)), (bG3, .inl (cL, 4, .inr (.inl u.2.2.2))), (bG4, .inl (cI, 4, .inl od))]) A) A) ([.ref aG, .long p1] : List Value).toArray s 0 0 A) (F0 m 12 ls []) := by
    intro n12
    induction n12 with
    | zero => intro iv he2 gi2 gv2 H12 locs ls hm; exact absurd hm (Nat.not_lt_zero _)
    | succ n12 ih12 =>
      intro iv he2 gi2 gv2 H12 locs ls hm12 hiv hF12 hP hD hS hl
      refine lv_iload_n hx hb d_GasStore_passGas_12 rfl (lv_at hl 2 rfl) ?_
      refine lv_aload_n hx hb d_GasStore_passGas_13 rfl (lv_at hl 0 rfl) ?_
      refine va_get (D := (dC, dI)) (ci := 4) (v := .int us) (C := R_GasStore) (T := F_GasStore) (N := 9) hx hb hwg iu_GasStore hown hK hP 0 rfl rfl 4 (by decide) (hwg _ kw_70) (fun _ h9 => h9) rfl d_GasStore_passGas_14 ?_
      refine lv_icmp_ge (tgt := 36) hx hb d_GasStore_passGas_17 (by decide) (fun (c17 : us ≤ iv) => ?_) (fun (c17 : ¬ (us ≤ iv)) => ?_)
      · refine lv_lconst (v := 0) hx hb d_GasStore_passGas_36 (by decide) ?_
        refine lv_aload_n hx hb d_GasStore_passGas_37 rfl (lv_at hl 0 rfl) ?_
        refine va_get (D := (dC, dI)) (ci := 4) (v := .long he2) (C := R_GasStore) (T := F_GasStore) (N := 9) hx hb hwg iu_GasStore hown hK hP 0 rfl rfl 6 (by decide) (hwg _ kw_72) (fun _ h9 => h9) rfl d_GasStore_passGas_38 ?_
        refine lv_aload_n hx hb d_GasStore_passGas_41 rfl (lv_at hl 0 rfl) ?_
        refine va_get (D := (dC, dI)) (ci := 4) (v := .int mo) (C := R_GasStore) (T := F_GasStore) (N := 9) hx hb hwg iu_GasStore hown hK hP 0 rfl rfl 5 (by decide) (hwg _ kw_71) (fun _ h9 => h9) rfl d_GasStore_passGas_42 ?_
        refine lv_i2l hx hb d_GasStore_passGas_45 rfl ?_
        refine lv_lsub hx hb d_GasStore_passGas_46 ?_
        refine va_mmax_long hx hb (hml.trans hl.1.symm) hown (hwg _ kw_225) (hwg _ kw_226) (hwg _ kw_22) (hwg _ kw_227) (Nat.le_of_ble_eq_true rfl) (Nat.le_of_ble_eq_true rfl) (Nat.zero_le _) (Nat.zero_le _) d_GasStore_passGas_47 ?_
        refine lv_lstore_n (lv' := [(3, .long (if (he2 - (Int32.toInt64 mo)) < 0 then 0 else (he2 - (Int32.toInt64 mo)))), (0, .ref aG), (1, .long p1)]) hx hb d_GasStore_passGas_50 rfl hl (by decide) rfl (fun ls hl => ?_)
        refine lv_aload_n hx hb d_GasStore_passGas_51 rfl (lv_at hl 1 rfl) ?_
        refine lv_dup hx hb d_GasStore_passGas_52 rfl ?_
        refine va_get (D := (dC, dI)) (ci := 4) (v := .long he2) (C := R_GasStore) (T := F_GasStore) (N := 9) hx hb hwg iu_GasStore hown hK hP 0 rfl rfl 6 (by decide) (hwg _ kw_72) (fun _ h9 => h9) rfl d_GasStore_passGas_53 ?_
        refine lv_lload_n hx hb d_GasStore_passGas_56 rfl (lv_at hl 0 rfl) ?_
        refine lv_lsub hx hb d_GasStore_passGas_57 ?_
        refine va_put (D := (dC, dI)) (ci := 4) (v := .long (he2 - (if (he2 - (Int32.toInt64 mo)) < 0 then 0 else (he2 - (Int32.toInt64 mo))))) (ty := .long) (C := R_GasStore) (T := F_GasStore) (N := 9) hx hb hwg iu_GasStore t_GasStore t_GasStore_ok n_GasStore hown hK hP hD hS 0 rfl rfl 6 (by decide) (hwg _ kw_72) (fun _ h9 => h9) rfl (by decide +kernel) rfl rfl (Nat.le_of_ble_eq_true rfl) d_GasStore_passGas_58 (fun H58 locs hP hD hS => ?_)
        have hP : va_P (dC, dI) vwCl [(aG, .inr (4, [.ref bG1, .ref bG2, .ref bG3, .ref bG4, .int us, .int mo, .long (he2 - (if (he2 - (Int32.toInt64 mo)) < 0 then 0 else (he2 - (Int32.toInt64 mo)))), .long gi2, .long fl])), (bG2, .inl (cI, 4, .inl nd)), (bG3, .inl (cL, 4, .inr (.inl gv2))), (bG4, .inl (cI, 4, .inl od))] H58 := hP
        have hD : va_D A [(aG, .inr (4, [.ref bG1, .ref bG2, .ref bG3, .ref bG4, .int us, .int mo, .long (he2 - (if (he2 - (Int32.toInt64 mo)) < 0 then 0 else (he2 - (Int32.toInt64 mo)))), .long gi2, .long fl])), (bG2, .inl (cI, 4, .inl nd)), (bG3, .inl (cL, 4, .inr (.inl gv2))), (bG4, .inl (cI, 4, .inl od))] := hD
        refine lv_aload_n hx hb d_GasStore_passGas_61 rfl (lv_at hl 1 rfl) ?_
        refine lv_dup hx hb d_GasStore_passGas_62 rfl ?_
        refine va_get (D := (dC, dI)) (ci := 4) (v := .long fl) (C := R_GasStore) (T := F_GasStore) (N := 9) hx hb hwg iu_GasStore hown hK hP 0 rfl rfl 8 (by decide) (hwg _ kw_74) (fun _ h9 => h9) rfl d_GasStore_passGas_63 ?_
        refine lv_lload_n hx hb d_GasStore_passGas_66 rfl (lv_at hl 0 rfl) ?_
        refine lv_ladd hx hb d_GasStore_passGas_67 ?_
        refine va_put (D := (dC, dI)) (ci := 4) (v := .long (fl + (if (he2 - (Int32.toInt64 mo)) < 0 then 0 else (he2 - (Int32.toInt64 mo))))) (ty := .long) (C := R_GasStore) (T := F_GasStore) (N := 9) hx hb hwg iu_GasStore t_GasStore t_GasStore_ok n_GasStore hown hK hP hD hS 0 rfl rfl 8 (by decide) (hwg _ kw_74) (fun _ h9 => h9) rfl (by decide +kernel) rfl rfl (Nat.le_of_ble_eq_true rfl) d_GasStore_passGas_68 (fun H68 locs hP hD hS => ?_)
        have hP : va_P (dC, dI) vwCl [(aG, .inr (4, [.ref bG1, .ref bG2, .ref bG3, .ref bG4, .int us, .int mo, .long (he2 - (if (he2 - (Int32.toInt64 mo)) < 0 then 0 else (he2 - (Int32.toInt64 mo)))), .long gi2, .long (fl + (if (he2 - (Int32.toInt64 mo)) < 0 then 0 else (he2 - (Int32.toInt64 mo))))])), (bG2, .inl (cI, 4, .inl nd)), (bG3, .inl (cL, 4, .inr (.inl gv2))), (bG4, .inl (cI, 4, .inl od))] H68 := hP
        have hD : va_D A [(aG, .inr (4, [.ref bG1, .ref bG2, .ref bG3, .ref bG4, .int us, .int mo, .long (he2 - (if (he2 - (Int32.toInt64 mo)) < 0 then 0 else (he2 - (Int32.toInt64 mo)))), .long gi2, .long (fl + (if (he2 - (Int32.toInt64 mo)) < 0 then 0 else (he2 - (Int32.toInt64 mo))))])), (bG2, .inl (cI, 4, .inl nd)), (bG3, .inl (cL, 4, .inr (.inl gv2))), (bG4, .inl (cI, 4, .inl od))] := hD
        have hP9 := hP.sub (ws' := [(aG, .inr (4, [.ref bG1, .ref bG2, .ref bG3, .ref bG4, .int us, .int mo, .long (he2 - (if (he2 - (Int32.toInt64 mo)) < 0 then 0 else (he2 - (Int32.toInt64 mo)))), .long gi2, .long (fl + (if (he2 - (Int32.toInt64 mo)) < 0 then 0 else (he2 - (Int32.toInt64 mo))))])), (bG2, .inl (cI, 4, .inl nd)), (bG3, .inl (cL, 4, .inr (.inl gv2))), (bG4, .inl (cI, 4, .inl od))]) [0, 1, 2, 3] rfl
        have hD9 := hD.sub (ws' := [(aG, .inr (4, [.ref bG1, .ref bG2, .ref bG3, .ref bG4, .int us, .int mo, .long (he2 - (if (he2 - (Int32.toInt64 mo)) < 0 then 0 else (he2 - (Int32.toInt64 mo)))), .long gi2, .long (fl + (if (he2 - (Int32.toInt64 mo)) < 0 then 0 else (he2 - (Int32.toInt64 mo))))])), (bG2, .inl (cI, 4, .inl nd)), (bG3, .inl (cL, 4, .inr (.inl gv2))), (bG4, .inl (cI, 4, .inl od))]) [0, 1, 2, 3] (by decide) rfl
        exact W.vret hx hb hr (fun t ht hW => ⟨⟨(he2 - (if (he2 - (Int32.toInt64 mo)) < 0 then 0 else (he2 - (Int32.toInt64 mo))), gi2, fl + (if (he2 - (Int32.toInt64 mo)) < 0 then 0 else (he2 - (Int32.toInt64 mo))), gv2), rfl, by rw [hF12]; simp only [f_GasStore_passGas_L12, if_pos c17], by rw [ht]; exact hP9, hD9⟩, hS.F ht⟩) hS.2.2 d_GasStore_passGas_71
      · refine lv_aload_n hx hb d_GasStore_passGas_20 rfl (lv_at hl 0 rfl) ?_
        refine lv_aload_n hx hb d_GasStore_passGas_21 rfl (lv_at hl 0 rfl) ?_
        refine va_get (D := (dC, dI)) (ci := 4) (v := .ref bG4) (C := R_GasStore) (T := F_GasStore) (N := 9) hx hb hwg iu_GasStore hown hK hP 0 rfl rfl 3 (by decide) (hwg _ kw_69) (fun _ h9 => h9) rfl d_GasStore_passGas_22 ?_
        refine lv_iload_n hx hb d_GasStore_passGas_25 rfl (lv_at hl 2 rfl) ?_
        refine va_iald hx hb hK hP 3 0 rfl rfl (in_lt4 hiv hus c17) d_GasStore_passGas_26 ?_
        have hPc := hP.sub (ws' := [(aG, .inr (4, [.ref bG1, .ref bG2, .ref bG3, .ref bG4, .int us, .int mo, .long he2, .long gi2, .long fl])), (bG2, .inl (cI, 4, .inl nd)), (bG3, .inl (cL, 4, .inr (.inl gv2)))]) [0, 1, 2] rfl
        have hDc := hD.sub (ws' := [(aG, .inr (4, [.ref bG1, .ref bG2, .ref bG3, .ref bG4, .int us, .int mo, .long he2, .long gi2, .long fl])), (bG2, .inl (cI, 4, .inl nd)), (bG3, .inl (cL, 4, .inr (.inl gv2)))]) [0, 1, 2] (by decide) rfl
        refine k_callv hP hD hS hA [0, 1, 2] [3] (wc := [(aG, .inr (4, [.ref bG1, .ref bG2, .ref bG3, .ref bG4, .int us, .int mo, .long he2, .long gi2, .long fl])), (bG2, .inl (cI, 4, .inl nd)), (bG3, .inl (cL, 4, .inr (.inl gv2)))]) (wr := [(bG4, .inl (cI, 4, .inl od))]) rfl rfl (by decide) (by decide) (va_runV (As := [.int (od (Int32.toNatClampNeg iv))]) (rest := []) ⟨hx, hb, hml, hown, hwg⟩ (c_GasStore_giveTo l dC dI cI cL cZ aG bG1 bG2 bG3 bG4 H12.size us mo he2 gi2 fl nd gv2 (od (Int32.toNatClampNeg iv)) (in_of hod (in_lt4 hiv hus c17))) (cwV 1 hwg (g_V kw_219 kw_220 kw_5 kw_18 kw_221) rfl rfl rfl (by decide +kernel) ⟨Nat.le_of_ble_eq_true rfl, Nat.le_of_ble_eq_true rfl⟩) ⟨c_pre_call, va_recv hK hPc (ci := 4) (q0 := 0) rfl rfl, c_pre_mk hPc hDc hK hN _⟩ rfl rfl hl.1 rfl (lv_room (Nat.le_of_ble_eq_true rfl)) d_GasStore_passGas_27 ⟨Nat.le_of_ble_eq_true rfl, Nat.le_of_ble_eq_true rfl⟩) (fun u H27 locs w27 hz1 hP hD hS => ?_)
        obtain ⟨he_27, gi_27, gv_27⟩ := u
        have hP := hP.sub (ws' := [(aG, .inr (4, [.ref bG1, .ref bG2, .ref bG3, .ref bG4, .int us, .int mo, .long he_27, .long gi_27, .long fl])), (bG2, .inl (cI, 4, .inl nd)), (bG3, .inl (cL, 4, .inr (.inl gv_27))), (bG4, .inl (cI, 4, .inl od))]) [1, 2, 3, 0] rfl
        have hD := hD.sub (ws' := [(aG, .inr (4, [.ref bG1, .ref bG2, .ref bG3, .ref bG4, .int us, .int mo, .long he_27, .long gi_27, .long fl])), (bG2, .inl (cI, 4, .inl nd)), (bG3, .inl (cL, 4, .inr (.inl gv_27))), (bG4, .inl (cI, 4, .inl od))]) [1, 2, 3, 0] (by decide) rfl
        refine lv_iinc (v := iv + 1) (lv' := [(3, .int (iv + 1)), (0, .ref aG), (1, .long p1)]) hx hb d_GasStore_passGas_30 hl (k := 2) rfl rfl (by decide) rfl (fun ls hl => ?_)
        refine lv_goto (tgt := 12) hx hb d_GasStore_passGas_33 (by decide) ?_
        exact ih12 (iv + 1) he_27 gi_27 gv_27 _ _ _ (up_lt hiv hus c17 hm12) (in_up1 hiv hus c17) (by rw [hF12]; simp only [f_GasStore_passGas_L12, if_neg c17, w27]) hP hD hS (lv_sub hl [1, 2, 0] rfl)
  exact loop12 5 0 (he + p1) gi gv _ _ _ (by decide) (by unfold vp_in; decide) rfl hP hD hS (lv_sub hl [1, 2, 0] rfl)
def f_AcidPeaks_add (pn : Int32) (pl : Nat) (pk : Nat → Int64) (p1 : Int64) : Int32 × (Nat → Int64) := if pn < (nI pl) then (if pn = 0 then ((pn + 1, vp_updL pk (Int32.toNatClampNeg pn) p1)) else ((pn + 1, vp_updL pk (Int32.toNatClampNeg pn) (if (pk (Int32.toNatClampNeg (pn - 1))) < p1 then p1 else (pk (Int32.toNatClampNeg (pn - 1))))))) else ((pn, pk))
abbrev rm_AcidPeaks_add : Room := { frames := 1, cells := 0, slots := 0, locals := 17 }
set_option maxHeartbeats 4000000 in
set_option maxRecDepth 100000 in
theorem c_AcidPeaks_add (l : Launch) (dC : Nat → ClassId) (dI : Nat → Nat → Nat) (cI cL cZ : ClassId) (aP bP : Nat) (sz : Nat) (pn : Int32) (pl : Nat) (pk : Nat → Int64) (p1 : Int64) (hpn : vp_in pn 10001) (hpl : pl ≤ 10000) : Met l y_AcidPeaks_add w_AcidPeaks_add rm_AcidPeaks_add (va_Pc [.ref aP, .long p1] (c_pre dC dI cI cL cZ [(aP, .inr (5, [.ref bP, .int pn])), (bP, .inl (cL, pl, .inr (.inl pk)))] sz)) (va_Qv (fun (u : Int32 × (Nat → Int64)) => f_AcidPeaks_add pn pl pk p1 = u) (c_post dC dI (fun (u : Int32 × (Nat → Int64)) => [(aP, .inr (5, [.ref bP, .int u.1])), (bP, .inl (cL, pl, .inr (.inl u.2)))]) (va_A [(aP, .inr (5, [.ref bP, .int pn])), (bP, .inl (cL, pl, .inr (.inl pk)))] sz)) (va_A [(aP, .inr (5, [.ref bP, .int pn])), (bP, .inl (cL, pl, .inr (.inl pk)))] sz)) 0 0 (va_A [(aP, .inr (5, [.ref bP, .int pn])), (bP, .inl (cL, pl, .inr (.inl pk)))] sz) := by
  refine Met.ofW (cc := b_AcidPeaks_add) (maxL := 3) (ret := none) (by decide) rfl ?_
  intro p e s m args below meth c s₁ B hml hv
  obtain ⟨rfl, hsz, hP, hK, hN, hD0⟩ := hv
  have hx := B.exec
  have hb := B.bytes
  have hr := B.returns
  have hts := atoms_spec (ws := w_AcidPeaks_add) B.pre
  have hown : s.vm.findClass R_AcidPeaks = some m.cls := findClass_of_methodNamed B.named
  have hlocks := B.notSynchronized
  have hwg : ∀ w ∈ wg, w.before ([.ref aP, .long p1] : List Value).toArray s = true := fun w h => hts w (List.mem_cons_of_mem _ h)
  subst hsz
  have hD := hD0.self (sz := s.heap.size)
  generalize hAe : va_A [(aP, .inr (5, [.ref bP, .int pn])), (bP, .inl (cL, pl, .inr (.inl pk)))] s.heap.size = A at hD ⊢
  have hA : ∀ q : Nat, s.heap.size ≤ q → A q := fun q h => by rw [← hAe]; exact Or.inr h
  have hS : va_S A s.heap s.heap [] := va_S.rf
  have hP : va_P (dC, dI) vwCl [(aP, .inr (5, [.ref bP, .int pn])), (bP, .inl (cL, pl, .inr (.inl pk)))] s.heap := hP
  have hl := lv_entry ([.ref aP, .long p1]) (n := 3) (Nat.le_of_ble_eq_true rfl)
  rw [lg_entry_eq]
  generalize (lg_sl ([.ref aP, .long p1]) ++ List.replicate (3 - (lg_sl ([.ref aP, .long p1])).length) Slot.unset).toArray = ls at hl ⊢
  have hl : lv_has ls 3 [(0, .ref aP), (1, .long p1)] := hl
  refine lv_aload_n hx hb d_AcidPeaks_add_0 rfl (lv_at hl 0 rfl) ?_
  refine va_get (D := (dC, dI)) (ci := 5) (v := .int pn) (C := R_AcidPeaks) (T := F_AcidPeaks) (N := 2) hx hb hwg iu_AcidPeaks hown hK hP 0 rfl rfl 1 (by decide) (hwg _ kw_81) (fun _ h9 => h9) rfl d_AcidPeaks_add_1 ?_
  refine lv_aload_n hx hb d_AcidPeaks_add_4 rfl (lv_at hl 0 rfl) ?_
  refine va_get (D := (dC, dI)) (ci := 5) (v := .ref bP) (C := R_AcidPeaks) (T := F_AcidPeaks) (N := 2) hx hb hwg iu_AcidPeaks hown hK hP 0 rfl rfl 0 (by decide) (hwg _ kw_80) (fun _ h9 => h9) rfl d_AcidPeaks_add_5 ?_
  refine va_alen hx hb hK hP 1 1 rfl rfl (v := nI pl) rfl d_AcidPeaks_add_8 ?_
  refine lv_icmp_lt (tgt := 13) hx hb d_AcidPeaks_add_9 (by decide) (fun (c9 : pn < (nI pl)) => ?_) (fun (c9 : ¬ (pn < (nI pl))) => ?_)
  · refine lv_aload_n hx hb d_AcidPeaks_add_13 rfl (lv_at hl 0 rfl) ?_
    refine va_get (D := (dC, dI)) (ci := 5) (v := .ref bP) (C := R_AcidPeaks) (T := F_AcidPeaks) (N := 2) hx hb hwg iu_AcidPeaks hown hK hP 0 rfl rfl 0 (by decide) (hwg _ kw_80) (fun _ h9 => h9) rfl d_AcidPeaks_add_14 ?_
    refine lv_aload_n hx hb d_AcidPeaks_add_17 rfl (lv_at hl 0 rfl) ?_
    refine va_get (D := (dC, dI)) (ci := 5) (v := .int pn) (C := R_AcidPeaks) (T := F_AcidPeaks) (N := 2) hx hb hwg iu_AcidPeaks hown hK hP 0 rfl rfl 1 (by decide) (hwg _ kw_81) (fun _ h9 => h9) rfl d_AcidPeaks_add_18 ?_
    refine lv_aload_n hx hb d_AcidPeaks_add_21 rfl (lv_at hl 0 rfl) ?_
    refine va_get (D := (dC, dI)) (ci := 5) (v := .int pn) (C := R_AcidPeaks) (T := F_AcidPeaks) (N := 2) hx hb hwg iu_AcidPeaks hown hK hP 0 rfl rfl 1 (by decide) (hwg _ kw_81) (fun _ h9 => h9) rfl d_AcidPeaks_add_22 ?_
    refine lv_if_ne (tgt := 32) hx hb d_AcidPeaks_add_25 (by decide) (fun (c25 : ¬ (pn = 0)) => ?_) (fun (c25 : pn = 0) => ?_)
    · refine lv_lload_n hx hb d_AcidPeaks_add_32 rfl (lv_at hl 1 rfl) ?_
      refine lv_aload_n hx hb d_AcidPeaks_add_33 rfl (lv_at hl 0 rfl) ?_
      refine va_get (D := (dC, dI)) (ci := 5) (v := .ref bP) (C := R_AcidPeaks) (T := F_AcidPeaks) (N := 2) hx hb hwg iu_AcidPeaks hown hK hP 0 rfl rfl 0 (by decide) (hwg _ kw_80) (fun _ h9 => h9) rfl d_AcidPeaks_add_34 ?_
      refine lv_aload_n hx hb d_AcidPeaks_add_37 rfl (lv_at hl 0 rfl) ?_
      refine va_get (D := (dC, dI)) (ci := 5) (v := .int pn) (C := R_AcidPeaks) (T := F_AcidPeaks) (N := 2) hx hb hwg iu_AcidPeaks hown hK hP 0 rfl rfl 1 (by decide) (hwg _ kw_81) (fun _ h9 => h9) rfl d_AcidPeaks_add_38 ?_
      refine lv_iconst (v := 1) hx hb d_AcidPeaks_add_41 (by decide) ?_
      refine lv_isub hx hb d_AcidPeaks_add_42 ?_
      refine va_lald hx hb hK hP 1 1 rfl rfl (in_pk1 hpn hpl c9 c25) d_AcidPeaks_add_43 ?_
      refine va_mmax_long hx hb (hml.trans hl.1.symm) hown (hwg _ kw_232) (hwg _ kw_226) (hwg _ kw_22) (hwg _ kw_227) (Nat.le_of_ble_eq_true rfl) (Nat.le_of_ble_eq_true rfl) (Nat.zero_le _) (Nat.zero_le _) d_AcidPeaks_add_44 ?_
      refine va_last hx hb hK hP hD hS 1 1 rfl rfl (in_pk hpn hpl c9) d_AcidPeaks_add_47 (fun H47 locs hP hD hS => ?_)
      have hP : va_P (dC, dI) vwCl [(aP, .inr (5, [.ref bP, .int pn])), (bP, .inl (cL, pl, .inr (.inl (vp_updL pk (Int32.toNatClampNeg pn) (if (pk (Int32.toNatClampNeg (pn - 1))) < p1 then p1 else (pk (Int32.toNatClampNeg (pn - 1))))))))] H47 := hP
      have hD : va_D A [(aP, .inr (5, [.ref bP, .int pn])), (bP, .inl (cL, pl, .inr (.inl (vp_updL pk (Int32.toNatClampNeg pn) (if (pk (Int32.toNatClampNeg (pn - 1))) < p1 then p1 else (pk (Int32.toNatClampNeg (pn - 1))))))))] := hD
      refine lv_aload_n hx hb d_AcidPeaks_add_48 rfl (lv_at hl 0 rfl) ?_
      refine lv_dup hx hb d_AcidPeaks_add_49 rfl ?_
      refine va_get (D := (dC, dI)) (ci := 5) (v := .int pn) (C := R_AcidPeaks) (T := F_AcidPeaks) (N := 2) hx hb hwg iu_AcidPeaks hown hK hP 0 rfl rfl 1 (by decide) (hwg _ kw_81) (fun _ h9 => h9) rfl d_AcidPeaks_add_50 ?_
      refine lv_iconst (v := 1) hx hb d_AcidPeaks_add_53 (by decide) ?_
      refine lv_iadd hx hb d_AcidPeaks_add_54 ?_
      refine va_put (D := (dC, dI)) (ci := 5) (v := .int (pn + 1)) (ty := .int) (C := R_AcidPeaks) (T := F_AcidPeaks) (N := 2) hx hb hwg iu_AcidPeaks t_AcidPeaks t_AcidPeaks_ok n_AcidPeaks hown hK hP hD hS 0 rfl rfl 1 (by decide) (hwg _ kw_81) (fun _ h9 => h9) rfl (by decide +kernel) rfl rfl (Nat.le_of_ble_eq_true rfl) d_AcidPeaks_add_55 (fun H55 locs hP hD hS => ?_)
      have hP : va_P (dC, dI) vwCl [(aP, .inr (5, [.ref bP, .int (pn + 1)])), (bP, .inl (cL, pl, .inr (.inl (vp_updL pk (Int32.toNatClampNeg pn) (if (pk (Int32.toNatClampNeg (pn - 1))) < p1 then p1 else (pk (Int32.toNatClampNeg (pn - 1))))))))] H55 := hP
      have hD : va_D A [(aP, .inr (5, [.ref bP, .int (pn + 1)])), (bP, .inl (cL, pl, .inr (.inl (vp_updL pk (Int32.toNatClampNeg pn) (if (pk (Int32.toNatClampNeg (pn - 1))) < p1 then p1 else (pk (Int32.toNatClampNeg (pn - 1))))))))] := hD
      have hP9 := hP.sub (ws' := [(aP, .inr (5, [.ref bP, .int (pn + 1)])), (bP, .inl (cL, pl, .inr (.inl (vp_updL pk (Int32.toNatClampNeg pn) (if (pk (Int32.toNatClampNeg (pn - 1))) < p1 then p1 else (pk (Int32.toNatClampNeg (pn - 1))))))))]) [0, 1] rfl
      have hD9 := hD.sub (ws' := [(aP, .inr (5, [.ref bP, .int (pn + 1)])), (bP, .inl (cL, pl, .inr (.inl (vp_updL pk (Int32.toNatClampNeg pn) (if (pk (Int32.toNatClampNeg (pn - 1))) < p1 then p1 else (pk (Int32.toNatClampNeg (pn - 1))))))))]) [0, 1] (by decide) rfl
      exact W.vret hx hb hr (fun t ht hW => ⟨⟨(pn + 1, vp_updL pk (Int32.toNatClampNeg pn) (if (pk (Int32.toNatClampNeg (pn - 1))) < p1 then p1 else (pk (Int32.toNatClampNeg (pn - 1))))), rfl, by simp only [f_AcidPeaks_add, if_pos c9, if_neg c25], by rw [ht]; exact hP9, hD9⟩, hS.F ht⟩) hS.2.2 d_AcidPeaks_add_58
    · refine lv_lload_n hx hb d_AcidPeaks_add_28 rfl (lv_at hl 1 rfl) ?_
      refine lv_goto (tgt := 47) hx hb d_AcidPeaks_add_29 (by decide) ?_
      refine va_last hx hb hK hP hD hS 1 1 rfl rfl (in_pk hpn hpl c9) d_AcidPeaks_add_47 (fun H47 locs hP hD hS => ?_)
      have hP : va_P (dC, dI) vwCl [(aP, .inr (5, [.ref bP, .int pn])), (bP, .inl (cL, pl, .inr (.inl (vp_updL pk (Int32.toNatClampNeg pn) p1))))] H47 := hP
      have hD : va_D A [(aP, .inr (5, [.ref bP, .int pn])), (bP, .inl (cL, pl, .inr (.inl (vp_updL pk (Int32.toNatClampNeg pn) p1))))] := hD
      refine lv_aload_n hx hb d_AcidPeaks_add_48 rfl (lv_at hl 0 rfl) ?_
      refine lv_dup hx hb d_AcidPeaks_add_49 rfl ?_
      refine va_get (D := (dC, dI)) (ci := 5) (v := .int pn) (C := R_AcidPeaks) (T := F_AcidPeaks) (N := 2) hx hb hwg iu_AcidPeaks hown hK hP 0 rfl rfl 1 (by decide) (hwg _ kw_81) (fun _ h9 => h9) rfl d_AcidPeaks_add_50 ?_
      refine lv_iconst (v := 1) hx hb d_AcidPeaks_add_53 (by decide) ?_
      refine lv_iadd hx hb d_AcidPeaks_add_54 ?_
      refine va_put (D := (dC, dI)) (ci := 5) (v := .int (pn + 1)) (ty := .int) (C := R_AcidPeaks) (T := F_AcidPeaks) (N := 2) hx hb hwg iu_AcidPeaks t_AcidPeaks t_AcidPeaks_ok n_AcidPeaks hown hK hP hD hS 0 rfl rfl 1 (by decide) (hwg _ kw_81) (fun _ h9 => h9) rfl (by decide +kernel) rfl rfl (Nat.le_of_ble_eq_true rfl) d_AcidPeaks_add_55 (fun H55 locs hP hD hS => ?_)
      have hP : va_P (dC, dI) vwCl [(aP, .inr (5, [.ref bP, .int (pn + 1)])), (bP, .inl (cL, pl, .inr (.inl (vp_updL pk (Int32.toNatClampNeg pn) p1))))] H55 := hP
      have hD : va_D A [(aP, .inr (5, [.ref bP, .int (pn + 1)])), (bP, .inl (cL, pl, .inr (.inl (vp_updL pk (Int32.toNatClampNeg pn) p1))))] := hD
      have hP9 := hP.sub (ws' := [(aP, .inr (5, [.ref bP, .int (pn + 1)])), (bP, .inl (cL, pl, .inr (.inl (vp_updL pk (Int32.toNatClampNeg pn) p1))))]) [0, 1] rfl
      have hD9 := hD.sub (ws' := [(aP, .inr (5, [.ref bP, .int (pn + 1)])), (bP, .inl (cL, pl, .inr (.inl (vp_updL pk (Int32.toNatClampNeg pn) p1))))]) [0, 1] (by decide) rfl
      exact W.vret hx hb hr (fun t ht hW => ⟨⟨(pn + 1, vp_updL pk (Int32.toNatClampNeg pn) p1), rfl, by simp only [f_AcidPeaks_add, if_pos c9, if_pos c25], by rw [ht]; exact hP9, hD9⟩, hS.F ht⟩) hS.2.2 d_AcidPeaks_add_58
  · have hP9 := hP.sub (ws' := [(aP, .inr (5, [.ref bP, .int pn])), (bP, .inl (cL, pl, .inr (.inl pk)))]) [0, 1] rfl
    have hD9 := hD.sub (ws' := [(aP, .inr (5, [.ref bP, .int pn])), (bP, .inl (cL, pl, .inr (.inl pk)))]) [0, 1] (by decide) rfl
    exact W.vret hx hb hr (fun t ht hW => ⟨⟨(pn, pk), rfl, by simp only [f_AcidPeaks_add, if_neg c9], by rw [ht]; exact hP9, hD9⟩, hS.F ht⟩) hS.2.2 d_AcidPeaks_add_12
def f_AcidPeaks_firstAbove_L7 (pn : Int32) (pk : Nat → Int64) (p1 : Int64) : Nat → Int32 → Int32 → Int32
  | 0, _, _ => 0
  | n + 1, ps, jp => if jp ≤ 0 then (if pn ≤ ps then ((-1)) else (ps)) else (if pn < (ps + jp) then (f_AcidPeaks_firstAbove_L7 pn pk p1 n ps (jp >>> ((1 : Int32) &&& 31))) else (if 0 < (lg_cmp (pk (Int32.toNatClampNeg ((ps + jp) - 1))) p1) then (f_AcidPeaks_firstAbove_L7 pn pk p1 n ps (jp >>> ((1 : Int32) &&& 31))) else (f_AcidPeaks_firstAbove_L7 pn pk p1 n (ps + jp) (jp >>> ((1 : Int32) &&& 31)))))
def f_AcidPeaks_firstAbove (pn : Int32) (pk : Nat → Int64) (p1 : Int64) : Int32 := f_AcidPeaks_firstAbove_L7 pn pk p1 8193 0 8192
abbrev rm_AcidPeaks_firstAbove : Room := { frames := 0, cells := 0, slots := 0, locals := 0 }
set_option maxHeartbeats 4000000 in
set_option maxRecDepth 100000 in
theorem c_AcidPeaks_firstAbove (l : Launch) (dC : Nat → ClassId) (dI : Nat → Nat → Nat) (cI cL cZ : ClassId) (aP bP : Nat) (sz : Nat) (pn : Int32) (pl : Nat) (pk : Nat → Int64) (p1 : Int64) (hpn : vp_in pn (pl + 1)) (hpl : pl ≤ 10000) : Met l y_AcidPeaks_firstAbove w_AcidPeaks_firstAbove rm_AcidPeaks_firstAbove (va_Pc [.ref aP, .long p1] (c_pre dC dI cI cL cZ [(aP, .inr (5, [.ref bP, .int pn])), (bP, .inl (cL, pl, .inr (.inl pk)))] sz)) (va_Qi (fun (r : Int32) (_ : Unit) => f_AcidPeaks_firstAbove pn pk p1 = r) (c_post dC dI (fun (u : Unit) => [(aP, .inr (5, [.ref bP, .int pn])), (bP, .inl (cL, pl, .inr (.inl pk)))]) (va_A [(aP, .inr (5, [.ref bP, .int pn])), (bP, .inl (cL, pl, .inr (.inl pk)))] sz)) (va_A [(aP, .inr (5, [.ref bP, .int pn])), (bP, .inl (cL, pl, .inr (.inl pk)))] sz)) 0 0 (va_A [(aP, .inr (5, [.ref bP, .int pn])), (bP, .inl (cL, pl, .inr (.inl pk)))] sz) := by
  refine Met.ofW (cc := b_AcidPeaks_firstAbove) (maxL := 6) (ret := (some .int)) (by decide) rfl ?_
  intro p e s m args below meth c s₁ B hml hv
  obtain ⟨rfl, hsz, hP, hK, hN, hD0⟩ := hv
  have hx := B.exec
  have hb := B.bytes
  have hr := B.returns
  have hts := atoms_spec (ws := w_AcidPeaks_firstAbove) B.pre
  have hown : s.vm.findClass R_AcidPeaks = some m.cls := findClass_of_methodNamed B.named
  have hlocks := B.notSynchronized
  have hwg : ∀ w ∈ wg, w.before ([.ref aP, .long p1] : List Value).toArray s = true := fun w h => hts w (List.mem_cons_of_mem _ h)
  subst hsz
  have hD := hD0.self (sz := s.heap.size)
  generalize hAe : va_A [(aP, .inr (5, [.ref bP, .int pn])), (bP, .inl (cL, pl, .inr (.inl pk)))] s.heap.size = A at hD ⊢
  have hA : ∀ q : Nat, s.heap.size ≤ q → A q := fun q h => by rw [← hAe]; exact Or.inr h
  have hS : va_S A s.heap s.heap [] := va_S.rf
  have hP : va_P (dC, dI) vwCl [(aP, .inr (5, [.ref bP, .int pn])), (bP, .inl (cL, pl, .inr (.inl pk)))] s.heap := hP
  have hl := lv_entry ([.ref aP, .long p1]) (n := 6) (Nat.le_of_ble_eq_true rfl)
  rw [lg_entry_eq]
  generalize (lg_sl ([.ref aP, .long p1]) ++ List.replicate (6 - (lg_sl ([.ref aP, .long p1])).length) Slot.unset).toArray = ls at hl ⊢
  have hl : lv_has ls 6 [(0, .ref aP), (1, .long p1)] := hl
  refine lv_iconst (v := 0) hx hb d_AcidPeaks_firstAbove_0 (by decide) ?_
  refine lv_istore_n (lv' := [(3, .int 0), (0, .ref aP), (1, .long p1)]) hx hb d_AcidPeaks_firstAbove_1 rfl hl (by decide) rfl (fun ls hl => ?_)
  refine lv_sipush (v := 8192) hx hb d_AcidPeaks_firstAbove_2 (by decide) ?_
  refine lv_istore (lv' := [(4, .int 8192), (3, .int 0), (0, .ref aP), (1, .long p1)]) hx hb d_AcidPeaks_firstAbove_5 hl (by decide) rfl (fun ls hl => ?_)
  have loop7 : ∀ (n7 : Nat) (ps : Int32) (jp : Int32) (H7 : Heap) (locs : List Loc) (ls : Array Slot), jp.toNatClampNeg < n7 → (vp_in ps 20001) → (vp_in jp 8193) → f_AcidPeaks_firstAbove pn pk p1 = f_AcidPeaks_firstAbove_L7 pn pk p1 n7 ps jp → va_P (dC, dI) vwCl [(aP, .inr (5, [.ref bP, .int pn])), (bP, .inl (cL, pl, .inr (.inl pk)))] H7 → va_D A [(aP, .inr (5, [.ref bP, .int pn])), (bP, .inl (cL, pl, .inr (.inl pk)))] → va_S A s.heap H7 locs → lv_has ls 6 [(0, .ref aP), (1, .long p1), (3, .int ps), (4, .int jp)] → W p l e (headSpec w_AcidPeaks_firstAbove rm_AcidPeaks_firstAbove).room s m ([.ref aP, .long p1] : List Value).toArray below meth c H7 locs 0 0 (MQ below (va_Qi (fun (r : Int32) (_ : Unit) => f_AcidPeaks_firstAbove pn pk p1 = r) (c_post dC dI (fun (u : Unit) => [(aP, .inr (5, [.ref bP, .int pn])), (bP, .inl (cL, pl, .inr (.inl pk)))]) A) A) ([.ref aP, .long p1] : List Value).toArray s 0 0 A) (F0 m 7 ls []) := by
    intro n7
    induction n7 with
    | zero => intro ps jp H7 locs ls hm; exact absurd hm (Nat.not_lt_zero _)
    | succ n7 ih7 =>
      intro ps jp H7 locs ls hm7 hps hjp hF7 hP hD hS hl
      refine lv_iload hx hb d_AcidPeaks_firstAbove_7 (lv_at hl 3 rfl) ?_
      refine lv_if_le (tgt := 53) hx hb d_AcidPeaks_firstAbove_9 (by decide) (fun (c9 : jp ≤ 0) => ?_) (fun (c9 : ¬ (jp ≤ 0)) => ?_)
      · refine lv_iload_n hx hb d_AcidPeaks_firstAbove_53 rfl (lv_at hl 2 rfl) ?_
        refine lv_aload_n hx hb d_AcidPeaks_firstAbove_54 rfl (lv_at hl 0 rfl) ?_
        refine va_get (D := (dC, dI)) (ci := 5) (v := .int pn) (C := R_AcidPeaks) (T := F_AcidPeaks) (N := 2) hx hb hwg iu_AcidPeaks hown hK hP 0 rfl rfl 1 (by decide) (hwg _ kw_81) (fun _ h9 => h9) rfl d_AcidPeaks_firstAbove_55 ?_
        refine lv_icmp_ge (tgt := 65) hx hb d_AcidPeaks_firstAbove_58 (by decide) (fun (c58 : pn ≤ ps) => ?_) (fun (c58 : ¬ (pn ≤ ps)) => ?_)
        · refine lv_iconst (v := (-1)) hx hb d_AcidPeaks_firstAbove_65 (by decide) ?_
          have hP9 := hP.sub (ws' := [(aP, .inr (5, [.ref bP, .int pn])), (bP, .inl (cL, pl, .inr (.inl pk)))]) [0, 1] rfl
          have hD9 := hD.sub (ws' := [(aP, .inr (5, [.ref bP, .int pn])), (bP, .inl (cL, pl, .inr (.inl pk)))]) [0, 1] (by decide) rfl
          exact W.iret (v := (-1)) hx hb hr (fun t ht hW => ⟨⟨(-1), (), rfl, by rw [hF7]; simp only [f_AcidPeaks_firstAbove_L7, if_pos c9, if_pos c58], by rw [ht]; exact hP9, hD9⟩, hS.F ht⟩) hS.2.2 d_AcidPeaks_firstAbove_66
        · refine lv_iload_n hx hb d_AcidPeaks_firstAbove_61 rfl (lv_at hl 2 rfl) ?_
          refine lv_goto (tgt := 66) hx hb d_AcidPeaks_firstAbove_62 (by decide) ?_
          have hP9 := hP.sub (ws' := [(aP, .inr (5, [.ref bP, .int pn])), (bP, .inl (cL, pl, .inr (.inl pk)))]) [0, 1] rfl
          have hD9 := hD.sub (ws' := [(aP, .inr (5, [.ref bP, .int pn])), (bP, .inl (cL, pl, .inr (.inl pk)))]) [0, 1] (by decide) rfl
          exact W.iret (v := ps) hx hb hr (fun t ht hW => ⟨⟨ps, (), rfl, by rw [hF7]; simp only [f_AcidPeaks_firstAbove_L7, if_pos c9, if_neg c58], by rw [ht]; exact hP9, hD9⟩, hS.F ht⟩) hS.2.2 d_AcidPeaks_firstAbove_66
      · refine lv_iload_n hx hb d_AcidPeaks_firstAbove_12 rfl (lv_at hl 2 rfl) ?_
        refine lv_iload hx hb d_AcidPeaks_firstAbove_13 (lv_at hl 3 rfl) ?_
        refine lv_iadd hx hb d_AcidPeaks_firstAbove_15 ?_
        refine lv_istore (lv' := [(5, .int (ps + jp)), (0, .ref aP), (1, .long p1), (3, .int ps), (4, .int jp)]) hx hb d_AcidPeaks_firstAbove_16 hl (by decide) rfl (fun ls hl => ?_)
        refine lv_iload hx hb d_AcidPeaks_firstAbove_18 (lv_at hl 0 rfl) ?_
        refine lv_aload_n hx hb d_AcidPeaks_firstAbove_20 rfl (lv_at hl 1 rfl) ?_
        refine va_get (D := (dC, dI)) (ci := 5) (v := .int pn) (C := R_AcidPeaks) (T := F_AcidPeaks) (N := 2) hx hb hwg iu_AcidPeaks hown hK hP 0 rfl rfl 1 (by decide) (hwg _ kw_81) (fun _ h9 => h9) rfl d_AcidPeaks_firstAbove_21 ?_
        refine lv_icmp_gt (tgt := 44) hx hb d_AcidPeaks_firstAbove_24 (by decide) (fun (c24 : pn < (ps + jp)) => ?_) (fun (c24 : ¬ (pn < (ps + jp))) => ?_)
        · refine lv_iload hx hb d_AcidPeaks_firstAbove_44 (lv_at hl 4 rfl) ?_
          refine lv_iconst (v := 1) hx hb d_AcidPeaks_firstAbove_46 (by decide) ?_
          refine lv_ishr hx hb d_AcidPeaks_firstAbove_47 ?_
          refine lv_istore (lv' := [(4, .int (jp >>> ((1 : Int32) &&& 31))), (5, .int (ps + jp)), (0, .ref aP), (1, .long p1), (3, .int ps)]) hx hb d_AcidPeaks_firstAbove_48 hl (by decide) rfl (fun ls hl => ?_)
          refine lv_goto (tgt := 7) hx hb d_AcidPeaks_firstAbove_50 (by decide) ?_
          exact ih7 ps (jp >>> ((1 : Int32) &&& 31)) _ _ _ (shr_lt c9 hm7) (by first | assumption | exact in_fas hps hjp hpn hpl c24) (in_shr hjp) (by rw [hF7]; simp only [f_AcidPeaks_firstAbove_L7, if_neg c9, if_pos c24]) hP hD hS (lv_sub hl [2, 3, 4, 0] rfl)
        · refine lv_aload_n hx hb d_AcidPeaks_firstAbove_27 rfl (lv_at hl 1 rfl) ?_
          refine va_get (D := (dC, dI)) (ci := 5) (v := .ref bP) (C := R_AcidPeaks) (T := F_AcidPeaks) (N := 2) hx hb hwg iu_AcidPeaks hown hK hP 0 rfl rfl 0 (by decide) (hwg _ kw_80) (fun _ h9 => h9) rfl d_AcidPeaks_firstAbove_28 ?_
          refine lv_iload hx hb d_AcidPeaks_firstAbove_31 (lv_at hl 0 rfl) ?_
          refine lv_iconst (v := 1) hx hb d_AcidPeaks_firstAbove_33 (by decide) ?_
          refine lv_isub hx hb d_AcidPeaks_firstAbove_34 ?_
          refine va_lald hx hb hK hP 1 1 rfl rfl (in_fa hps hpn hpl c9 hjp c24) d_AcidPeaks_firstAbove_35 ?_
          refine lv_lload_n hx hb d_AcidPeaks_firstAbove_36 rfl (lv_at hl 2 rfl) ?_
          refine W.lcmp hx hb d_AcidPeaks_firstAbove_37 ?_
          refine lv_if_gt (tgt := 44) hx hb d_AcidPeaks_firstAbove_38 (by decide) (fun (c38 : 0 < (lg_cmp (pk (Int32.toNatClampNeg ((ps + jp) - 1))) p1)) => ?_) (fun (c38 : ¬ (0 < (lg_cmp (pk (Int32.toNatClampNeg ((ps + jp) - 1))) p1))) => ?_)
          · refine lv_iload hx hb d_AcidPeaks_firstAbove_44 (lv_at hl 4 rfl) ?_
            refine lv_iconst (v := 1) hx hb d_AcidPeaks_firstAbove_46 (by decide) ?_
            refine lv_ishr hx hb d_AcidPeaks_firstAbove_47 ?_
            refine lv_istore (lv' := [(4, .int (jp >>> ((1 : Int32) &&& 31))), (5, .int (ps + jp)), (0, .ref aP), (1, .long p1), (3, .int ps)]) hx hb d_AcidPeaks_firstAbove_48 hl (by decide) rfl (fun ls hl => ?_)
            refine lv_goto (tgt := 7) hx hb d_AcidPeaks_firstAbove_50 (by decide) ?_
            exact ih7 ps (jp >>> ((1 : Int32) &&& 31)) _ _ _ (shr_lt c9 hm7) (by first | assumption | exact in_fas hps hjp hpn hpl c24) (in_shr hjp) (by rw [hF7]; simp only [f_AcidPeaks_firstAbove_L7, if_neg c9, if_neg c24, if_pos c38]) hP hD hS (lv_sub hl [2, 3, 4, 0] rfl)
          · refine lv_iload hx hb d_AcidPeaks_firstAbove_41 (lv_at hl 0 rfl) ?_
            refine lv_istore_n (lv' := [(3, .int (ps + jp)), (5, .int (ps + jp)), (0, .ref aP), (1, .long p1), (4, .int jp)]) hx hb d_AcidPeaks_firstAbove_43 rfl hl (by decide) rfl (fun ls hl => ?_)
            refine lv_iload hx hb d_AcidPeaks_firstAbove_44 (lv_at hl 4 rfl) ?_
            refine lv_iconst (v := 1) hx hb d_AcidPeaks_firstAbove_46 (by decide) ?_
            refine lv_ishr hx hb d_AcidPeaks_firstAbove_47 ?_
            refine lv_istore (lv' := [(4, .int (jp >>> ((1 : Int32) &&& 31))), (3, .int (ps + jp)), (5, .int (ps + jp)), (0, .ref aP), (1, .long p1)]) hx hb d_AcidPeaks_firstAbove_48 hl (by decide) rfl (fun ls hl => ?_)
            refine lv_goto (tgt := 7) hx hb d_AcidPeaks_firstAbove_50 (by decide) ?_
            exact ih7 (ps + jp) (jp >>> ((1 : Int32) &&& 31)) _ _ _ (shr_lt c9 hm7) (by first | assumption | exact in_fas hps hjp hpn hpl c24) (in_shr hjp) (by rw [hF7]; simp only [f_AcidPeaks_firstAbove_L7, if_neg c9, if_neg c24, if_neg c38]) hP hD hS (lv_sub hl [3, 4, 1, 0] rfl)
  exact loop7 8193 0 8192 _ _ _ (by decide) (by unfold vp_in; decide) (by unfold vp_in; decide) rfl hP hD hS (lv_sub hl [2, 3, 1, 0] rfl)
